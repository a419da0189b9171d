/-! PURE LAYER 21: fault, on both sides at once -/
def rsx (fu p : Nat) (z : Option (Int32 × Mm)) : Option (Int32 × Mm) := bd2 z (fun v5 h4 => if v5 = 0 then some (nI p, h4) else bd1 (mX11_byteAt h4 (h4 0 2)) (fun v6 => if v6 = (59 : Int32) then mlet (wr h4 0 2 ((h4 0 2) + (1 : Int32))) (fun h7 => mX11_fault_25 fu h7) else some (nI p, h4)))
def rcx (fu p : Nat) (z : Option (Int32 × Mm)) : Option (Int32 × Mm) := bd2 z (fun v2 h1 => if nI p < v2 then mX7_readAll_26 fu v2 h1 else some (nI p, h1))
section EV
variable {c m c' m' h : Mm} {n : Nat} {T : Nat → Nat}
theorem rs_ok {fu p e : Nat} (H : TM n T m) (he : m 0 2 = nI e) (hb : e < 1000) (hT : T e = 59) : rsx fu p (some (bI true, m)) = mX11_fault_25 fu (wr m 0 2 (nI (e + 1))) := by
  unfold rsx
  rw [bd2_s, if_neg (by decide), he, byte_m H (by omega), bd1_s, hT, if_pos (show nI 59 = (59 : Int32) from rfl), ad_1, mlet_s]
theorem rs_n1 {fu p : Nat} : rsx fu p (some (bI false, m)) = some (nI p, m) := rfl
theorem rs_n2 {fu p e : Nat} (H : TM n T m) (he : m 0 2 = nI e) (hb : e < 1000) (hT : ¬ T e = 59) : rsx fu p (some (bI true, m)) = some (nI p, m) := by
  have := H.2.2.2.2 e
  unfold rsx
  rw [bd2_s, if_neg (by decide), he, byte_m H (by omega), bd1_s, if_neg (by rw [show (59 : Int32) = nI 59 from rfl, nz_eq (by omega) (by omega)]; exact hT)]
theorem rc_ok {fu p q : Nat} (h : p < q) (hq : q < 1000) : rcx fu p (some (nI q, c)) = mX7_readAll_26 fu (nI q) c := by
  unfold rcx
  rw [bd2_s, if_pos (by rw [nz_lt (by omega) (by omega)]; exact h)]
theorem rc_no {fu p : Nat} (hp : p < 1000) : rcx fu p (some (-4, c)) = some (nI p, c) := by
  unfold rcx
  rw [bd2_s, if_neg]
  rw [i32_lt, nI_toInt (by omega), show (-4 : Int32).toInt = -4 from by decide]
  omega
def StepR (n : Nat) (T : Nat → Nat) (c m : Mm) (p : Nat) : Prop := ∀ fu, (∃ c' m' q us ug ua, rcx fu p (mX7_readItem c (nI p)) = mX7_readAll_26 fu (nI q) c' ∧ rsx fu p (mX11_item (wr m 0 2 (nI (p + 1))) (nI (T p))) = mX11_fault_25 fu m' ∧ m' 0 2 = nI q ∧ p < q ∧ q ≤ 300 ∧ RD c' m' us ug ua ∧ FCd c c' ∧ FMd m m') ∨ ∃ c' m', rcx fu p (mX7_readItem c (nI p)) = some (nI p, c') ∧ rsx fu p (mX11_item (wr m 0 2 (nI (p + 1))) (nI (T p))) = some (nI p, m') ∧ FCd c c' ∧ FMd m m'
theorem st_fm (m : Mm) (x : Int32) : FMd m (wr m 0 2 x) := ⟨fun k k1 _ => wr_cell _ _ _ k1, fun s hs => wr_slot _ _ _ hs⟩
theorem ej_b (T : Nat → Nat) (p j : Nat) : t_ej T p j ≤ p + 3 * j + 2 := by
  have := pj_b T p j
  have := nf_2 T (t_pj T p j)
  unfold t_ej
  omega
theorem st_s (HC : TC n T c) (HM : TM n T m) {p us ug ua : Nat} (hp : p < n) (hl : T p = 115) (R : RD c m us ug ua) : StepR n T c m p := by
  intro fu
  have hn := HC.1
  obtain ⟨⟨r1, r2, r3⟩, ⟨r4, r5, r6⟩, ⟨r7, r8, r9⟩, r10, r11, r12⟩ := R
  have H1 : TM n T (wr m 0 2 (nI (p + 1))) := HM.fr (wr_slot _ _ _ (by decide)) (wr_cell _ _ _ (by decide))
  obtain ⟨m2, b, a1, ⟨a2, a3, a4, a5⟩, a6, a7⟩ := it_s H1 (p := p + 1) (u := us) (wr_same _ _ _ _) (by omega) (by rw [wr_cell _ _ _ (by decide)]; assumption) (by assumption)
  obtain ⟨c2, ⟨b1, b2⟩, b3⟩ := ci_s HC (p := p) (u := us) (by omega) hl (by assumption) (by assumption)
  rw [hl, show nI 115 = (115 : Int32) from rfl, a1]
  have F1 : FMd m m2 := (st_fm m (nI (p + 1))).tr ⟨fun k k1 k2 => a2 k k1 (by omega) (by omega), a3⟩
  have F2 : FCd c c2 := fun k hk => b1 k (by omega) (by omega)
  have H2 : TM n T m2 := HM.fr (F1.2 0 (by decide)) (F1.1 1 (by decide) (by decide))
  have he := ej_b T (p + 1) (5 - 1)
  have hge := pj_ge T (p + 1) 5
  have hpj : t_pj T (p + 1) 5 = t_ej T (p + 1) (5 - 1) + 1 := rfl
  have iff1 : (us < 4 ∧ ∀ j, j < 5 → t_A T (p + 1) (fun j => (rom0 j).toInt) (fun j => (rom1 j).toInt) j ∧ T (t_ej T (p + 1) j) = if j + 1 = 5 then 59 else 44) ↔ b = true ∧ T (t_ej T (p + 1) (5 - 1)) = 59 := by
    rw [a6]
    constructor
    · rintro ⟨z1, z2⟩
      refine ⟨⟨z1, (z2 0 (by omega)).1, fun i i1 i2 => ⟨?_, (z2 i i2).1⟩⟩, ?_⟩
      · have := (z2 (i - 1) (by omega)).2
        rw [if_neg (by omega)] at this
        exact this
      · have := (z2 (5 - 1) (by omega)).2
        rw [if_pos (by omega)] at this
        exact this
    · rintro ⟨⟨z1, z2, z3⟩, z4⟩
      refine ⟨z1, fun j hj => ⟨?_, ?_⟩⟩
      · by_cases e : j = 0
        · subst e; exact z2
        · exact (z3 j (by omega) hj).2
      · by_cases e : j + 1 = 5
        · rw [if_pos e, show j = 5 - 1 from by omega]; exact z4
        · rw [if_neg e]
          have := (z3 (j + 1) (by omega) (by omega)).1
          rw [Nat.add_sub_cancel] at this
          exact this
  rcases b3 with ⟨d1, d2, d3, d4⟩ | ⟨d1, d2⟩
  · obtain ⟨z1, z2⟩ := iff1.mp d2
    subst z1
    obtain ⟨e1, e2, e3⟩ := a7 rfl
    refine Or.inl ⟨c2, wr m2 0 2 (nI (t_ej T (p + 1) (5 - 1) + 1)), t_ej T (p + 1) (5 - 1) + 1, us + 1, ug, ua, ?_, rs_ok H2 e2 (by omega) z2, wr_same _ _ _ _, by omega, by omega, ?_, F2, F1.tr (st_fm m2 _)⟩
    · rw [d1, hpj]
      exact rc_ok (by omega) (by omega)
    · have gm : ∀ k, k ≠ 0 → wr m2 0 2 (nI (t_ej T (p + 1) (5 - 1) + 1)) k = m2 k := fun k hk => wr_cell _ _ _ hk
      have m9 : ∀ s, s ≠ 0 → m2 9 s = m 9 s := fun s hs => by rw [a5 s hs, wr_cell _ _ _ (by decide)]
      have mo : ∀ k, k ≠ 0 → k ≠ 6 → k ≠ 9 → m2 k = m k := fun k k1 k2 k3 => by rw [a2 k k1 k2 k3, wr_cell _ _ _ k1]
      have mx : ∀ s, (s < 5 * us ∨ 5 * us + 5 ≤ s) → m2 6 s = m 6 s := fun s hs => by rw [a4 s hs, wr_cell _ _ _ (by decide)]
      unfold RD
      rw [gm 9 (by decide), gm 6 (by decide), gm 7 (by decide), gm 8 (by decide)]
      rw [mo 7 (by decide) (by decide) (by decide), mo 8 (by decide) (by decide) (by decide), m9 1 (by decide), m9 2 (by decide), e1, b1 55 (by omega) (by omega), b1 60 (by omega) (by omega), d3]
      refine ⟨⟨by omega, r2, r3⟩, ⟨rfl, r5, r6⟩, ⟨rfl, r8, r9⟩, fun i hi => ?_, fun i hi => ?_, fun i hi => ?_⟩
      · by_cases e : i = us
        · subst e
          have A := fun j hj => (d2.2 j hj).1.2
          have q0 : (rom0 0).toInt = 0 ∧ (rom1 0).toInt = 59 ∧ (rom0 1).toInt = 6 ∧ (rom1 1).toInt = 60 ∧ (rom0 2).toInt = 0 ∧ (rom1 2).toInt = 1 ∧ (rom0 3).toInt = 1 ∧ (rom1 3).toInt = 99 ∧ (rom0 4).toInt = 0 ∧ (rom1 4).toInt = 9 := by decide
          obtain ⟨q1, q2, q3, q4, q5, q6, q7, q8, q9, q10⟩ := q0
          have A0 := A 0 (by omega)
          have A1 := A 1 (by omega)
          have A2 := A 2 (by omega)
          have A3 := A 3 (by omega)
          have A4 := A 4 (by omega)
          simp only [q1, q2, q3, q4, q5, q6, q7, q8, q9, q10] at A0 A1 A2 A3 A4
          exact ⟨fun j => t_nv T (t_pj T (p + 1) j), fun j hj => ⟨e3 j hj, d4 j hj⟩, by dsimp only; omega, by dsimp only; omega, by dsimp only; omega, by dsimp only; omega, by dsimp only; omega, by dsimp only; omega, by dsimp only; omega⟩
        · rw [b1 (51 + i) (by omega) (by omega)]
          obtain ⟨v, v1, v2⟩ := r10 i (by omega)
          exact ⟨v, fun j hj => by rw [mx _ (by omega)]; exact v1 j hj, v2⟩
      · rw [b1 (57 + i) (by omega) (by omega)]; exact r11 i hi
      · rw [b1 (62 + i) (by omega) (by omega)]; exact r12 i hi
  · refine Or.inr ⟨c2, m2, by rw [d1]; exact rc_no (by omega), ?_, F2, F1⟩
    cases b with
    | false => exact rs_n1
    | true =>
      obtain ⟨e1, e2, e3⟩ := a7 rfl
      exact rs_n2 H2 e2 (by omega) (fun z => d2 (iff1.mpr ⟨rfl, z⟩))
theorem st_g (HC : TC n T c) (HM : TM n T m) {p us ug ua : Nat} (hp : p < n) (hl : T p = 103) (R : RD c m us ug ua) : StepR n T c m p := by
  intro fu
  have hn := HC.1
  obtain ⟨⟨r1, r2, r3⟩, ⟨r4, r5, r6⟩, ⟨r7, r8, r9⟩, r10, r11, r12⟩ := R
  have H1 : TM n T (wr m 0 2 (nI (p + 1))) := HM.fr (wr_slot _ _ _ (by decide)) (wr_cell _ _ _ (by decide))
  obtain ⟨m2, b, a1, ⟨a2, a3, a4, a5⟩, a6, a7⟩ := it_g H1 (p := p + 1) (u := ug) (wr_same _ _ _ _) (by omega) (by rw [wr_cell _ _ _ (by decide)]; assumption) (by assumption)
  obtain ⟨c2, ⟨b1, b2⟩, b3⟩ := ci_g HC (p := p) (u := ug) (by omega) hl (by assumption) (by assumption)
  rw [hl, show nI 103 = (103 : Int32) from rfl, a1]
  have F1 : FMd m m2 := (st_fm m (nI (p + 1))).tr ⟨fun k k1 k2 => a2 k k1 (by omega) (by omega), a3⟩
  have F2 : FCd c c2 := fun k hk => b1 k (by omega) (by omega)
  have H2 : TM n T m2 := HM.fr (F1.2 0 (by decide)) (F1.1 1 (by decide) (by decide))
  have he := ej_b T (p + 1) (2 - 1)
  have hge := pj_ge T (p + 1) 2
  have hpj : t_pj T (p + 1) 2 = t_ej T (p + 1) (2 - 1) + 1 := rfl
  have iff1 : (ug < 3 ∧ ∀ j, j < 2 → t_A T (p + 1) (fun j => (rom2 j).toInt) (fun j => (rom3 j).toInt) j ∧ T (t_ej T (p + 1) j) = if j + 1 = 2 then 59 else 44) ↔ b = true ∧ T (t_ej T (p + 1) (2 - 1)) = 59 := by
    rw [a6]
    constructor
    · rintro ⟨z1, z2⟩
      refine ⟨⟨z1, (z2 0 (by omega)).1, fun i i1 i2 => ⟨?_, (z2 i i2).1⟩⟩, ?_⟩
      · have := (z2 (i - 1) (by omega)).2
        rw [if_neg (by omega)] at this
        exact this
      · have := (z2 (2 - 1) (by omega)).2
        rw [if_pos (by omega)] at this
        exact this
    · rintro ⟨⟨z1, z2, z3⟩, z4⟩
      refine ⟨z1, fun j hj => ⟨?_, ?_⟩⟩
      · by_cases e : j = 0
        · subst e; exact z2
        · exact (z3 j (by omega) hj).2
      · by_cases e : j + 1 = 2
        · rw [if_pos e, show j = 2 - 1 from by omega]; exact z4
        · rw [if_neg e]
          have := (z3 (j + 1) (by omega) (by omega)).1
          rw [Nat.add_sub_cancel] at this
          exact this
  rcases b3 with ⟨d1, d2, d3, d4⟩ | ⟨d1, d2⟩
  · obtain ⟨z1, z2⟩ := iff1.mp d2
    subst z1
    obtain ⟨e1, e2, e3⟩ := a7 rfl
    refine Or.inl ⟨c2, wr m2 0 2 (nI (t_ej T (p + 1) (2 - 1) + 1)), t_ej T (p + 1) (2 - 1) + 1, us, ug + 1, ua, ?_, rs_ok H2 e2 (by omega) z2, wr_same _ _ _ _, by omega, by omega, ?_, F2, F1.tr (st_fm m2 _)⟩
    · rw [d1, hpj]
      exact rc_ok (by omega) (by omega)
    · have gm : ∀ k, k ≠ 0 → wr m2 0 2 (nI (t_ej T (p + 1) (2 - 1) + 1)) k = m2 k := fun k hk => wr_cell _ _ _ hk
      have m9 : ∀ s, s ≠ 1 → m2 9 s = m 9 s := fun s hs => by rw [a5 s hs, wr_cell _ _ _ (by decide)]
      have mo : ∀ k, k ≠ 0 → k ≠ 7 → k ≠ 9 → m2 k = m k := fun k k1 k2 k3 => by rw [a2 k k1 k2 k3, wr_cell _ _ _ k1]
      have mx : ∀ s, (s < 2 * ug ∨ 2 * ug + 2 ≤ s) → m2 7 s = m 7 s := fun s hs => by rw [a4 s hs, wr_cell _ _ _ (by decide)]
      unfold RD
      rw [gm 9 (by decide), gm 6 (by decide), gm 7 (by decide), gm 8 (by decide)]
      rw [mo 6 (by decide) (by decide) (by decide), mo 8 (by decide) (by decide) (by decide), m9 0 (by decide), m9 2 (by decide), e1, b1 49 (by omega) (by omega), b1 60 (by omega) (by omega), d3]
      refine ⟨⟨r1, by omega, r3⟩, ⟨r4, rfl, r6⟩, ⟨r7, rfl, r9⟩, fun i hi => ?_, fun i hi => ?_, fun i hi => ?_⟩
      · rw [b1 (51 + i) (by omega) (by omega)]; exact r10 i hi
      · by_cases e : i = ug
        · subst e
          have A := fun j hj => (d2.2 j hj).1.2
          have q0 : (rom2 0).toInt = 0 ∧ (rom3 0).toInt = 59 ∧ (rom2 1).toInt = 1 ∧ (rom3 1).toInt = 9 := by decide
          obtain ⟨q1, q2, q3, q4⟩ := q0
          have A0 := A 0 (by omega)
          have A1 := A 1 (by omega)
          simp only [q1, q2, q3, q4] at A0 A1
          exact ⟨fun j => t_nv T (t_pj T (p + 1) j), fun j hj => ⟨e3 j hj, d4 j hj⟩, by dsimp only; omega, by dsimp only; omega, by dsimp only; omega⟩
        · rw [b1 (57 + i) (by omega) (by omega)]
          obtain ⟨v, v1, v2⟩ := r11 i (by omega)
          exact ⟨v, fun j hj => by rw [mx _ (by omega)]; exact v1 j hj, v2⟩
      · rw [b1 (62 + i) (by omega) (by omega)]
        obtain ⟨v, v1, v2, v3⟩ := r12 i hi
        exact ⟨v, v1, by omega, v3⟩
  · refine Or.inr ⟨c2, m2, by rw [d1]; exact rc_no (by omega), ?_, F2, F1⟩
    cases b with
    | false => exact rs_n1
    | true =>
      obtain ⟨e1, e2, e3⟩ := a7 rfl
      exact rs_n2 H2 e2 (by omega) (fun z => d2 (iff1.mpr ⟨rfl, z⟩))
theorem st_a (HC : TC n T c) (HM : TM n T m) {p us ug ua : Nat} (hp : p < n) (hl : T p = 97) (R : RD c m us ug ua) : StepR n T c m p := by
  intro fu
  have hn := HC.1
  obtain ⟨⟨r1, r2, r3⟩, ⟨r4, r5, r6⟩, ⟨r7, r8, r9⟩, r10, r11, r12⟩ := R
  have H1 : TM n T (wr m 0 2 (nI (p + 1))) := HM.fr (wr_slot _ _ _ (by decide)) (wr_cell _ _ _ (by decide))
  obtain ⟨m2, b, a1, ⟨a2, a3, a4, a5⟩, a6, a7⟩ := it_a H1 (p := p + 1) (u := ua) (g := ug) (wr_same _ _ _ _) (by omega) (by rw [wr_cell _ _ _ (by decide)]; assumption) (by assumption) (by rw [wr_cell _ _ _ (by decide)]; assumption) r2
  obtain ⟨c2, ⟨b1, b2⟩, b3⟩ := ci_a HC (p := p) (u := ua) (g := ug) (by omega) hl (by assumption) (by assumption) r8 r2
  rw [hl, show nI 97 = (97 : Int32) from rfl, a1]
  have F1 : FMd m m2 := (st_fm m (nI (p + 1))).tr ⟨fun k k1 k2 => a2 k k1 (by omega) (by omega), a3⟩
  have F2 : FCd c c2 := fun k hk => b1 k (by omega) (by omega)
  have H2 : TM n T m2 := HM.fr (F1.2 0 (by decide)) (F1.1 1 (by decide) (by decide))
  have he := ej_b T (p + 1) (3 - 1)
  have hge := pj_ge T (p + 1) 3
  have hpj : t_pj T (p + 1) 3 = t_ej T (p + 1) (3 - 1) + 1 := rfl
  have q4 : (rom4 0).toInt = 0 := by decide
  have q5 : (rom5 0).toInt = 2 := by decide
  have iff1 : (ua < 4 ∧ t_nv T (t_pj T (p + 1) 0) < ug ∧ ∀ j, j < 3 → t_A T (p + 1) (fun j => (rom4 j).toInt) (fun j => (rom5 j).toInt) j ∧ T (t_ej T (p + 1) j) = if j + 1 = 3 then 59 else 44) ↔ b = true ∧ T (t_ej T (p + 1) (3 - 1)) = 59 := by
    rw [a6]
    constructor
    · rintro ⟨z1, zv, z2⟩
      refine ⟨⟨z1, ⟨(z2 0 (by omega)).1.1, zv⟩, fun i i1 i2 => ⟨?_, (z2 i i2).1⟩⟩, ?_⟩
      · have := (z2 (i - 1) (by omega)).2
        rw [if_neg (by omega)] at this
        exact this
      · have := (z2 (3 - 1) (by omega)).2
        rw [if_pos (by omega)] at this
        exact this
    · rintro ⟨⟨z1, z2, z3⟩, z4⟩
      refine ⟨z1, z2.2, fun j hj => ⟨?_, ?_⟩⟩
      · by_cases e : j = 0
        · subst e
          refine ⟨z2.1, ?_, ?_⟩
          · show (rom4 0).toInt ≤ _
            rw [q4]; omega
          · show _ ≤ (rom5 0).toInt
            rw [q5]; omega
        · exact (z3 j (by omega) hj).2
      · by_cases e : j + 1 = 3
        · rw [if_pos e, show j = 3 - 1 from by omega]; exact z4
        · rw [if_neg e]
          have := (z3 (j + 1) (by omega) (by omega)).1
          rw [Nat.add_sub_cancel] at this
          exact this
  rcases b3 with ⟨d1, d2, d3, d4⟩ | ⟨d1, d2⟩
  · obtain ⟨z1, z2⟩ := iff1.mp d2
    subst z1
    obtain ⟨e1, e2, e3⟩ := a7 rfl
    refine Or.inl ⟨c2, wr m2 0 2 (nI (t_ej T (p + 1) (3 - 1) + 1)), t_ej T (p + 1) (3 - 1) + 1, us, ug, ua + 1, ?_, rs_ok H2 e2 (by omega) z2, wr_same _ _ _ _, by omega, by omega, ?_, F2, F1.tr (st_fm m2 _)⟩
    · rw [d1, hpj]
      exact rc_ok (by omega) (by omega)
    · have gm : ∀ k, k ≠ 0 → wr m2 0 2 (nI (t_ej T (p + 1) (3 - 1) + 1)) k = m2 k := fun k hk => wr_cell _ _ _ hk
      have m9 : ∀ s, s ≠ 2 → m2 9 s = m 9 s := fun s hs => by rw [a5 s hs, wr_cell _ _ _ (by decide)]
      have mo : ∀ k, k ≠ 0 → k ≠ 8 → k ≠ 9 → m2 k = m k := fun k k1 k2 k3 => by rw [a2 k k1 k2 k3, wr_cell _ _ _ k1]
      have mx : ∀ s, (s < 3 * ua ∨ 3 * ua + 3 ≤ s) → m2 8 s = m 8 s := fun s hs => by rw [a4 s hs, wr_cell _ _ _ (by decide)]
      unfold RD
      rw [gm 9 (by decide), gm 6 (by decide), gm 7 (by decide), gm 8 (by decide), mo 6 (by decide) (by decide) (by decide), mo 7 (by decide) (by decide) (by decide), m9 0 (by decide), m9 1 (by decide), e1, b1 49 (by omega) (by omega), b1 55 (by omega) (by omega), d3]
      refine ⟨⟨r1, r2, by omega⟩, ⟨r4, r5, rfl⟩, ⟨r7, r8, rfl⟩, fun i hi => ?_, fun i hi => ?_, fun i hi => ?_⟩
      · rw [b1 (51 + i) (by omega) (by omega)]; exact r10 i hi
      · rw [b1 (57 + i) (by omega) (by omega)]; exact r11 i hi
      · by_cases e : i = ua
        · subst e
          refine ⟨fun j => t_nv T (t_pj T (p + 1) j), fun j hj => ⟨e3 j hj, d4 j hj⟩, d2.2.1, ?_, ?_⟩
          · have := (d2.2.2 1 (by omega)).1.2.2
            have q : (rom5 1).toInt = 2 := by decide
            rw [show (fun j => (rom5 j).toInt) 1 = (rom5 1).toInt from rfl, q] at this
            dsimp only
            omega
          · have := (d2.2.2 2 (by omega)).1.2.2
            have q : (rom5 2).toInt = 5 := by decide
            rw [show (fun j => (rom5 j).toInt) 2 = (rom5 2).toInt from rfl, q] at this
            dsimp only
            omega
        · rw [b1 (62 + i) (by omega) (by omega)]
          obtain ⟨v, v1, v2⟩ := r12 i (by omega)
          exact ⟨v, fun j hj => by rw [mx _ (by omega)]; exact v1 j hj, v2⟩
  · refine Or.inr ⟨c2, m2, by rw [d1]; exact rc_no (by omega), ?_, F2, F1⟩
    cases b with
    | false => exact rs_n1
    | true =>
      obtain ⟨e1, e2, e3⟩ := a7 rfl
      exact rs_n2 H2 e2 (by omega) (fun z => d2 (iff1.mpr ⟨rfl, z⟩))
theorem st_o (HC : TC n T c) (HM : TM n T m) {p : Nat} (hp : p < n) (h1 : T p ≠ 115) (h2 : T p ≠ 103) (h3 : T p ≠ 97) : StepR n T c m p := by
  intro fu
  have hn := HC.1
  have hT := HC.2.2.2.2 p
  have n1 : ¬ nI (T p) = (115 : Int32) := by rw [show (115 : Int32) = nI 115 from rfl, nz_eq (by omega) (by omega)]; exact h1
  have n2 : ¬ nI (T p) = (103 : Int32) := by rw [show (103 : Int32) = nI 103 from rfl, nz_eq (by omega) (by omega)]; exact h2
  have n3 : ¬ nI (T p) = (97 : Int32) := by rw [show (97 : Int32) = nI 97 from rfl, nz_eq (by omega) (by omega)]; exact h3
  refine Or.inr ⟨c, wr m 0 2 (nI (p + 1)), ?_, ?_, fun _ _ => rfl, st_fm m _⟩
  · unfold mX7_readItem
    rw [letter_c HC (by omega), bd1_s, if_neg n1, if_neg n2, if_neg n3]
    exact rc_no (by omega)
  · unfold mX11_item
    rw [if_neg n1, if_neg n2, if_neg n3]
    rfl
theorem fault_j : ∀ (fu p : Nat) (c m : Mm) (us ug ua : Nat), TC n T c → TM n T m → m 0 2 = nI p → p ≤ 300 → n - p < fu → RD c m us ug ua → ∃ v c' m', mX7_readAll_26 fu (nI p) c = some (v, c') ∧ mX11_fault_25 fu m = some (v, m') ∧ FCd c c' ∧ FMd m m' ∧ (v = -4 → ∃ us ug ua, RD c' m' us ug ua) := by
  intro fu
  induction fu with
  | zero => intro p c m us ug ua _ _ _ _ h; omega
  | succ fu ih =>
    intro p c m us ug ua HC HM hs hp hf R
    have hn := HC.1
    rw [mX7_readAll_26, mX11_fault_25, HC.2.1, HM.2.1, hs]
    by_cases hend : n ≤ p
    · rw [if_pos (nI_le hend (by omega)), if_pos (nI_le hend (by omega))]
      exact ⟨-4, c, m, rfl, rfl, fun _ _ => rfl, ⟨fun _ _ _ => rfl, fun _ _ => rfl⟩, fun _ => ⟨us, ug, ua, R⟩⟩
    rw [if_neg (nI_ge (by omega) (by omega)), if_neg (nI_ge (by omega) (by omega)), mlet_s, ad_1, mlet_s, gIn_nI (by omega) (by omega), cl_n (by omega), wr_cell _ _ _ (by decide), HM.2.2.1 p (by omega)]
    have hst : StepR n T c m p := by
      by_cases h1 : T p = 115
      · exact st_s HC HM (by omega) h1 R
      by_cases h2 : T p = 103
      · exact st_g HC HM (by omega) h2 R
      by_cases h3 : T p = 97
      · exact st_a HC HM (by omega) h3 R
      exact st_o HC HM (by omega) h1 h2 h3
    rcases hst fu with ⟨c', m', q, us', ug', ua', e1, e2, e3, e4, e5, e6, e7, e8⟩ | ⟨c', m', e1, e2, e7, e8⟩
    · obtain ⟨v, c2, m2, g1, g2, g3, g4, g5⟩ := ih q c' m' us' ug' ua' (HC.fr (e7 1 (by omega)) (e7 2 (by omega))) (HM.fr (e8.2 0 (by decide)) (e8.1 1 (by decide) (by omega))) e3 e5 (by omega) e6
      exact ⟨v, c2, m2, e1.trans g1, e2.trans g2, e7.tr g3, e8.tr g4, g5⟩
    · refine ⟨nI p, c', m', e1, e2, e7, e8, fun z => absurd z ?_⟩
      rw [nz_m4 (by omega)]
      exact id
theorem tx_T (R : RTxt c m) : ∃ n T, TC n T c ∧ TM n T m := by
  obtain ⟨n, hn, h1, h2, h3⟩ := R
  have hv : ∀ i, i < n → m 1 i = nI (if i < n then (m 1 i).toNatClampNeg else 0) ∧ (m 1 i).toNatClampNeg ≤ 126 := fun i hi => by
    obtain ⟨_, a1, a2⟩ := h3 i hi
    obtain ⟨k, hk, e⟩ := nI_of (x := m 1 i) (by rw [i32_lt, Int32.toInt_zero]; omega)
    rw [if_pos hi, e, cl_n (by omega)]
    rw [e, nI_toInt (by omega)] at a2
    exact ⟨rfl, by omega⟩
  have hb : ∀ i, (if i < n then (m 1 i).toNatClampNeg else 0) ≤ 126 := fun i => by
    by_cases hi : i < n
    · rw [if_pos hi]; exact (hv i hi).2
    · rw [if_neg hi]; omega
  refine ⟨n, fun i => if i < n then (m 1 i).toNatClampNeg else 0, ⟨hn, h1, fun i hi => ?_, fun i hi => if_neg (by omega), hb⟩, ⟨hn, h2, fun i hi => (hv i hi).1, fun i hi => if_neg (by omega), hb⟩⟩
  rw [(h3 i hi).1]
  exact (hv i hi).1
/-- both read the text alike -/
theorem read_j (R : RTxt c m) : ∃ v c' m', mX7_readAll c = some (v, c') ∧ mX11_fault m = some (v, m') ∧ FCd c c' ∧ FMd m m' ∧ (v = -4 → ∃ us ug ua, RD c' m' us ug ua) := by
  obtain ⟨n, T, HC, HM⟩ := tx_T R
  have hn := HC.1
  unfold mX7_readAll
  simp only [mlet_s]
  generalize hc1 : wr (wr (wr c 49 3 0) 55 3 0) 60 3 0 = c1
  have f1 : ∀ k, k ≠ 49 → k ≠ 55 → k ≠ 60 → c1 k = c k := fun k k1 k2 k3 => by rw [← hc1, wr_cell _ _ _ k3, wr_cell _ _ _ k2, wr_cell _ _ _ k1]
  have z1 : c1 49 3 = nI 0 := by rw [← hc1, wr_cell _ _ _ (by decide), wr_cell _ _ _ (by decide), wr_same]; rfl
  have z2 : c1 55 3 = nI 0 := by rw [← hc1, wr_cell _ _ _ (by decide), wr_same]; rfl
  have z3 : c1 60 3 = nI 0 := by rw [← hc1, wr_same]; rfl
  have hm : ∃ m1, mX11_fault m = mX11_fault_25 FU m1 ∧ (∀ k, k ≠ 0 → k ≠ 9 → m1 k = m k) ∧ (∀ s, s ≠ 2 → m1 0 s = m 0 s) ∧ m1 0 2 = nI 0 ∧ ∀ s, s < 3 → m1 9 s = nI 0 := by
    unfold mX11_fault
    refine lo_up (fun u i y => mX11_fault_2 u (nI i) y) (fun z => ∃ m1, z = mX11_fault_25 FU m1 ∧ (∀ k, k ≠ 0 → k ≠ 9 → m1 k = m k) ∧ (∀ s, s ≠ 2 → m1 0 s = m 0 s) ∧ m1 0 2 = nI 0 ∧ ∀ s, s < 3 → m1 9 s = nI 0) (fun i y => (∀ k, k ≠ 9 → y k = m k) ∧ ∀ s, s < i → y 9 s = nI 0) 3 (fun u y hP => ?_) (fun u i y hi hP => ?_) FU 0 m (by omega) (fu_lt (by omega)) ⟨fun _ _ => rfl, fun s hs => by omega⟩
    · refine ⟨wr y 0 2 0, ?_, fun k k1 k2 => by rw [wr_cell _ _ _ k1, hP.1 k k2], fun s hs => by rw [wr_slot _ _ _ hs, hP.1 0 (by decide)], by rw [wr_same]; rfl, fun s hs => by rw [wr_cell _ _ _ (by decide), hP.2 s hs]⟩
      show mX11_fault_2 (u + 1) _ _ = _
      rw [mX11_fault_2, if_pos (by decide), mlet_s]
    · refine ⟨wr y 9 i 0, ?_, fun k hk => by rw [wr_cell _ _ _ hk, hP.1 k hk], fun s hs => ?_⟩
      · show mX11_fault_2 (u + 1) _ _ = mX11_fault_2 u _ _
        rw [mX11_fault_2, li_3, if_neg (nI_ge hi (by omega)), gIn_nI hi (by omega), cl_n (by omega), mlet_s, ad_1]
      · by_cases e : s = i
        · rw [e, wr_same]; rfl
        · rw [wr_slot _ _ _ e, hP.2 s (by omega)]
  obtain ⟨m1, a1, a2, a3, a4, a5⟩ := hm
  rw [a1]
  obtain ⟨v, c2, m2, g1, g2, g3, g4, g5⟩ := fault_j (n := n) (T := T) FU 0 c1 m1 0 0 0 (HC.fr (f1 1 (by decide) (by decide) (by decide)) (f1 2 (by decide) (by decide) (by decide))) (HM.fr (a3 0 (by decide)) (a2 1 (by decide) (by decide))) a4 (by omega) (fu_lt (by omega)) ⟨⟨by omega, by omega, by omega⟩, ⟨a5 0 (by omega), a5 1 (by omega), a5 2 (by omega)⟩, ⟨z1, z2, z3⟩, fun i hi => by omega, fun i hi => by omega, fun i hi => by omega⟩
  exact ⟨v, c2, m2, g1, g2, fun k hk => by rw [g3 k hk, f1 k (by omega) (by omega) (by omega)], ⟨fun k k1 k2 => by rw [g4.1 k k1 k2, a2 k k1 (by omega)], fun s hs => by rw [g4.2 s hs, a3 s hs]⟩, g5⟩
end EV
