/-! PURE LAYER 20: items, fault -/
/-- what has been read: both sides hold the same -/
def RD (c m : Mm) (us ug ua : Nat) : Prop := (us ≤ 4 ∧ ug ≤ 3 ∧ ua ≤ 4) ∧ (m 9 0 = nI us ∧ m 9 1 = nI ug ∧ m 9 2 = nI ua) ∧ (c 49 3 = nI us ∧ c 55 3 = nI ug ∧ c 60 3 = nI ua) ∧
  (∀ i, i < us → ∃ v : Nat → Nat, (∀ j, j < 5 → m 6 (5 * i + j) = nI (v j) ∧ c (51 + i) j = nI (v j)) ∧ v 0 ≤ 59 ∧ 6 ≤ v 1 ∧ v 1 ≤ 60 ∧ v 2 ≤ 1 ∧ 1 ≤ v 3 ∧ v 3 ≤ 99 ∧ v 4 ≤ 9) ∧
  (∀ i, i < ug → ∃ v : Nat → Nat, (∀ j, j < 2 → m 7 (2 * i + j) = nI (v j) ∧ c (57 + i) j = nI (v j)) ∧ v 0 ≤ 59 ∧ 1 ≤ v 1 ∧ v 1 ≤ 9) ∧
  (∀ i, i < ua → ∃ v : Nat → Nat, (∀ j, j < 3 → m 8 (3 * i + j) = nI (v j) ∧ c (62 + i) j = nI (v j)) ∧ v 0 < ug ∧ v 1 ≤ 2 ∧ v 2 ≤ 5)
def FCd (c c' : Mm) : Prop := ∀ k, (k < 49 ∨ 66 ≤ k) → c' k = c k
def FMd (m m' : Mm) : Prop := (∀ k, k ≠ 0 → (k < 6 ∨ 9 < k) → m' k = m k) ∧ ∀ s, s ≠ 2 → m' 0 s = m 0 s
theorem FCd.tr {a b d : Mm} (h : FCd a b) (g : FCd b d) : FCd a d := fun k hk => (g k hk).trans (h k hk)
theorem FMd.tr {a b d : Mm} (h : FMd a b) (g : FMd b d) : FMd a d := ⟨fun k k1 k2 => (g.1 k k1 k2).trans (h.1 k k1 k2), fun s hs => (g.2 s hs).trans (h.2 s hs)⟩
section EV
variable {c m c' m' h : Mm} {n : Nat} {T : Nat → Nat}
theorem it_s (H : TM n T m) {p u : Nat} (hs : m 0 2 = nI p) (hp : p ≤ 300) (hu : m 9 0 = nI u) (hu4 : u ≤ 4) : ∃ m' b, mX11_item m 115 = some (bI b, m') ∧ ((∀ k, k ≠ 0 → k ≠ 6 → k ≠ 9 → m' k = m k) ∧ (∀ s, s ≠ 2 → m' 0 s = m 0 s) ∧ (∀ s, (s < 5 * u ∨ 5 * u + 5 ≤ s) → m' 6 s = m 6 s) ∧ ∀ s, s ≠ 0 → m' 9 s = m 9 s) ∧ (b = true ↔ u < 4 ∧ t_A T p (fun j => (rom0 j).toInt) (fun j => (rom1 j).toInt) 0 ∧ ∀ i, 0 < i → i < 5 → T (t_ej T p (i - 1)) = 44 ∧ t_A T p (fun j => (rom0 j).toInt) (fun j => (rom1 j).toInt) i) ∧ (b = true → m' 9 0 = nI (u + 1) ∧ m' 0 2 = nI (t_ej T p (5 - 1)) ∧ ∀ i, i < 5 → m' 6 (5 * u + i) = nI (t_nv T (t_pj T p i))) := by
  have e1 : mX11_item m 115 = mX11_item_53 0 4 (nI u) m := by
    rw [← hu]; rfl
  rw [e1]
  unfold mX11_item_53
  by_cases hu5 : u = 4
  · subst hu5
    rw [if_pos (by decide)]
    refine ⟨m, false, rfl, ⟨fun _ _ _ _ => rfl, fun _ _ => rfl, fun _ _ => rfl, fun _ _ => rfl⟩, ⟨fun z => (by cases z), fun z => absurd z.1 (by omega)⟩, fun z => (by cases z)⟩
  have hu' : u < 4 := by omega
  rw [if_neg (show ¬ nI u = (4 : Int32) by rw [show (4 : Int32) = nI 4 from rfl, nz_eq (by omega) (by omega)]; exact hu5)]
  have cl : (0 : Int32).toNatClampNeg = 0 := rfl
  have gg : ∀ {α : Type} (X : Option α), gIn (0 : Int32) 3 X = X := fun X => rfl
  simp only [gg, cl, mlet_s]
  rw [hu, ad_1]
  generalize hm1 : wr m 9 0 (nI (u + 1)) = m1
  have f1 : ∀ k, k ≠ 9 → m1 k = m k := fun k hk => by rw [← hm1, wr_cell _ _ _ hk]
  have f2 : ∀ s, s ≠ 0 → m1 9 s = m 9 s := fun s hs => by rw [← hm1, wr_slot _ _ _ hs]
  have f3 : m1 9 0 = nI (u + 1) := by rw [← hm1, wr_same]
  have H1 : TM n T m1 := H.fr (by rw [f1 0 (by decide)]) (f1 1 (by decide))
  obtain ⟨m2, b, a1, a2, a3, ⟨a4, a5, a6⟩, a7⟩ := nm_6 H1 (p := p) (at_ := 5 * u) (lo := rom0 0) (hi := rom1 0) (by rw [f1 0 (by decide), hs]) (by omega) (by omega)
  have first : mX11_number_0_6 m1 0 (rom0 0) (rom1 0) (nI (5 * u)) = some (bI b, m2) := by
    unfold mX11_number_0_6
    rw [if_pos (by decide)]
    exact a1
  have shape : ∀ X : Option (Int32 × Mm), bd2 (mX11_number_0_6 m1 0 (rom0 0) (rom1 0) (nI (5 * u))) (fun v h => if v = 0 then some (0, h) else rx_6 rom0 rom1 (5 * u) (5 - 1) 1 h) = X → X = X := fun _ _ => rfl
  have goal2 : bd2 (mX11_number_0_6 m1 0 (rom0 0) (rom1 0) (nI (5 * u))) (fun v h => if v = 0 then some (0, h) else rx_6 rom0 rom1 (5 * u) (5 - 1) 1 h) = if bI b = 0 then some (0, m2) else rx_6 rom0 rom1 (5 * u) (5 - 1) 1 m2 := by rw [first, bd2_s]
  have H2 : TM n T m2 := H1.fr (a5 0 (by decide)) (a4 1 (by decide) (by decide))
  have g4 : ∀ k, k ≠ 0 → k ≠ 6 → k ≠ 9 → m2 k = m k := fun k k1 k2 k3 => by rw [a4 k k1 k2, f1 k k3]
  have g5 : ∀ s, s ≠ 2 → m2 0 s = m 0 s := fun s hs => by rw [a5 s hs, f1 0 (by decide)]
  have g6 : ∀ s, s ≠ 5 * u → m2 6 s = m 6 s := fun s hs => by rw [a6 s hs, f1 6 (by decide)]
  have g9 : ∀ s, s ≠ 0 → m2 9 s = m 9 s := fun s hs => by rw [a4 9 (by decide) (by decide), f2 s hs]
  have hA : b = true ↔ t_A T p (fun j => (rom0 j).toInt) (fun j => (rom1 j).toInt) 0 := a7
  have fin : ∃ m' b', (if bI b = 0 then some (0, m2) else rx_6 rom0 rom1 (5 * u) (5 - 1) 1 m2) = some (bI b', m') ∧ ((∀ k, k ≠ 0 → k ≠ 6 → k ≠ 9 → m' k = m k) ∧ (∀ s, s ≠ 2 → m' 0 s = m 0 s) ∧ (∀ s, (s < 5 * u ∨ 5 * u + 5 ≤ s) → m' 6 s = m 6 s) ∧ ∀ s, s ≠ 0 → m' 9 s = m 9 s) ∧ (b' = true ↔ u < 4 ∧ t_A T p (fun j => (rom0 j).toInt) (fun j => (rom1 j).toInt) 0 ∧ ∀ i, 0 < i → i < 5 → T (t_ej T p (i - 1)) = 44 ∧ t_A T p (fun j => (rom0 j).toInt) (fun j => (rom1 j).toInt) i) ∧ (b' = true → m' 9 0 = nI (u + 1) ∧ m' 0 2 = nI (t_ej T p (5 - 1)) ∧ ∀ i, i < 5 → m' 6 (5 * u + i) = nI (t_nv T (t_pj T p i))) := by
    cases b with
    | false =>
      rw [if_pos (show bI false = 0 from rfl)]
      refine ⟨m2, false, rfl, ⟨g4, g5, fun s hs => g6 s (by omega), g9⟩, ⟨fun z => (by cases z), fun z => absurd (hA.mpr z.2.1) (by decide)⟩, fun z => (by cases z)⟩
    | true =>
      rw [if_neg (by decide)]
      obtain ⟨m3, b3, c1, ⟨c2, c3, c4⟩, c5, c6⟩ := rx_ok_6 (n := n) (T := T) (lo := rom0) (hi := rom1) (base := 5 * u) (p := p) (L := 5) (by omega) (by omega) hp (5 - 1) 0 m2 H2 (by omega) a2
      refine ⟨m3, b3, c1, ⟨fun k k1 k2 k3 => by rw [c2 k k1 k2, g4 k k1 k2 k3], fun s hs => by rw [c3 s hs, g5 s hs], fun s hs => by rw [c4 s (by omega), g6 s (by omega)], fun s hs => by rw [c2 9 (by decide) (by decide), g9 s hs]⟩, ?_, fun z => ⟨?_, (c6 z).1, fun i hi => ?_⟩⟩
      · rw [c5]
        exact ⟨fun z => ⟨hu', hA.mp rfl, z⟩, fun z => z.2.2⟩
      · rw [c2 9 (by decide) (by decide), a4 9 (by decide) (by decide), f3]
      · by_cases e : i = 0
        · subst e
          rw [c4 _ (by omega)]
          exact a3
        · exact (c6 z).2 i (by omega) hi
  rw [← goal2] at fin
  rw [mu_5] at *
  simp only [ad_1, ad_2, ad_3, ad_4]
  exact fin
theorem ci_s (H : TC n T c) {p u : Nat} (hp : p ≤ 300) (hl : T p = 115) (hu : c 49 3 = nI u) (hu4 : u ≤ 4) : ∃ c', ((∀ k, k ≠ 49 → k ≠ 51 + u → c' k = c k) ∧ ∀ s, s ≠ 3 → c' 49 s = c 49 s) ∧ ((mX7_readItem c (nI p) = some (nI (t_pj T (p + 1) 5), c') ∧ (u < 4 ∧ ∀ j, j < 5 → t_A T (p + 1) (fun j => (rom0 j).toInt) (fun j => (rom1 j).toInt) j ∧ T (t_ej T (p + 1) j) = if j + 1 = 5 then 59 else 44) ∧ c' 49 3 = nI (u + 1) ∧ ∀ j, j < 5 → c' (51 + u) j = nI (t_nv T (t_pj T (p + 1) j))) ∨ (mX7_readItem c (nI p) = some (-4, c') ∧ ¬ (u < 4 ∧ ∀ j, j < 5 → t_A T (p + 1) (fun j => (rom0 j).toInt) (fun j => (rom1 j).toInt) j ∧ T (t_ej T (p + 1) j) = if j + 1 = 5 then 59 else 44))) := by
  have e1 : mX7_readItem c (nI p) = bd1 (mX2_isFull_49 c) (fun v2 => if v2 = 0 then (gIn (c 49 3) 4 (bd2 (mX7_readNumbers_1_49_g50 (c 49 3).toNatClampNeg c (nI p + (1 : Int32))) (fun v5 h4 => if v5 = (-4 : Int32) then (some ((-4 : Int32), h4)) else (mX7_readItem_85 v5 h4)))) else (some ((-4 : Int32), c))) := by
    unfold mX7_readItem
    rw [letter_c H (by omega), bd1_s, hl]
    rfl
  rw [e1]
  unfold mX2_isFull_49
  rw [hu, cl_n (by omega)]
  by_cases hu' : u < 4
  case neg =>
    rw [if_neg (by rw [nz_lt (by omega) (by omega)]; exact hu'), bd1_s, if_neg (by decide)]
    exact ⟨c, ⟨fun _ _ _ => rfl, fun _ _ => rfl⟩, Or.inr ⟨rfl, fun z => hu' z.1⟩⟩
  rw [if_pos (by rw [nz_lt (by omega) (by omega)]; exact hu'), bd1_s, if_pos rfl, gIn_nI hu' (by omega), ad_1]
  obtain ⟨c1, a1, a2⟩ := rdn_49 H (p := p + 1) (u := u) (by omega) hu'
  have hb := pj_b T (p + 1) 5
  rcases a2 with ⟨b1, b2, b3⟩ | ⟨b1, b2⟩
  · rw [b1, bd2_s, if_neg (by rw [nz_m4 (by omega)]; exact id)]
    unfold mX7_readItem_85
    rw [a1 49 (by omega), hu, ad_1, mlet_s]
    refine ⟨_, ⟨fun k k1 k2 => by rw [wr_cell _ _ _ k1, a1 k k2], fun s hs => by rw [wr_slot _ _ _ hs, a1 49 (by omega)]⟩, Or.inl ⟨rfl, ⟨hu', b2⟩, wr_same _ _ _ _, fun j hj => by rw [wr_cell _ _ _ (by omega), b3 j hj]⟩⟩
  · rw [b1, bd2_s, if_pos rfl]
    exact ⟨c1, ⟨fun k _ k2 => a1 k k2, fun s _ => by rw [a1 49 (by omega)]⟩, Or.inr ⟨rfl, fun z => b2 z.2⟩⟩
theorem it_g (H : TM n T m) {p u : Nat} (hs : m 0 2 = nI p) (hp : p ≤ 300) (hu : m 9 1 = nI u) (hu4 : u ≤ 3) : ∃ m' b, mX11_item m 103 = some (bI b, m') ∧ ((∀ k, k ≠ 0 → k ≠ 7 → k ≠ 9 → m' k = m k) ∧ (∀ s, s ≠ 2 → m' 0 s = m 0 s) ∧ (∀ s, (s < 2 * u ∨ 2 * u + 2 ≤ s) → m' 7 s = m 7 s) ∧ ∀ s, s ≠ 1 → m' 9 s = m 9 s) ∧ (b = true ↔ u < 3 ∧ t_A T p (fun j => (rom2 j).toInt) (fun j => (rom3 j).toInt) 0 ∧ ∀ i, 0 < i → i < 2 → T (t_ej T p (i - 1)) = 44 ∧ t_A T p (fun j => (rom2 j).toInt) (fun j => (rom3 j).toInt) i) ∧ (b = true → m' 9 1 = nI (u + 1) ∧ m' 0 2 = nI (t_ej T p (2 - 1)) ∧ ∀ i, i < 2 → m' 7 (2 * u + i) = nI (t_nv T (t_pj T p i))) := by
  have e1 : mX11_item m 103 = mX11_item_53 1 3 (nI u) m := by
    rw [← hu]; rfl
  rw [e1]
  unfold mX11_item_53
  by_cases hu5 : u = 3
  · subst hu5
    rw [if_pos (by decide)]
    refine ⟨m, false, rfl, ⟨fun _ _ _ _ => rfl, fun _ _ => rfl, fun _ _ => rfl, fun _ _ => rfl⟩, ⟨fun z => (by cases z), fun z => absurd z.1 (by omega)⟩, fun z => (by cases z)⟩
  have hu' : u < 3 := by omega
  rw [if_neg (show ¬ nI u = (3 : Int32) by rw [show (3 : Int32) = nI 3 from rfl, nz_eq (by omega) (by omega)]; exact hu5)]
  have cl : (1 : Int32).toNatClampNeg = 1 := rfl
  have gg : ∀ {α : Type} (X : Option α), gIn (1 : Int32) 3 X = X := fun X => rfl
  simp only [gg, cl, mlet_s]
  rw [hu, ad_1]
  generalize hm1 : wr m 9 1 (nI (u + 1)) = m1
  have f1 : ∀ k, k ≠ 9 → m1 k = m k := fun k hk => by rw [← hm1, wr_cell _ _ _ hk]
  have f2 : ∀ s, s ≠ 1 → m1 9 s = m 9 s := fun s hs => by rw [← hm1, wr_slot _ _ _ hs]
  have f3 : m1 9 1 = nI (u + 1) := by rw [← hm1, wr_same]
  have H1 : TM n T m1 := H.fr (by rw [f1 0 (by decide)]) (f1 1 (by decide))
  obtain ⟨m2, b, a1, a2, a3, ⟨a4, a5, a6⟩, a7⟩ := nm_7 H1 (p := p) (at_ := 2 * u) (lo := rom2 0) (hi := rom3 0) (by rw [f1 0 (by decide), hs]) (by omega) (by omega)
  have first : mX11_number_0_7 m1 0 (rom2 0) (rom3 0) (nI (2 * u)) = some (bI b, m2) := by
    unfold mX11_number_0_7
    rw [if_pos (by decide)]
    exact a1
  have shape : ∀ X : Option (Int32 × Mm), bd2 (mX11_number_0_7 m1 0 (rom2 0) (rom3 0) (nI (2 * u))) (fun v h => if v = 0 then some (0, h) else rx_7 rom2 rom3 (2 * u) (2 - 1) 1 h) = X → X = X := fun _ _ => rfl
  have goal2 : bd2 (mX11_number_0_7 m1 0 (rom2 0) (rom3 0) (nI (2 * u))) (fun v h => if v = 0 then some (0, h) else rx_7 rom2 rom3 (2 * u) (2 - 1) 1 h) = if bI b = 0 then some (0, m2) else rx_7 rom2 rom3 (2 * u) (2 - 1) 1 m2 := by rw [first, bd2_s]
  have H2 : TM n T m2 := H1.fr (a5 0 (by decide)) (a4 1 (by decide) (by decide))
  have g4 : ∀ k, k ≠ 0 → k ≠ 7 → k ≠ 9 → m2 k = m k := fun k k1 k2 k3 => by rw [a4 k k1 k2, f1 k k3]
  have g5 : ∀ s, s ≠ 2 → m2 0 s = m 0 s := fun s hs => by rw [a5 s hs, f1 0 (by decide)]
  have g6 : ∀ s, s ≠ 2 * u → m2 7 s = m 7 s := fun s hs => by rw [a6 s hs, f1 7 (by decide)]
  have g9 : ∀ s, s ≠ 1 → m2 9 s = m 9 s := fun s hs => by rw [a4 9 (by decide) (by decide), f2 s hs]
  have hA : b = true ↔ t_A T p (fun j => (rom2 j).toInt) (fun j => (rom3 j).toInt) 0 := a7
  have fin : ∃ m' b', (if bI b = 0 then some (0, m2) else rx_7 rom2 rom3 (2 * u) (2 - 1) 1 m2) = some (bI b', m') ∧ ((∀ k, k ≠ 0 → k ≠ 7 → k ≠ 9 → m' k = m k) ∧ (∀ s, s ≠ 2 → m' 0 s = m 0 s) ∧ (∀ s, (s < 2 * u ∨ 2 * u + 2 ≤ s) → m' 7 s = m 7 s) ∧ ∀ s, s ≠ 1 → m' 9 s = m 9 s) ∧ (b' = true ↔ u < 3 ∧ t_A T p (fun j => (rom2 j).toInt) (fun j => (rom3 j).toInt) 0 ∧ ∀ i, 0 < i → i < 2 → T (t_ej T p (i - 1)) = 44 ∧ t_A T p (fun j => (rom2 j).toInt) (fun j => (rom3 j).toInt) i) ∧ (b' = true → m' 9 1 = nI (u + 1) ∧ m' 0 2 = nI (t_ej T p (2 - 1)) ∧ ∀ i, i < 2 → m' 7 (2 * u + i) = nI (t_nv T (t_pj T p i))) := by
    cases b with
    | false =>
      rw [if_pos (show bI false = 0 from rfl)]
      refine ⟨m2, false, rfl, ⟨g4, g5, fun s hs => g6 s (by omega), g9⟩, ⟨fun z => (by cases z), fun z => absurd (hA.mpr z.2.1) (by decide)⟩, fun z => (by cases z)⟩
    | true =>
      rw [if_neg (by decide)]
      obtain ⟨m3, b3, c1, ⟨c2, c3, c4⟩, c5, c6⟩ := rx_ok_7 (n := n) (T := T) (lo := rom2) (hi := rom3) (base := 2 * u) (p := p) (L := 2) (by omega) (by omega) hp (2 - 1) 0 m2 H2 (by omega) a2
      refine ⟨m3, b3, c1, ⟨fun k k1 k2 k3 => by rw [c2 k k1 k2, g4 k k1 k2 k3], fun s hs => by rw [c3 s hs, g5 s hs], fun s hs => by rw [c4 s (by omega), g6 s (by omega)], fun s hs => by rw [c2 9 (by decide) (by decide), g9 s hs]⟩, ?_, fun z => ⟨?_, (c6 z).1, fun i hi => ?_⟩⟩
      · rw [c5]
        exact ⟨fun z => ⟨hu', hA.mp rfl, z⟩, fun z => z.2.2⟩
      · rw [c2 9 (by decide) (by decide), a4 9 (by decide) (by decide), f3]
      · by_cases e : i = 0
        · subst e
          rw [c4 _ (by omega)]
          exact a3
        · exact (c6 z).2 i (by omega) hi
  rw [← goal2] at fin
  rw [mu_2] at *
  simp only [ad_1, ad_2, ad_3, ad_4]
  exact fin
theorem ci_g (H : TC n T c) {p u : Nat} (hp : p ≤ 300) (hl : T p = 103) (hu : c 55 3 = nI u) (hu4 : u ≤ 3) : ∃ c', ((∀ k, k ≠ 55 → k ≠ 57 + u → c' k = c k) ∧ ∀ s, s ≠ 3 → c' 55 s = c 55 s) ∧ ((mX7_readItem c (nI p) = some (nI (t_pj T (p + 1) 2), c') ∧ (u < 3 ∧ ∀ j, j < 2 → t_A T (p + 1) (fun j => (rom2 j).toInt) (fun j => (rom3 j).toInt) j ∧ T (t_ej T (p + 1) j) = if j + 1 = 2 then 59 else 44) ∧ c' 55 3 = nI (u + 1) ∧ ∀ j, j < 2 → c' (57 + u) j = nI (t_nv T (t_pj T (p + 1) j))) ∨ (mX7_readItem c (nI p) = some (-4, c') ∧ ¬ (u < 3 ∧ ∀ j, j < 2 → t_A T (p + 1) (fun j => (rom2 j).toInt) (fun j => (rom3 j).toInt) j ∧ T (t_ej T (p + 1) j) = if j + 1 = 2 then 59 else 44))) := by
  have e1 : mX7_readItem c (nI p) = bd1 (mX2_isFull_55 c) (fun v2 => if v2 = 0 then (gIn (c 55 3) 3 (bd2 (mX7_readNumbers_1_55_g56 (c 55 3).toNatClampNeg c (nI p + (1 : Int32))) (fun v5 h4 => if v5 = (-4 : Int32) then (some ((-4 : Int32), h4)) else (mX7_readItem_85b v5 h4)))) else (some ((-4 : Int32), c))) := by
    unfold mX7_readItem
    rw [letter_c H (by omega), bd1_s, hl]
    rfl
  rw [e1]
  unfold mX2_isFull_55
  rw [hu, cl_n (by omega)]
  by_cases hu' : u < 3
  case neg =>
    rw [if_neg (by rw [nz_lt (by omega) (by omega)]; exact hu'), bd1_s, if_neg (by decide)]
    exact ⟨c, ⟨fun _ _ _ => rfl, fun _ _ => rfl⟩, Or.inr ⟨rfl, fun z => hu' z.1⟩⟩
  rw [if_pos (by rw [nz_lt (by omega) (by omega)]; exact hu'), bd1_s, if_pos rfl, gIn_nI hu' (by omega), ad_1]
  obtain ⟨c1, a1, a2⟩ := rdn_55 H (p := p + 1) (u := u) (by omega) hu'
  have hb := pj_b T (p + 1) 2
  rcases a2 with ⟨b1, b2, b3⟩ | ⟨b1, b2⟩
  · rw [b1, bd2_s, if_neg (by rw [nz_m4 (by omega)]; exact id)]
    unfold mX7_readItem_85b
    rw [a1 55 (by omega), hu, ad_1, mlet_s]
    refine ⟨_, ⟨fun k k1 k2 => by rw [wr_cell _ _ _ k1, a1 k k2], fun s hs => by rw [wr_slot _ _ _ hs, a1 55 (by omega)]⟩, Or.inl ⟨rfl, ⟨hu', b2⟩, wr_same _ _ _ _, fun j hj => by rw [wr_cell _ _ _ (by omega), b3 j hj]⟩⟩
  · rw [b1, bd2_s, if_pos rfl]
    exact ⟨c1, ⟨fun k _ k2 => a1 k k2, fun s _ => by rw [a1 55 (by omega)]⟩, Or.inr ⟨rfl, fun z => b2 z.2⟩⟩
theorem it_a (H : TM n T m) {p u g : Nat} (hs : m 0 2 = nI p) (hp : p ≤ 300) (hu : m 9 2 = nI u) (hu4 : u ≤ 4) (hg : m 9 1 = nI g) (hg3 : g ≤ 3) : ∃ m' b, mX11_item m 97 = some (bI b, m') ∧ ((∀ k, k ≠ 0 → k ≠ 8 → k ≠ 9 → m' k = m k) ∧ (∀ s, s ≠ 2 → m' 0 s = m 0 s) ∧ (∀ s, (s < 3 * u ∨ 3 * u + 3 ≤ s) → m' 8 s = m 8 s) ∧ ∀ s, s ≠ 2 → m' 9 s = m 9 s) ∧ (b = true ↔ u < 4 ∧ (0 < t_nf T (t_pj T p 0) ∧ t_nv T (t_pj T p 0) < g) ∧ ∀ i, 0 < i → i < 3 → T (t_ej T p (i - 1)) = 44 ∧ t_A T p (fun j => (rom4 j).toInt) (fun j => (rom5 j).toInt) i) ∧ (b = true → m' 9 2 = nI (u + 1) ∧ m' 0 2 = nI (t_ej T p (3 - 1)) ∧ ∀ i, i < 3 → m' 8 (3 * u + i) = nI (t_nv T (t_pj T p i))) := by
  have e1 : mX11_item m 97 = mX11_item_53 2 4 (nI u) m := by
    rw [← hu]; rfl
  rw [e1]
  unfold mX11_item_53
  by_cases hu5 : u = 4
  · subst hu5
    rw [if_pos (by decide)]
    refine ⟨m, false, rfl, ⟨fun _ _ _ _ => rfl, fun _ _ => rfl, fun _ _ => rfl, fun _ _ => rfl⟩, ⟨fun z => (by cases z), fun z => absurd z.1 (by omega)⟩, fun z => (by cases z)⟩
  have hu' : u < 4 := by omega
  rw [if_neg (show ¬ nI u = (4 : Int32) by rw [show (4 : Int32) = nI 4 from rfl, nz_eq (by omega) (by omega)]; exact hu5)]
  have cl : (2 : Int32).toNatClampNeg = 2 := rfl
  have cl1 : (1 : Int32).toNatClampNeg = 1 := rfl
  have gg : ∀ {α : Type} (X : Option α), gIn (2 : Int32) 3 X = X := fun X => rfl
  have gg1 : ∀ {α : Type} (X : Option α), gIn (1 : Int32) 3 X = X := fun X => rfl
  simp only [gg, gg1, cl, cl1, mlet_s]
  rw [hu, ad_1]
  generalize hm1 : wr m 9 2 (nI (u + 1)) = m1
  have f1 : ∀ k, k ≠ 9 → m1 k = m k := fun k hk => by rw [← hm1, wr_cell _ _ _ hk]
  have f2 : ∀ s, s ≠ 2 → m1 9 s = m 9 s := fun s hs => by rw [← hm1, wr_slot _ _ _ hs]
  have f3 : m1 9 2 = nI (u + 1) := by rw [← hm1, wr_same]
  have H1 : TM n T m1 := H.fr (by rw [f1 0 (by decide)]) (f1 1 (by decide))
  obtain ⟨m2, b, a1, a2, a3, ⟨a4, a5, a6⟩, a7⟩ := nm_8 H1 (p := p) (at_ := 3 * u) (lo := 0) (hi := nI g - 1) (by rw [f1 0 (by decide), hs]) (by omega) (by omega)
  have first : mX11_number_0_8 m1 0 0 (nI g - 1) (nI (3 * u)) = some (bI b, m2) := by
    unfold mX11_number_0_8
    rw [if_pos (by decide)]
    exact a1
  have goal2 : bd2 (mX11_number_0_8 m1 0 0 (nI g - 1) (nI (3 * u))) (fun v h => if v = 0 then some (0, h) else rx_8 rom4 rom5 (3 * u) (3 - 1) 1 h) = if bI b = 0 then some (0, m2) else rx_8 rom4 rom5 (3 * u) (3 - 1) 1 m2 := by rw [first, bd2_s]
  have H2 : TM n T m2 := H1.fr (a5 0 (by decide)) (a4 1 (by decide) (by decide))
  have g4 : ∀ k, k ≠ 0 → k ≠ 8 → k ≠ 9 → m2 k = m k := fun k k1 k2 k3 => by rw [a4 k k1 k2, f1 k k3]
  have g5 : ∀ s, s ≠ 2 → m2 0 s = m 0 s := fun s hs => by rw [a5 s hs, f1 0 (by decide)]
  have g6 : ∀ s, s ≠ 3 * u → m2 8 s = m 8 s := fun s hs => by rw [a6 s hs, f1 8 (by decide)]
  have g9 : ∀ s, s ≠ 2 → m2 9 s = m 9 s := fun s hs => by rw [a4 9 (by decide) (by decide), f2 s hs]
  have hA : b = true ↔ 0 < t_nf T (t_pj T p 0) ∧ t_nv T (t_pj T p 0) < g := by
    rw [a7, show nI g - (1 : Int32) = nI g - nI 1 from rfl, pk_sub_toInt (by omega) (by omega), Int32.toInt_zero]
    show _ ↔ 0 < t_nf T p ∧ t_nv T p < g
    omega
  have fin : ∃ m' b', (if bI b = 0 then some (0, m2) else rx_8 rom4 rom5 (3 * u) (3 - 1) 1 m2) = some (bI b', m') ∧ ((∀ k, k ≠ 0 → k ≠ 8 → k ≠ 9 → m' k = m k) ∧ (∀ s, s ≠ 2 → m' 0 s = m 0 s) ∧ (∀ s, (s < 3 * u ∨ 3 * u + 3 ≤ s) → m' 8 s = m 8 s) ∧ ∀ s, s ≠ 2 → m' 9 s = m 9 s) ∧ (b' = true ↔ u < 4 ∧ (0 < t_nf T (t_pj T p 0) ∧ t_nv T (t_pj T p 0) < g) ∧ ∀ i, 0 < i → i < 3 → T (t_ej T p (i - 1)) = 44 ∧ t_A T p (fun j => (rom4 j).toInt) (fun j => (rom5 j).toInt) i) ∧ (b' = true → m' 9 2 = nI (u + 1) ∧ m' 0 2 = nI (t_ej T p (3 - 1)) ∧ ∀ i, i < 3 → m' 8 (3 * u + i) = nI (t_nv T (t_pj T p i))) := by
    cases b with
    | false =>
      rw [if_pos (show bI false = 0 from rfl)]
      refine ⟨m2, false, rfl, ⟨g4, g5, fun s hs => g6 s (by omega), g9⟩, ⟨fun z => (by cases z), fun z => absurd (hA.mpr z.2.1) (by decide)⟩, fun z => (by cases z)⟩
    | true =>
      rw [if_neg (by decide)]
      obtain ⟨m3, b3, c1, ⟨c2, c3, c4⟩, c5, c6⟩ := rx_ok_8 (n := n) (T := T) (lo := rom4) (hi := rom5) (base := 3 * u) (p := p) (L := 3) (by omega) (by omega) hp (3 - 1) 0 m2 H2 (by omega) a2
      refine ⟨m3, b3, c1, ⟨fun k k1 k2 k3 => by rw [c2 k k1 k2, g4 k k1 k2 k3], fun s hs => by rw [c3 s hs, g5 s hs], fun s hs => by rw [c4 s (by omega), g6 s (by omega)], fun s hs => by rw [c2 9 (by decide) (by decide), g9 s hs]⟩, ?_, fun z => ⟨?_, (c6 z).1, fun i hi => ?_⟩⟩
      · rw [c5]
        exact ⟨fun z => ⟨hu', hA.mp rfl, z⟩, fun z => z.2.2⟩
      · rw [c2 9 (by decide) (by decide), a4 9 (by decide) (by decide), f3]
      · by_cases e : i = 0
        · subst e
          rw [c4 _ (by omega)]
          exact a3
        · exact (c6 z).2 i (by omega) hi
  rw [← goal2] at fin
  rw [f2 1 (by decide), hg, mu_3]
  simp only [ad_1, ad_2]
  exact fin
theorem ci_a (H : TC n T c) {p u g : Nat} (hp : p ≤ 300) (hl : T p = 97) (hu : c 60 3 = nI u) (hu4 : u ≤ 4) (hg : c 55 3 = nI g) (hg3 : g ≤ 3) : ∃ c', ((∀ k, k ≠ 60 → (k ≠ 62 + u ∨ 4 ≤ u) → c' k = c k) ∧ ∀ s, s ≠ 3 → c' 60 s = c 60 s) ∧ ((mX7_readItem c (nI p) = some (nI (t_pj T (p + 1) 3), c') ∧ (u < 4 ∧ t_nv T (t_pj T (p + 1) 0) < g ∧ ∀ j, j < 3 → t_A T (p + 1) (fun j => (rom4 j).toInt) (fun j => (rom5 j).toInt) j ∧ T (t_ej T (p + 1) j) = if j + 1 = 3 then 59 else 44) ∧ c' 60 3 = nI (u + 1) ∧ ∀ j, j < 3 → c' (62 + u) j = nI (t_nv T (t_pj T (p + 1) j))) ∨ (mX7_readItem c (nI p) = some (-4, c') ∧ ¬ (u < 4 ∧ t_nv T (t_pj T (p + 1) 0) < g ∧ ∀ j, j < 3 → t_A T (p + 1) (fun j => (rom4 j).toInt) (fun j => (rom5 j).toInt) j ∧ T (t_ej T (p + 1) j) = if j + 1 = 3 then 59 else 44))) := by
  have e1 : mX7_readItem c (nI p) = bd1 (mX2_isFull_60 c) (fun v14 => if v14 = 0 then (gIn (c 60 3) 4 (bd2 (mX7_readNumbers_1_60_g61 (c 60 3).toNatClampNeg c (nI p + (1 : Int32))) (fun v17 h16 => if v17 = (-4 : Int32) then (some ((-4 : Int32), h16)) else (gIn (0 : Int32) 3 (bd1 (mX2_has_55 h16 (h16 (62 + (c 60 3).toNatClampNeg) (0 : Int32).toNatClampNeg)) (fun v19 => if v19 = 0 then (some ((-4 : Int32), h16)) else (mX7_readItem_85c v17 h16))))))) else (some ((-4 : Int32), c))) := by
    unfold mX7_readItem
    rw [letter_c H (by omega), bd1_s, hl]
    rfl
  rw [e1]
  unfold mX2_isFull_60
  rw [hu, cl_n (by omega)]
  by_cases hu' : u < 4
  case neg =>
    rw [if_neg (by rw [nz_lt (by omega) (by omega)]; exact hu'), bd1_s, if_neg (by decide)]
    exact ⟨c, ⟨fun _ _ _ => rfl, fun _ _ => rfl⟩, Or.inr ⟨rfl, fun z => hu' z.1⟩⟩
  rw [if_pos (by rw [nz_lt (by omega) (by omega)]; exact hu'), bd1_s, if_pos rfl, gIn_nI hu' (by omega), ad_1]
  obtain ⟨c1, a1, a2⟩ := rdn_60 H (p := p + 1) (u := u) (by omega) hu'
  have hb := pj_b T (p + 1) 3
  rcases a2 with ⟨b1, b2, b3⟩ | ⟨b1, b2⟩
  · have hnv := nv_99 T (t_pj T (p + 1) 0)
    rw [b1, bd2_s, if_neg (by rw [nz_m4 (by omega)]; exact id), cl_0, b3 0 (by omega)]
    have hh : mX2_has_55 c1 (nI (t_nv T (t_pj T (p + 1) 0))) = some (bI (inB (nI (t_nv T (t_pj T (p + 1) 0))) g)) := has_gen (by rw [a1 55 (by omega), hg]) (by omega)
    rw [hh, bd1_s]
    have g0 : ∀ {α : Type} (X : Option α), gIn (0 : Int32) 3 X = X := fun X => rfl
    rw [g0]
    simp only [bI_if]
    by_cases hv : t_nv T (t_pj T (p + 1) 0) < g
    · rw [inB_t hv (by omega), if_pos rfl]
      unfold mX7_readItem_85c
      rw [a1 60 (by omega), hu, ad_1, mlet_s]
      refine ⟨_, ⟨fun k k1 k2 => by rw [wr_cell _ _ _ k1, a1 k (by omega)], fun s hs => by rw [wr_slot _ _ _ hs, a1 60 (by omega)]⟩, Or.inl ⟨rfl, ⟨hu', hv, b2⟩, wr_same _ _ _ _, fun j hj => by rw [wr_cell _ _ _ (by omega), b3 j hj]⟩⟩
    · rw [show inB (nI (t_nv T (t_pj T (p + 1) 0))) g = false from decide_eq_false (by rw [nI_toInt (by omega)]; omega), if_neg (by decide)]
      exact ⟨c1, ⟨fun k _ k2 => a1 k (by omega), fun s _ => by rw [a1 60 (by omega)]⟩, Or.inr ⟨rfl, fun z => hv z.2.1⟩⟩
  · rw [b1, bd2_s, if_pos rfl]
    exact ⟨c1, ⟨fun k _ k2 => a1 k (by omega), fun s _ => by rw [a1 60 (by omega)]⟩, Or.inr ⟨rfl, fun z => b2 z.2.2⟩⟩
end EV
