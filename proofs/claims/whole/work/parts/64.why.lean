/-! PURE LAYER 4: why, and the calls that only look -/
def inB (x : Int32) (n : Nat) : Bool := decide (0 ≤ x.toInt ∧ x.toInt < (n : Int))
theorem inB_t {j n : Nat} (h : j < n) (hn : n < 2147483648) : inB (nI j) n = true := decide_eq_true (by rw [nI_toInt (by omega)]; omega)
theorem inB_c (x : Int32) {n : Nat} (hn : n < 2147483648) : inB x n = false ∨ ∃ j, j < n ∧ x = nI j := by
  rcases ix_3 x hn with h | h
  · exact Or.inl (decide_eq_false (by omega))
  · exact Or.inr h
theorem has_gen {x y : Int32} {n : Nat} (hy : y = nI n) (hn : n < 2147483648) : (if x < 0 then some (0 : Int32) else if y ≤ x then some (0 : Int32) else some (1 : Int32)) = some (bI (inB x n)) := by
  subst hy
  simp only [i32_lt, i32_le, nI_toInt hn, Int32.toInt_zero]
  unfold inB
  repeat' split
  all_goals first
    | (rw [decide_eq_true (by omega)]; rfl)
    | (rw [decide_eq_false (by omega)]; rfl)
    | (exfalso; omega)
def q_any (f : Nat → Bool) : Nat → Bool
  | 0 => false
  | n + 1 => q_any f n || f n
theorem any_iff {f : Nat → Bool} : ∀ {n : Nat}, q_any f n = true ↔ ∃ k, k < n ∧ f k = true
  | 0 => by simp [q_any]
  | n + 1 => by
    rw [q_any, Bool.or_eq_true, any_iff]
    constructor
    · rintro (⟨k, hk, h⟩ | h)
      · exact ⟨k, by omega, h⟩
      · exact ⟨n, by omega, h⟩
    · rintro ⟨k, hk, h⟩
      rcases Nat.lt_or_ge k n with q | q
      · exact Or.inl ⟨k, q, h⟩
      · have : k = n := by omega
        subst this
        exact Or.inr h
theorem any_not {f : Nat → Bool} {n : Nat} : q_any f n = false ↔ ∀ k, k < n → f k = false := by
  constructor
  · intro h k hk
    cases hf : f k with
    | false => rfl
    | true => rw [any_iff.mpr ⟨k, hk, hf⟩] at h; cases h
  · intro h
    cases hq : q_any f n with
    | false => rfl
    | true =>
      obtain ⟨k, hk, hf⟩ := any_iff.mp hq
      rw [h k hk] at hf
      cases hf
theorem any_cong {f g : Nat → Bool} : ∀ {n : Nat}, (∀ k, k < n → f k = g k) → q_any f n = q_any g n
  | 0, _ => rfl
  | n + 1, h => by rw [q_any, q_any, any_cong (fun k hk => h k (by omega)), h n (by omega)]
def q_y3 (m : Mm) (r : Nat → Int32) (p a q : Nat) : Bool := decide (q ≠ p) && (decide (r q = nI a) && !q_tg m p q a)
def q_y4 (m : Mm) (r : Nat → Int32) (p q : Nat) : Bool := decide (q ≠ p) && (q_co r q && (decide (q_wh m q = q_wh m p) && q_ov m p q))
def q_wn (m : Mm) (r : Nat → Int32) (p a : Nat) : Nat := if q_co r p = true then 1 else if q_ft m r p a = false then 2 else if q_any (q_y3 m r p a) (q_np m) = true then 3 else if q_any (q_y4 m r p) (q_np m) = true then 4 else 0
def q_ac (r : Nat → Int32) (q : Nat) : Nat := (r q).toNatClampNeg
/-- the lowest clash of p on a with the contacts of a mask -/
def q_lw (m : Mm) (r : Nat → Int32) (M p a n : Nat) : Nat := if q_any (fun q => M.testBit q && decide (q_cl m p a q (q_ac r q) = 3)) n = true then 3 else if q_any (fun q => M.testBit q && decide (q_cl m p a q (q_ac r q) = 4)) n = true then 4 else 0
section EV
variable {c m : Mm}
theorem has5 (R : RW c m) (x : Int32) : mX5_has c x = some (bI (inB x (q_np m))) := has_gen R.cnp (by have := R.np; omega)
theorem has31 (R : RW c m) (x : Int32) : mX2_has_31 c x = some (bI (inB x (q_ns m))) := has_gen R.cns (by have := R.ns; omega)
theorem has37 (R : RW c m) (x : Int32) : mX2_has_37 c x = some (bI (inB x (q_ng m))) := has_gen R.cng (by have := R.ng; omega)
theorem has42 (R : RW c m) (x : Int32) : mX2_has_42 c x = some (bI (inB x (q_na m))) := has_gen R.cna (by have := R.na; omega)
theorem slot_c (x : Int32) : mX10_isSlot c x = some (bI (inB x 60)) := has_gen li_60 (by omega)
theorem in_60 (x : Int32) : mX11_in m x.toInt64 0 59 = some (bI (inB x 60)) := by
  rw [in_i m x 0 59 (a := 0) (b := 59) (by decide) (by decide)]
  unfold inB
  exact congrArg (fun b => some (bI b)) (decide_eq_decide.mpr (by omega))
theorem in_7 (x : Int32) : mX11_in m x.toInt64 0 6 = some (bI (inB x 7)) := by
  rw [in_i m x 0 6 (a := 0) (b := 6) (by decide) (by decide)]
  unfold inB
  exact congrArg (fun b => some (bI b)) (decide_eq_decide.mpr (by omega))
theorem isP_m (R : RW c m) (x : Int32) : mX11_isPass m x = some (bI (inB x (q_np m))) := by
  unfold mX11_isPass
  rw [R.mnp, in_n m x (by have := R.np; omega), bd1_s, bI_gB]
  rfl
theorem in_np (R : RW c m) (x : Int32) : mX11_in m x.toInt64 0 ((m 0 16) - 1).toInt64 = some (bI (inB x (q_np m))) := by
  rw [R.mnp, in_n m x (by have := R.np; omega)]
  rfl
theorem in_ns (R : RW c m) (x : Int32) : mX11_in m x.toInt64 0 ((m 5 0) - 1).toInt64 = some (bI (inB x (q_ns m))) := by
  rw [R.mns, in_n m x (by have := R.ns; omega)]
  rfl
theorem in_ng (R : RW c m) (x : Int32) : mX11_in m x.toInt64 0 ((m 5 1) - 1).toInt64 = some (bI (inB x (q_ng m))) := by
  rw [R.mng, in_n m x (by have := R.ng; omega)]
  rfl
theorem isA_m (R : RW c m) (x : Int32) : mX11_isAntenna m x = some (bI (inB x (q_na m))) := by
  unfold mX11_isAntenna
  rw [li_2, gIn_nI (by omega) (by omega), cl_n (by omega), R.mna, in_n m x (by have := R.na; omega), bd1_s, bI_gB]
  rfl
theorem co_m4 (R : RW c m) {p : Nat} (hp : p < 24) : (q_co (m 15) p = false ∧ m 15 p = -4 ∧ c 12 p = -1) ∨ (q_co (m 15) p = true ∧ q_ac (m 15) p < q_na m ∧ m 15 p = nI (q_ac (m 15) p) ∧ c 12 p = nI (q_ac (m 15) p)) := by
  have h1 := R.na
  rcases R.now hp with ⟨e1, e2⟩ | ⟨a, ha, e1, e2⟩
  · exact Or.inl ⟨by simp [q_co, e1], e1, e2⟩
  · have e : q_ac (m 15) p = a := by rw [q_ac, e1, cl_n (by omega)]
    refine Or.inr ⟨?_, by omega, by rw [e, e1], by rw [e, e2]⟩
    rw [q_co, e1]
    exact decide_eq_true (by rw [ne_eq, nz_m4 (by omega)]; exact id)
theorem why_91 (R : RW c m) {p i : Nat} (hp : p < q_np m) (hi : i < q_np m) (k : Int32 → Int32 → Int32 → Int32 → Int32 → Option Int32) (x2 t0 : Int32) (b : Bool) : mX11_whyNot_91 m k (nI p) x2 (bI b) (nI i) t0 = k (nI p) x2 t0 (bI (b || q_y4 m (m 15) p i)) (nI (i + 1)) := by
  have h0 := R.np
  have hw1 := (R.pb hp).2.2.1
  have hw2 := (R.pb hi).2.2.1
  have hns := R.ns
  unfold mX11_whyNot_91 mX11_whyNot_145 mX11_whyNot_141 mX11_whyNot_146
  rw [ov_m R hp hi, gIn_nI (by omega) (by omega), gIn_nI (by omega) (by omega), gIn_nI (by omega) (by omega), cl_n (by omega), cl_n (by omega), (R.pas hp).2.2.1, (R.pas hi).2.2.1]
  simp (disch := omega) only [bd1_s, bI_if, nz_eq, ad_1]
  have t4 : q_y4 m (m 15) p i = (decide (i ≠ p) && (decide (m 15 i ≠ -4) && (decide (q_wh m i = q_wh m p) && q_ov m p i))) := rfl
  rw [t4]
  by_cases c1 : i = p <;> cases b <;> by_cases c3 : m 15 i = -4 <;> by_cases c4 : q_wh m i = q_wh m p <;> cases q_ov m p i <;> simp [c1, c3, c4, bI]
theorem why_m (R : RW c m) {p a : Nat} (hp : p < q_np m) (ha : a < q_na m) : mX11_whyNot m (nI p) (nI a) = some (nI (q_wn m (m 15) p a)) := by
  have h0 := R.np; have h1 := R.na
  unfold mX11_whyNot q_wn mX11_whyNot_20
  rw [gIn_nI (by omega) (by omega), cl_n (by omega), gIn_nI (by omega) (by omega), fits_m R hp ha]
  simp only [bd1_s, bI_if]
  have lp : ∀ n i, i ≤ q_np m → q_np m - i < n → mX11_whyNot_45 m n (nI p) (nI a) (bI (q_any (q_y3 m (m 15) p a) i)) (bI (q_any (q_y4 m (m 15) p) i)) (nI i) = some (nI (if q_any (q_y3 m (m 15) p a) (q_np m) = true then 3 else if q_any (q_y4 m (m 15) p) (q_np m) = true then 4 else 0)) := by
    refine lo_v (fun n i x => mX11_whyNot_45 m n (nI p) (nI a) (bI (q_any (q_y3 m (m 15) p a) i)) (bI (q_any (q_y4 m (m 15) p) i)) (nI i)) _ (fun _ => ()) (q_np m) (fun n => ?_) (fun n i hi => ?_)
    · show mX11_whyNot_45 m (n + 1) _ _ _ _ _ = _
      rw [mX11_whyNot_45, R.mnp, if_pos (nI_le (Nat.le_refl _) (by omega))]
      simp only [bI_if]
      cases q_any (q_y3 m (m 15) p a) (q_np m) <;> cases q_any (q_y4 m (m 15) p) (q_np m) <;> rfl
    · show mX11_whyNot_45 m (n + 1) _ _ _ _ _ = mX11_whyNot_45 m n _ _ _ _ _
      rw [mX11_whyNot_45, R.mnp, if_neg (nI_ge hi (by omega)), gIn_nI (by omega) (by omega), cl_n (by omega), tog_m R hp hi ha]
      unfold mX11_whyNot_90 mX11_whyNot_86
      rw [why_91 R hp hi, why_91 R hp hi]
      simp (disch := omega) only [bd1_s, bI_if, nz_eq]
      rw [q_any, q_any]
      have t3 : q_y3 m (m 15) p a i = (decide (i ≠ p) && (decide (m 15 i = nI a) && !q_tg m p i a)) := rfl
      rw [t3]
      by_cases c1 : i = p <;> cases q_any (q_y3 m (m 15) p a) i <;> by_cases c2 : m 15 i = nI a <;> cases q_tg m p i a <;> simp [c1, c2, bI]
  have t5 : q_co (m 15) p = decide (m 15 p ≠ -4) := rfl
  rw [t5]
  by_cases c3 : m 15 p = -4
  · rw [if_pos c3, if_pos c3]
    have := lp FU 0 (by omega) (fu_lt (by omega))
    rw [q_any, q_any, bI_f, nI_0] at this
    rw [this]
    cases q_ft m (m 15) p a
    · simp [c3]; rfl
    · simp [c3]
  · rw [if_neg c3, if_neg c3]
    simp [c3]
    rfl
theorem clw_c (R : RW c m) {p a M : Nat} (hp : p < q_np m) (ha : a < q_na m) (hM : M < 2147483648) (hb : ∀ q, q < q_np m → M.testBit q = true → q ≠ p ∧ q_co (m 15) q = true) : mX4_clashWith c (nI M) (nI p) (nI a) = some (nI (q_lw m (m 15) M p a (q_np m))) := by
  have h0 := R.np; have h1 := R.na
  refine lo_v (fun n i x => mX4_clashWith_6 c n (nI M) (nI p) (nI a) x (nI i)) _ (fun i => nI (q_lw m (m 15) M p a i)) (q_np m) (fun n => ?_) (fun n i hi => ?_) FU 0 (by omega) (fu_lt (by omega))
  · show mX4_clashWith_6 c (n + 1) _ _ _ _ _ = _
    rw [mX4_clashWith_6, R.cnp, if_pos (nI_le (Nat.le_refl _) (by omega))]
  · show mX4_clashWith_6 c (n + 1) _ _ _ _ _ = mX4_clashWith_6 c n _ _ _ _ _
    rw [mX4_clashWith_6, R.cnp, if_neg (nI_ge hi (by omega))]
    unfold mX4_clashWith_49 mX4_clashWith_68 mX4_clashWith_72
    simp (disch := omega) only [bit_t]
    rw [gIn_nI (by omega) (by omega), cl_n (by omega), ad_1]
    have e1 : q_lw m (m 15) M p a (i + 1) = if (q_any (fun q => M.testBit q && decide (q_cl m p a q (q_ac (m 15) q) = 3)) i || (M.testBit i && decide (q_cl m p a i (q_ac (m 15) i) = 3))) = true then 3 else if (q_any (fun q => M.testBit q && decide (q_cl m p a q (q_ac (m 15) q) = 4)) i || (M.testBit i && decide (q_cl m p a i (q_ac (m 15) i) = 4))) = true then 4 else 0 := rfl
    have e0 : q_lw m (m 15) M p a i = if q_any (fun q => M.testBit q && decide (q_cl m p a q (q_ac (m 15) q) = 3)) i = true then 3 else if q_any (fun q => M.testBit q && decide (q_cl m p a q (q_ac (m 15) q) = 4)) i = true then 4 else 0 := rfl
    rw [e1, e0]
    cases hbit : M.testBit i with
    | false =>
      simp only [if_true, Bool.false_and, Bool.or_false]
    | true =>
      obtain ⟨hne, hco⟩ := hb i hi hbit
      rcases co_m4 R (p := i) (by omega) with ⟨w1, _⟩ | ⟨_, w2, w3, w4⟩
      · rw [hco] at w1; cases w1
      · rw [w4, clash_c R hp hi (Ne.symm hne) ha w2]
        simp only [bd1_s, Bool.true_and, Bool.true_eq_false, if_false]
        have hcl : q_cl m p a i (q_ac (m 15) i) = 3 ∨ q_cl m p a i (q_ac (m 15) i) = 4 ∨ q_cl m p a i (q_ac (m 15) i) = 0 := by
          unfold q_cl
          split
          · exact Or.inl rfl
          · split
            · exact Or.inr (Or.inl rfl)
            · exact Or.inr (Or.inr rfl)
        cases q_any (fun q => M.testBit q && decide (q_cl m p a q (q_ac (m 15) q) = 3)) i <;> cases q_any (fun q => M.testBit q && decide (q_cl m p a q (q_ac (m 15) q) = 4)) i <;> rcases hcl with hcl | hcl | hcl <;> rw [hcl] <;> rfl
theorem why_c (R : RW c m) {p a : Nat} (hp : p < q_np m) (ha : a < q_na m) : mX4_whyNot c (nI p) (nI a) = some (nI (q_wn m (m 15) p a)) := by
  have h0 := R.np; have h1 := R.na
  unfold mX4_whyNot q_wn
  rw [gIn_nI (by omega) (by omega), cl_n (by omega), fits_c R hp ha, cb_c R]
  rcases co_m4 R (p := p) (by omega) with ⟨w1, w2, w3⟩ | ⟨w1, w2, w3, w4⟩
  · rw [w3, if_pos rfl, w1]
    have hl : q_mk (q_co (m 15)) (q_np m) < 2147483648 := Nat.lt_of_lt_of_le (mk_lt _ _) (Nat.pow_le_pow_right (n := 2) (by omega) (show q_np m ≤ 31 by omega))
    rw [bd1_s, bd1_s, clw_c R hp ha hl (fun q hq hb => by
      rw [mk_bit, Bool.and_eq_true] at hb
      exact ⟨fun e => (by rw [e, w1] at hb; exact absurd hb.2 (by simp)), hb.2⟩)]
    simp only [bd1_s, bI_if]
    have k3 : q_any (fun q => (q_mk (q_co (m 15)) (q_np m)).testBit q && decide (q_cl m p a q (q_ac (m 15) q) = 3)) (q_np m) = q_any (q_y3 m (m 15) p a) (q_np m) := by
      refine any_cong (fun q hq => ?_)
      rw [mk_bit, decide_eq_true hq, Bool.true_and]
      have t3 : q_y3 m (m 15) p a q = (decide (q ≠ p) && (decide (m 15 q = nI a) && !q_tg m p q a)) := rfl
      rw [t3]
      rcases co_m4 R (p := q) (by omega) with ⟨v1, v2, v3⟩ | ⟨v1, v2, v3, v4⟩
      · rw [v1, v2, decide_eq_false (p := (-4 : Int32) = nI a) (fun h => Eq.mp (nz_m4 (a := a) (by omega)) h.symm), Bool.false_and, Bool.false_and, Bool.and_false]
      · have hqp : q ≠ p := fun e => by rw [e, w1] at v1; cases v1
        rw [v1, v3, decide_eq_true hqp, Bool.true_and, Bool.true_and]
        simp (disch := omega) only [nz_eq]
        unfold q_cl
        by_cases hab : q_ac (m 15) q = a
        · cases ht : q_tg m p q a
          · simp [hab, ht]
          · simp [hab, ht]; split <;> simp
        · have hab' : ¬ a = q_ac (m 15) q := fun h => hab h.symm
          simp [hab, hab']; split <;> simp
    rw [show q_lw m (m 15) (q_mk (q_co (m 15)) (q_np m)) p a (q_np m) = (if q_any (q_y3 m (m 15) p a) (q_np m) = true then 3 else if q_any (fun q => (q_mk (q_co (m 15)) (q_np m)).testBit q && decide (q_cl m p a q (q_ac (m 15) q) = 4)) (q_np m) = true then 4 else 0) from by rw [q_lw, k3]]
    have k4 : q_any (q_y3 m (m 15) p a) (q_np m) = false → q_any (fun q => (q_mk (q_co (m 15)) (q_np m)).testBit q && decide (q_cl m p a q (q_ac (m 15) q) = 4)) (q_np m) = q_any (q_y4 m (m 15) p) (q_np m) := by
      intro hno
      rw [← k3, any_not] at hno
      refine any_cong (fun q hq => ?_)
      have hno := hno q hq
      rw [mk_bit, decide_eq_true hq, Bool.true_and] at hno ⊢
      have t4 : q_y4 m (m 15) p q = (decide (q ≠ p) && (q_co (m 15) q && (decide (q_wh m q = q_wh m p) && q_ov m p q))) := rfl
      rw [t4]
      cases v1 : q_co (m 15) q
      · simp
      · have hqp : q ≠ p := fun e => by rw [e, w1] at v1; cases v1
        rw [v1, Bool.true_and] at hno
        rw [decide_eq_true hqp, Bool.true_and, Bool.true_and, Bool.true_and]
        have hno := of_decide_eq_false hno
        unfold q_cl at hno ⊢
        split
        · rename_i hc; rw [if_pos hc] at hno; exact absurd rfl hno
        · rw [show decide (q_wh m q = q_wh m p) = decide (q_wh m p = q_wh m q) from decide_eq_decide.mpr ⟨Eq.symm, Eq.symm⟩]
          cases hh : (decide (q_wh m p = q_wh m q) && q_ov m p q) <;> simp
    cases hf : q_ft m (m 15) p a
    · rfl
    · simp only [if_true, Bool.false_eq_true, Bool.true_eq_false, if_false]
      cases h3 : q_any (q_y3 m (m 15) p a) (q_np m)
      · rw [k4 h3]
      · rfl
  · rw [w4, if_neg (by rw [nz_m1 (by omega)]; exact id), w1]
    rfl
end EV
