/-! PURE LAYER 5: sat, antenna, seen, pass, rate, why, bound -/
theorem su_3 {t a b : Nat} (ht : t ≤ 59) (ha : a ≤ 59) (hb : b ≤ 59) : nI t - nI a - nI b = nI (t + 118 - a - b) - nI 118 := by
  apply Int32.toInt_inj.mp
  have h1 := pk_sub_toInt (a := t) (b := a) (by omega) (by omega)
  have h2 := nI_toInt (n := b) (by omega)
  rw [fb_subI (by omega) (by omega), h1, h2, pk_sub_toInt (by omega) (by omega)]
  omega
/-- whether a sat is seen from a station in a slot -/
def q_se (m : Mm) (i j t : Nat) : Bool := decide ((t + 20 * q_sa m i 1 - q_sa m i 0 - q_st m j 0) % q_sa m i 1 < q_st m j 1)
/-- what comes down of a pass in a slot -/
def q_rt (m : Mm) (p t : Nat) : Nat := (2 + q_sa m (q_wh m p) 2) * (1 + min (t - q_fi m p) (q_la m p - t))
def q_is (m : Mm) (w o p : Nat) : Bool := if w = 0 then decide (q_wh m p = o) else if w = 1 then decide (q_wh m p = o) && q_co (m 15) p else decide (m 15 p = nI o)
def q_sm (m : Mm) (w o : Nat) : Nat → Nat := fb_sm (fun p => if q_is m w o p = true then (if w = 3 then q_la m p - q_fi m p + 1 else 1) else 0)
def q_wd (m : Mm) (f : Nat) : Nat := min 6 (q_np m - f)
theorem mk_any (f : Nat → Bool) : ∀ n, (q_mk f n = 0) = (q_any f n = false)
  | 0 => by simp [q_mk, q_any]
  | n + 1 => by
    have ih := mk_any f n
    rw [q_mk, q_any]
    cases f n
    · simp [ih]
    · have : 0 < 2 ^ n := Nat.pow_pos (by omega)
      simp
theorem mk_31 (f : Nat → Bool) {n : Nat} (h : n ≤ 31) : q_mk f n < 2147483648 := Nat.lt_of_lt_of_le (mk_lt _ _) (Nat.pow_le_pow_right (n := 2) (by omega) h)
section EV
variable {c m : Mm}
theorem sees_c (R : RW c m) {i j t : Nat} (hi : i < q_ns m) (hj : j < q_ng m) (ht : t ≤ 59) : mX7_sees_30 c (nI i) (nI j) (nI t) = some (bI (q_se m i j t)) := by
  obtain ⟨b1, b2, b3, b4, b5, b6, b7⟩ := R.sb hi
  obtain ⟨g1, g2, g3⟩ := R.gb hj
  unfold mX7_sees_30
  have n1 := num31 R hi (j := 1) (by omega)
  have n0 := num31 R hi (j := 0) (by omega)
  have m0 := num37 R hj (j := 0) (by omega)
  have m1 := num37 R hj (j := 1) (by omega)
  have fm : mJ9_floorMod_7cf53 c (nI t - nI (q_sa m i 0) - nI (q_st m j 0)) (nI (q_sa m i 1)) = some (nI ((t + 118 - q_sa m i 0 - q_st m j 0 + 20 * q_sa m i 1 - 118) % q_sa m i 1)) := by
    rw [su_3 ht b1 g1]
    exact fm_1 _ (by omega) _ (by omega) b2
  have hl : (t + 118 - q_sa m i 0 - q_st m j 0 + 20 * q_sa m i 1 - 118) % q_sa m i 1 < q_sa m i 1 := Nat.mod_lt _ (by omega)
  simp (disch := omega) only [li_0, li_1, li_2, li_3, li_4, li_5, li_6, li_24, li_32, li_59, li_60, li_240, nI_add, pk_mul, gIn_nI, cl_n, mlet_s, bd1_s, bdh_s, bd2_s, nz_lt, nz_le, nz_eq, if_true, if_false, Nat.mul_zero, Nat.zero_add, Nat.add_zero, bd1_ite, bI_if, bI_ifn, n1, n0, m0, m1]
  rw [fm]
  simp (disch := omega) only [li_0, li_1, li_2, li_3, li_4, li_5, li_6, li_24, li_32, li_59, li_60, li_240, nI_add, pk_mul, gIn_nI, cl_n, mlet_s, bd1_s, bdh_s, bd2_s, nz_lt, nz_le, nz_eq, if_true, if_false, Nat.mul_zero, Nat.zero_add, Nat.add_zero, bd1_ite, bI_if, bI_ifn]
  unfold q_se
  rw [show t + 118 - q_sa m i 0 - q_st m j 0 + 20 * q_sa m i 1 - 118 = t + 20 * q_sa m i 1 - q_sa m i 0 - q_st m j 0 from by omega] at *
  repeat' split
  all_goals first
    | (rw [decide_eq_true (by omega)]; rfl)
    | (rw [decide_eq_false (by omega)]; rfl)
    | (exfalso; omega)
theorem sees_m (R : RW c m) {i j t : Nat} (hi : i < q_ns m) (hj : j < q_ng m) (ht : t ≤ 59) : mX11_sees m (nI i) (nI j) (nI t) = some (bI (q_se m i j t)) := by
  obtain ⟨b1, b2, b3, b4, b5, b6, b7⟩ := R.sb hi
  obtain ⟨g1, g2, g3⟩ := R.gb hj
  have h2 := R.ns; have h3 := R.ng
  unfold mX11_sees mX11_sees_51 gNz
  have n1 := (R.sat hi (j := 1) (by omega)).1
  have n0 := (R.sat hi (j := 0) (by omega)).1
  have m0 := (R.sta hj (j := 0) (by omega)).1
  have m1 := (R.sta hj (j := 1) (by omega)).1
  rw [Nat.add_zero] at n0 m0
  have e1 : (5 : Int32) * nI i + 1 = nI (5 * i + 1) := by rw [mu_5, ad_1]
  have e2 : (2 : Int32) * nI j + 1 = nI (2 * j + 1) := by rw [mu_2, ad_1]
  have fm : (if 0 ≤ (nI t - nI (q_sa m i 0) - nI (q_st m j 0)) - (nI t - nI (q_sa m i 0) - nI (q_st m j 0)) / nI (q_sa m i 1) * nI (q_sa m i 1) then (nI t - nI (q_sa m i 0) - nI (q_st m j 0)) - (nI t - nI (q_sa m i 0) - nI (q_st m j 0)) / nI (q_sa m i 1) * nI (q_sa m i 1) else (nI t - nI (q_sa m i 0) - nI (q_st m j 0)) - (nI t - nI (q_sa m i 0) - nI (q_st m j 0)) / nI (q_sa m i 1) * nI (q_sa m i 1) + nI (q_sa m i 1)) = nI ((t + 118 - q_sa m i 0 - q_st m j 0 + 20 * q_sa m i 1 - 118) % q_sa m i 1) := by
    rw [su_3 ht b1 g1]
    exact fm_2 _ (by omega) _ (by omega) b2
  have hl : (t + 118 - q_sa m i 0 - q_st m j 0 + 20 * q_sa m i 1 - 118) % q_sa m i 1 < q_sa m i 1 := Nat.mod_lt _ (by omega)
  rw [e1, e2, mu_5, mu_2]
  simp (disch := omega) only [gIn_nI, cl_n, mlet_s, n1, n0, m0, m1]
  rw [if_neg (nI_ne0 (by omega) (by omega))]
  have key : ∀ (x y z : Int32) (v : Nat), (if 0 ≤ x then x else y) = nI v → v < 2147483648 → (if 0 ≤ x then (if z ≤ x then some (0 : Int32) else some 1) else (if z ≤ y then some (0 : Int32) else some 1)) = if z ≤ nI v then some 0 else some 1 := by
    intro x y z v h _
    by_cases hx : 0 ≤ x
    · rw [if_pos hx] at h ⊢; rw [h]
    · rw [if_neg hx] at h ⊢; rw [h]
  rw [key _ _ _ _ fm (by omega)]
  simp (disch := omega) only [nz_le]
  unfold q_se
  rw [show t + 118 - q_sa m i 0 - q_st m j 0 + 20 * q_sa m i 1 - 118 = t + 20 * q_sa m i 1 - q_sa m i 0 - q_st m j 0 from by omega] at *
  repeat' split
  all_goals first
    | (rw [decide_eq_true (by omega)]; rfl)
    | (rw [decide_eq_false (by omega)]; rfl)
    | (exfalso; omega)
theorem rate_c (R : RW c m) {p t : Nat} (hp : p < q_np m) (h1 : q_fi m p ≤ t) (h2 : t ≤ q_la m p) : mX5_rateIn c (nI p) (nI t) = some (nI (q_rt m p t)) := by
  have h0 := R.np
  obtain ⟨e1, e2, e3, e4, e5, e6⟩ := R.cpa hp
  obtain ⟨b1, b2, b3, b4, b5, b6⟩ := R.pb hp
  unfold mX5_rateIn mJ9_min_7cf53 q_rt
  simp (disch := omega) only [li_0, li_1, li_2, li_3, li_4, li_5, li_6, li_24, li_32, li_59, li_60, li_240, nI_add, pk_mul, gIn_nI, cl_n, mlet_s, bd1_s, bdh_s, bd2_s, nz_lt, nz_le, nz_eq, if_true, if_false, Nat.mul_zero, Nat.zero_add, Nat.add_zero, bd1_ite, bI_if, bI_ifn, e1, e2, e6, pk_sub]
  split
  · rw [Nat.min_eq_right (by omega)]
  · rw [Nat.min_eq_left (by omega)]
theorem rate_m (R : RW c m) {p t : Nat} (hp : p < q_np m) (h1 : q_fi m p ≤ t) (h2 : t ≤ q_la m p) : mX11_rateAt m (nI p) (nI t) = some (nI (q_rt m p t)) := by
  have h0 := R.np; have h3 := R.ns
  obtain ⟨e1, e2, e3, e4, e5⟩ := R.pas hp
  obtain ⟨b1, b2, b3, b4, b5, b6⟩ := R.pb hp
  have s2 := (R.sat b3 (j := 2) (by omega)).1
  unfold mX11_rateAt mX11_rateOf q_rt
  simp (disch := omega) only [li_0, li_1, li_2, li_3, li_4, li_5, li_6, li_24, li_32, li_59, li_60, li_240, nI_add, pk_mul, gIn_nI, cl_n, mlet_s, bd1_s, bdh_s, bd2_s, nz_lt, nz_le, nz_eq, if_true, if_false, Nat.mul_zero, Nat.zero_add, Nat.add_zero, bd1_ite, bI_if, bI_ifn, e1, e2, e3, s2, pk_sub]
  rw [show q_la m p - q_fi m p + 1 - 1 - (t - q_fi m p) = q_la m p - t from by omega]
  split
  · rw [Nat.min_eq_right (by omega)]
  · rw [Nat.min_eq_left (by omega)]
theorem ps_c (R : RW c m) {o : Nat} (ho : o < q_ns m) : mX4_passesOfSat c (nI o) = some (nI (q_sm m 0 o (q_np m))) := by
  have h0 := R.np; have h3 := R.ns
  refine lo_v (fun n i x => mX4_passesOfSat_4 c n (nI o) x (nI i)) _ (fun i => nI (q_sm m 0 o i)) (q_np m) (fun n => ?_) (fun n i hi => ?_) FU 0 (by omega) (fu_lt (by omega))
  · show mX4_passesOfSat_4 c (n + 1) _ _ _ = _
    rw [mX4_passesOfSat_4, R.cnp, if_pos (nI_le (Nat.le_refl _) (by omega))]
  · show mX4_passesOfSat_4 c (n + 1) _ _ _ = mX4_passesOfSat_4 c n _ _ _
    have hb := R.pb hi
    rw [mX4_passesOfSat_4, R.cnp, if_neg (nI_ge hi (by omega))]
    unfold mX4_passesOfSat_34
    simp (disch := omega) only [li_0, li_1, li_2, li_3, li_4, li_5, li_6, li_24, li_32, li_59, li_60, li_240, nI_add, pk_mul, gIn_nI, cl_n, mlet_s, bd1_s, bdh_s, bd2_s, nz_lt, nz_le, nz_eq, if_true, if_false, Nat.mul_zero, Nat.zero_add, Nat.add_zero, bd1_ite, bI_if, bI_ifn, (R.cpa hi).2.2.1]
    rw [q_sm, fb_sm_succ]
    simp only [q_is, if_true, decide_eq_true_eq]
    by_cases e : q_wh m i = o
    · rw [if_pos e, if_pos e, if_neg (by decide)]
    · rw [if_neg e, if_neg e]; rfl
theorem cs_c (R : RW c m) {o : Nat} (ho : o < q_ns m) : mX4_contactsOfSat c (nI o) = some (nI (q_sm m 1 o (q_np m))) := by
  have h0 := R.np; have h3 := R.ns; have h1 := R.na
  refine lo_v (fun n i x => mX4_contactsOfSat_4 c n (nI o) x (nI i)) _ (fun i => nI (q_sm m 1 o i)) (q_np m) (fun n => ?_) (fun n i hi => ?_) FU 0 (by omega) (fu_lt (by omega))
  · show mX4_contactsOfSat_4 c (n + 1) _ _ _ = _
    rw [mX4_contactsOfSat_4, R.cnp, if_pos (nI_le (Nat.le_refl _) (by omega))]
  · show mX4_contactsOfSat_4 c (n + 1) _ _ _ = mX4_contactsOfSat_4 c n _ _ _
    have hb := R.pb hi
    rw [mX4_contactsOfSat_4, R.cnp, if_neg (nI_ge hi (by omega))]
    unfold mX4_contactsOfSat_46 mX4_contactsOfSat_47
    rw [gIn_nI (by omega) (by omega), gIn_nI (by omega) (by omega), cl_n (by omega), (R.cpa hi).2.2.1, ad_1]
    simp (disch := omega) only [nz_eq, mlet_s]
    rw [q_sm, fb_sm_succ]
    have t : q_is m 1 o i = (decide (q_wh m i = o) && q_co (m 15) i) := rfl
    rw [t]
    rcases co_m4 R (p := i) (by omega) with ⟨w1, w2, w3⟩ | ⟨w1, w2, w3, w4⟩
    · rw [w1, w3, Bool.and_false, li_0, nI_add]
      by_cases e : q_wh m i = o
      · rw [if_pos e, if_pos rfl]; rfl
      · rw [if_neg e]; rfl
    · rw [w1, w4, Bool.and_true]
      by_cases e : q_wh m i = o
      · rw [if_pos e, if_neg (by rw [nz_m1 (by omega)]; exact id), decide_eq_true e, li_1, nI_add]; rfl
      · rw [if_neg e, decide_eq_false e, li_0, nI_add]; rfl
theorem ca_c (R : RW c m) {o : Nat} (ho : o < q_na m) : mX4_contactsOfAntenna c (nI o) = some (nI (q_sm m 2 o (q_np m))) := by
  have h0 := R.np; have h3 := R.ns; have h1 := R.na
  refine lo_v (fun n i x => mX4_contactsOfAntenna_4 c n (nI o) x (nI i)) _ (fun i => nI (q_sm m 2 o i)) (q_np m) (fun n => ?_) (fun n i hi => ?_) FU 0 (by omega) (fu_lt (by omega))
  · show mX4_contactsOfAntenna_4 c (n + 1) _ _ _ = _
    rw [mX4_contactsOfAntenna_4, R.cnp, if_pos (nI_le (Nat.le_refl _) (by omega))]
  · show mX4_contactsOfAntenna_4 c (n + 1) _ _ _ = mX4_contactsOfAntenna_4 c n _ _ _
    rw [mX4_contactsOfAntenna_4, R.cnp, if_neg (nI_ge hi (by omega))]
    unfold mX4_contactsOfAntenna_34
    rw [gIn_nI (by omega) (by omega), cl_n (by omega), ad_1 i, mlet_s, mlet_s]
    rw [q_sm, fb_sm_succ]
    have t : q_is m 2 o i = decide (m 15 i = nI o) := rfl
    rw [t]
    rcases co_m4 R (p := i) (by omega) with ⟨w1, w2, w3⟩ | ⟨w1, w2, w3, w4⟩
    · have z1 : ¬ (-1 : Int32) = nI o := fun h => Eq.mp (nz_m1 (a := o) (by omega)) h.symm
      have z4 : ¬ (-4 : Int32) = nI o := fun h => Eq.mp (nz_m4 (a := o) (by omega)) h.symm
      rw [w2, w3, if_neg z1, decide_eq_false z4, li_0, nI_add]; rfl
    · rw [w3, w4, li_0, li_1, nI_add, nI_add]
      by_cases e : nI (q_ac (m 15) i) = nI o
      · rw [if_pos e, decide_eq_true e]; rfl
      · rw [if_neg e, decide_eq_false e]; rfl
theorem bs_c (R : RW c m) {o : Nat} (ho : o < q_na m) : mX4_busySlotsOfAntenna c (nI o) = some (nI (q_sm m 3 o (q_np m))) := by
  have h0 := R.np; have h3 := R.ns; have h1 := R.na
  refine lo_v (fun n i x => mX4_busySlotsOfAntenna_4 c n (nI o) x (nI i)) _ (fun i => nI (q_sm m 3 o i)) (q_np m) (fun n => ?_) (fun n i hi => ?_) FU 0 (by omega) (fu_lt (by omega))
  · show mX4_busySlotsOfAntenna_4 c (n + 1) _ _ _ = _
    rw [mX4_busySlotsOfAntenna_4, R.cnp, if_pos (nI_le (Nat.le_refl _) (by omega))]
  · show mX4_busySlotsOfAntenna_4 c (n + 1) _ _ _ = mX4_busySlotsOfAntenna_4 c n _ _ _
    obtain ⟨b1, b2, _⟩ := R.pb hi
    rw [mX4_busySlotsOfAntenna_4, R.cnp, if_neg (nI_ge hi (by omega))]
    unfold mX4_busySlotsOfAntenna_54
    rw [gIn_nI (by omega) (by omega), gIn_nI (by omega) (by omega), gIn_nI (by omega) (by omega), cl_n (by omega), (R.cpa hi).1, (R.cpa hi).2.1, ad_1 i, mlet_s, mlet_s, pk_sub b1, ad_1]
    rw [q_sm, fb_sm_succ]
    have t : q_is m 3 o i = decide (m 15 i = nI o) := rfl
    rw [t]
    rcases co_m4 R (p := i) (by omega) with ⟨w1, w2, w3⟩ | ⟨w1, w2, w3, w4⟩
    · have z1 : ¬ (-1 : Int32) = nI o := fun h => Eq.mp (nz_m1 (a := o) (by omega)) h.symm
      have z4 : ¬ (-4 : Int32) = nI o := fun h => Eq.mp (nz_m4 (a := o) (by omega)) h.symm
      rw [w2, w3, if_neg z1, decide_eq_false z4, li_0, nI_add]; rfl
    · rw [w3, w4, li_0, nI_add, nI_add]
      by_cases e : nI (q_ac (m 15) i) = nI o
      · rw [if_pos e, decide_eq_true e]; rfl
      · rw [if_neg e, decide_eq_false e]; rfl
theorem sum_m (R : RW c m) {w o : Nat} (hw : w < 4) (ho : o < 4) : mX11_sumOf m (nI w) (nI o) = some (nI (q_sm m w o (q_np m))) := by
  have h0 := R.np; have h3 := R.ns; have h1 := R.na
  refine lo_v (fun n i x => mX11_sumOf_5 m n (nI w) (nI o) x (nI i)) _ (fun i => nI (q_sm m w o i)) (q_np m) (fun n => ?_) (fun n i hi => ?_) FU 0 (by omega) (fu_lt (by omega))
  · show mX11_sumOf_5 m (n + 1) _ _ _ _ = _
    rw [mX11_sumOf_5, R.mnp, if_pos (nI_le (Nat.le_refl _) (by omega))]
  · show mX11_sumOf_5 m (n + 1) _ _ _ _ = mX11_sumOf_5 m n _ _ _ _
    obtain ⟨b1, b2, b3, _⟩ := R.pb hi
    rw [mX11_sumOf_5, R.mnp, if_neg (nI_ge hi (by omega))]
    unfold mX11_sumOf_69 mX11_sumOf_89 mX11_sumOf_127
    rw [gIn_nI (by omega) (by omega), gIn_nI (by omega) (by omega), gIn_nI (by omega) (by omega), cl_n (by omega), (R.pas hi).1, (R.pas hi).2.1, (R.pas hi).2.2.1, pk_sub b1, li_0, li_1, li_3]
    simp (disch := omega) only [nz_eq, mlet_s, nI_add, gIn_nI, cl_n]
    rw [q_sm, fb_sm_succ]
    simp only [q_is, q_co]
    have z4 : ¬ (-4 : Int32) = nI o := fun h => Eq.mp (nz_m4 (a := o) (by omega)) h.symm
    have z5 : ¬ nI o = (-4 : Int32) := fun h => z4 h.symm
    rcases (show w = 0 ∨ w = 1 ∨ w = 2 ∨ w = 3 by omega) with e | e | e | e <;> subst e <;> by_cases e1 : q_wh m i = o <;> by_cases e2 : m 15 i = -4 <;> by_cases e3 : m 15 i = nI o <;> simp [e1, e2, e3, z4, z5]
theorem fa_c (R : RW c m) {p : Nat} (hp : p < q_np m) : mX4_fittingAntennas c (nI p) = some (nI (q_mk (q_ft m (m 15) p) (q_na m))) := by
  have h0 := R.np; have h1 := R.na
  refine lo_v (fun n i x => mX4_fittingAntennas_4 c n (nI p) x (nI i)) _ (fun i => nI (q_mk (q_ft m (m 15) p) i)) (q_na m) (fun n => ?_) (fun n i hi => ?_) FU 0 (by omega) (fu_lt (by omega))
  · show mX4_fittingAntennas_4 c (n + 1) _ _ _ = _
    rw [mX4_fittingAntennas_4, R.cna, if_pos (nI_le (Nat.le_refl _) (by omega))]
  · show mX4_fittingAntennas_4 c (n + 1) _ _ _ = mX4_fittingAntennas_4 c n _ _ _
    rw [mX4_fittingAntennas_4, R.cna, if_neg (nI_ge hi (by omega)), fits_c R hp hi]
    unfold mX4_fittingAntennas_33
    rw [bd1_s, mlet_s, or_bit (by omega) (mk_lt _ _), ad_1, q_mk]
    simp only [bI_if]
    cases q_ft m (m 15) p i <;> rfl
end EV
