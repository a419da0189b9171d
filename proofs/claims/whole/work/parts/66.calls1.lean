/-! PURE LAYER 6: the calls that only look -/
section EV
variable {c m : Mm}
theorem go_sat (R : RW c m) (x y : Int32) : ∃ v, mX10_sat c x y = some v ∧ mX11_sat m x y = some v := by
  have h0 := R.np; have h1 := R.na; have h2 := R.ns
  have e0 : (0 : Int32).toNatClampNeg = 0 := rfl
  unfold mX10_sat mX11_sat
  rw [has31 R x, li_0, gIn_nI (by omega) (by omega), cl_n (by omega), ← li_0, in_ns R x, in_7 y, bd1_s, bd1_s]
  simp only [bI_if]
  rcases inB_c x (n := q_ns m) (by omega) with hx | ⟨i, hi, rfl⟩
  · rw [hx]; exact ⟨-1, rfl, rfl⟩
  rw [inB_t hi (by omega), if_pos rfl, if_pos rfl, bd1_s]
  simp only [bI_if]
  rcases inB_c y (n := 7) (by omega) with hy | ⟨w, hw, rfl⟩
  · rw [hy]
    refine ⟨-1, ?_, rfl⟩
    have hy := of_decide_eq_false hy
    by_cases c1 : y < 0
    · rw [if_pos c1]
    · rw [if_neg c1, if_neg]
      rw [i32_lt, Int32.toInt_zero] at c1
      rw [i32_le, show (6 : Int32).toInt = 6 from rfl]
      omega
  rw [inB_t hw (by omega), if_pos rfl, if_neg (nI_pos (by omega))]
  by_cases c5 : w = 5
  · subst c5
    refine ⟨nI (q_sm m 0 i (q_np m)), ?_, ?_⟩
    · rw [if_pos (by decide), if_pos (by decide), ps_c R hi]; rfl
    · rw [if_pos (by decide), show nI 5 - (5 : Int32) = nI 0 from rfl, sum_m R (by omega) (by omega)]; rfl
  by_cases c6 : w = 6
  · subst c6
    refine ⟨nI (q_sm m 1 i (q_np m)), ?_, ?_⟩
    · rw [if_pos (by decide), if_neg (by decide), if_pos (by decide), cs_c R hi]; rfl
    · rw [if_pos (by decide), show nI 6 - (5 : Int32) = nI 1 from rfl, sum_m R (by omega) (by omega)]; rfl
  refine ⟨nI (q_sa m i w), ?_, ?_⟩
  · rw [li_6, li_5, if_pos (nI_le (by omega) (by omega)), if_neg (by rw [nz_eq (by omega) (by omega)]; exact c5), if_neg (by rw [nz_eq (by omega) (by omega)]; exact c6), num31 R hi (by omega)]; rfl
  · rw [li_5, if_neg (nI_ge (by omega) (by omega)), pk_mul, nI_add, gIn_nI (by omega) (by omega), cl_n (by omega), (R.sat hi (by omega)).1]
theorem go_antenna (R : RW c m) (x y : Int32) : ∃ v, mX10_antenna c x y = some v ∧ mX11_antenna m x y = some v := by
  have h0 := R.np; have h1 := R.na; have h2 := R.ns
  unfold mX10_antenna mX11_antenna
  rw [has42 R x, isA_m R x, in_7 y, bd1_s, bd1_s]
  simp only [bI_if]
  rcases inB_c x (n := q_na m) (by omega) with hx | ⟨a, ha, rfl⟩
  · rw [hx]; exact ⟨-1, rfl, rfl⟩
  rw [inB_t ha (by omega), if_pos rfl, if_pos rfl, bd1_s]
  simp only [bI_if]
  rcases inB_c y (n := 7) (by omega) with hy | ⟨w, hw, rfl⟩
  · rw [hy]
    refine ⟨-1, ?_, rfl⟩
    have hy := of_decide_eq_false hy
    by_cases c1 : y < 0
    · rw [if_pos c1]
    · rw [if_neg c1, if_neg]
      rw [i32_lt, Int32.toInt_zero] at c1
      rw [i32_le, show (6 : Int32).toInt = 6 from rfl]
      omega
  obtain ⟨o1, o2, o3, o4⟩ := R.out (a := a) (by omega)
  obtain ⟨f, t, c1, c2, c3, c4, c5⟩ := R.cou (a := a) (by omega)
  have hif : ∀ X Y : Option Int32, (if q_ot (m 15) a < q_of (m 15) a then X else Y) = if q_of (m 15) a ≤ q_ot (m 15) a then Y else X := by
    intro X Y
    by_cases h : q_of (m 15) a ≤ q_ot (m 15) a
    · rw [if_pos h, if_neg (by omega)]
    · rw [if_neg h, if_pos (by omega)]
  rw [inB_t hw (by omega), if_pos rfl, if_neg (nI_pos (by omega)), isOut_c R (by omega)]
  simp (disch := omega) only [li_0, li_1, li_2, li_3, li_4, li_5, li_6, li_24, li_32, li_59, li_60, li_240, nI_add, pk_mul, gIn_nI, cl_n, mlet_s, bd1_s, bdh_s, bd2_s, nz_lt, nz_le, nz_eq, if_true, if_false, Nat.mul_zero, Nat.zero_add, Nat.add_zero, bd1_ite, bI_if, bI_ifn, o1, o2, decide_eq_true_eq]
  simp only [← li_0]
  rw [hif]
  unfold mX11_antenna_54
  rw [if_pos (show w ≤ 6 by omega)]
  rcases (show w = 3 ∨ w = 4 ∨ w = 5 ∨ w = 6 ∨ w < 3 by omega) with e | e | e | e | e
  · subst e
    rw [if_pos rfl]
    by_cases h : q_of (m 15) a ≤ q_ot (m 15) a
    · refine ⟨nI f, by rw [if_pos h, c1], ?_⟩
      rw [if_pos h, if_pos (by decide), if_neg (by decide), if_neg (by decide), mu_2, ad_24, show nI (24 + 2 * a) + nI 3 - 3 = nI (24 + 2 * a) from by rw [nI_add, li_3, pk_sub (by omega)]; rfl, gIn_nI (by omega) (by omega), cl_n (by omega), o1]
      exact congrArg (fun z => some (nI z)) (by omega)
    · refine ⟨-4, by rw [if_neg h]; rfl, ?_⟩
      rw [if_neg h, if_pos (by decide), if_neg (by decide), if_pos rfl]
  · subst e
    rw [if_neg (by decide), if_pos rfl]
    by_cases h : q_of (m 15) a ≤ q_ot (m 15) a
    · refine ⟨nI t, by rw [if_pos h, c2], ?_⟩
      rw [if_pos h, if_pos (by decide), if_neg (by decide), if_neg (by decide), mu_2, ad_24, show nI (24 + 2 * a) + nI 4 - 3 = nI (24 + 2 * a + 1) from by rw [nI_add, li_3, pk_sub (by omega)]; rfl, gIn_nI (by omega) (by omega), cl_n (by omega), o2]
      exact congrArg (fun z => some (nI z)) (by omega)
    · refine ⟨-4, by rw [if_neg h]; rfl, ?_⟩
      rw [if_neg h, if_pos (by decide), if_neg (by decide), if_pos rfl]
  · subst e
    refine ⟨nI (q_sm m 2 a (q_np m)), ?_, ?_⟩
    · rw [if_neg (by decide), if_neg (by decide), if_pos rfl, ca_c R ha]; rfl
    · by_cases h : q_of (m 15) a ≤ q_ot (m 15) a
      · rw [if_pos h, if_pos (by decide), if_pos (by decide), show nI 5 - (3 : Int32) = nI 2 from rfl, sum_m R (by omega) (by omega)]; rfl
      · rw [if_neg h, if_pos (by decide), if_pos (by decide), show nI 5 - (3 : Int32) = nI 2 from rfl, sum_m R (by omega) (by omega)]; rfl
  · subst e
    refine ⟨nI (q_sm m 3 a (q_np m)), ?_, ?_⟩
    · rw [if_neg (by decide), if_neg (by decide), if_neg (by decide), if_pos rfl, bs_c R ha]; rfl
    · by_cases h : q_of (m 15) a ≤ q_ot (m 15) a
      · rw [if_pos h, if_pos (by decide), if_pos (by decide), show nI 6 - (3 : Int32) = nI 3 from rfl, sum_m R (by omega) (by omega)]; rfl
      · rw [if_neg h, if_pos (by decide), if_pos (by decide), show nI 6 - (3 : Int32) = nI 3 from rfl, sum_m R (by omega) (by omega)]; rfl
  · refine ⟨nI (q_an m a w), ?_, ?_⟩
    · rw [if_neg (by omega), if_neg (by omega), if_neg (by omega), if_neg (by omega), num42 R ha e]; rfl
    · rw [li_3, if_neg (nI_ge e (by omega)), if_neg (nI_ge e (by omega)), ite_self, pk_mul, nI_add, gIn_nI (by omega) (by omega), cl_n (by omega), (R.ant ha e).1]
theorem go_seen (R : RW c m) (x y z : Int32) : ∃ v, mX10_seen c x y z = some v ∧ mX11_seen m x y z = some v := by
  have h1 := R.ns; have h2 := R.ng
  unfold mX10_seen mX11_seen
  rw [has31 R x, has37 R y, slot_c z, li_0, li_1, gIn_nI (by omega) (by omega), gIn_nI (by omega) (by omega), cl_n (by omega), cl_n (by omega), ← li_0, ← li_1, in_ns R x, in_ng R y, in_60 z]
  simp only [bd1_s, bI_if]
  rcases inB_c x (n := q_ns m) (by omega) with hx | ⟨i, hi, rfl⟩
  · rw [hx]; exact ⟨-1, rfl, rfl⟩
  rcases inB_c y (n := q_ng m) (by omega) with hy | ⟨j, hj, rfl⟩
  · rw [hy, inB_t hi (by omega)]; exact ⟨-1, rfl, rfl⟩
  rcases inB_c z (n := 60) (by omega) with hz | ⟨t, ht, rfl⟩
  · rw [hz, inB_t hi (by omega), inB_t hj (by omega)]; exact ⟨-1, rfl, rfl⟩
  rw [inB_t hi (by omega), inB_t hj (by omega), inB_t ht (by omega), sees_c R hi hj (by omega), sees_m R hi hj (by omega)]
  simp only [if_true, bd1_s]
  rcases bI_01 (q_se m i j t) with h | h <;> rw [h]
  · exact ⟨0, rfl, rfl⟩
  · exact ⟨1, rfl, rfl⟩
theorem go_rate (R : RW c m) (x y : Int32) : ∃ v, mX10_rate c x y = some v ∧ mX11_rate m x y = some v := by
  have h1 := R.np
  unfold mX10_rate mX11_rate
  rw [has5 R x, slot_c y, isP_m R x, in_60 y]
  simp only [bd1_s, bI_if]
  rcases inB_c x (n := q_np m) (by omega) with hx | ⟨p, hp, rfl⟩
  · rw [hx]; exact ⟨-1, rfl, rfl⟩
  rcases inB_c y (n := 60) (by omega) with hz | ⟨t, ht, rfl⟩
  · rw [hz, inB_t hp (by omega)]; exact ⟨-1, rfl, rfl⟩
  obtain ⟨b1, b2, _⟩ := R.pb hp
  rw [inB_t hp (by omega), inB_t ht (by omega), if_pos rfl, if_pos rfl, if_pos rfl, if_pos rfl]
  unfold mX5_covers
  simp (disch := omega) only [gIn_nI, cl_n, (R.cpa hp).1, (R.cpa hp).2.1, (R.pas hp).1, (R.pas hp).2.1, nz_lt]
  rw [in_i m (nI t) _ _ (a := (q_fi m p : Int)) (b := (q_la m p : Int)) (by rw [Int32.toInt_toInt64, nI_toInt (by omega)]) (by rw [Int32.toInt_toInt64, nI_toInt (by omega)]), nI_toInt (by omega), bd1_s]
  simp only [bI_if]
  by_cases h : q_fi m p ≤ t ∧ t ≤ q_la m p
  · rw [if_neg (by omega), if_neg (by omega), bd1_s, if_neg (by decide), rate_c R hp h.1 h.2, rate_m R hp h.1 h.2, decide_eq_true (by omega)]
    exact ⟨_, rfl, rfl⟩
  · refine ⟨-4, ?_, ?_⟩
    · by_cases h2 : t < q_fi m p
      · rw [if_pos h2]; rfl
      · rw [if_neg h2, if_pos (by omega)]; rfl
    · rw [decide_eq_false (by omega)]; rfl
theorem go_why (R : RW c m) (x y : Int32) : ∃ v, mX10_why c x y = some v ∧ mX11_why m x y = some v := by
  have h1 := R.np; have h2 := R.na
  unfold mX10_why mX11_why
  rw [has5 R x, has42 R y, isP_m R x, isA_m R y]
  simp only [bd1_s, bI_if]
  rcases inB_c x (n := q_np m) (by omega) with hx | ⟨p, hp, rfl⟩
  · rw [hx]; exact ⟨-1, rfl, rfl⟩
  rcases inB_c y (n := q_na m) (by omega) with hz | ⟨a, ha, rfl⟩
  · rw [hz, inB_t hp (by omega)]; exact ⟨-1, rfl, rfl⟩
  rw [inB_t hp (by omega), inB_t ha (by omega), why_c R hp ha, why_m R hp ha]
  exact ⟨_, rfl, rfl⟩
theorem go_pass (R : RW c m) (x y : Int32) : ∃ v, mX10_pass c x y = some v ∧ mX11_pass m x y = some v := by
  have h0 := R.np; have h1 := R.na
  unfold mX10_pass mX11_pass
  rw [has5 R x, isP_m R x, in_7 y]
  simp only [bd1_s, bI_if]
  rcases inB_c x (n := q_np m) (by omega) with hx | ⟨p, hp, rfl⟩
  · rw [hx]; exact ⟨-1, rfl, rfl⟩
  rw [inB_t hp (by omega), if_pos rfl, if_pos rfl]
  rcases inB_c y (n := 7) (by omega) with hy | ⟨w, hw, rfl⟩
  · rw [hy]
    refine ⟨-1, ?_, rfl⟩
    have hn : ∀ k : Nat, k < 7 → ¬ y = nI k := fun k hk e => by rw [e, inB_t hk (by omega)] at hy; cases hy
    rw [if_neg (show ¬ y = 0 from hn 0 (by omega)), if_neg (show ¬ y = 1 from hn 1 (by omega)), if_neg (show ¬ y = 2 from hn 2 (by omega)), if_neg (show ¬ y = 3 from hn 3 (by omega)), if_neg (show ¬ y = 4 from hn 4 (by omega)), if_neg (show ¬ y = 5 from hn 5 (by omega)), if_neg (show ¬ y = 6 from hn 6 (by omega))]
  rw [inB_t hw (by omega), if_pos rfl]
  have lp : mX11_pass_27 m FU (nI p) (nI w) 0 0 = some (if w = 0 then nI (q_fi m p) else if w = 1 then nI (q_la m p) else if w = 2 then nI (q_wh m p) else if w = 3 then nI (q_we m p) else if w = 4 then nI (q_vo m p) else if w = 5 then m 15 p else nI (q_mk (q_ft m (m 15) p) (q_na m))) := by
    refine lo_v (fun n i x => mX11_pass_27 m n (nI p) (nI w) x (nI i)) _ (fun i => nI (q_mk (q_ft m (m 15) p) i)) (q_na m) (fun n => ?_) (fun n i hi => ?_) FU 0 (by omega) (fu_lt (by omega))
    · show mX11_pass_27 m (n + 1) _ _ _ _ = _
      rw [mX11_pass_27]
      obtain ⟨e1, e2, e3, e4, e5⟩ := R.pas hp
      simp (disch := omega) only [li_0, li_1, li_2, li_3, li_4, li_5, li_6, li_24, li_32, li_59, li_60, li_240, nI_add, pk_mul, gIn_nI, cl_n, mlet_s, bd1_s, bdh_s, bd2_s, nz_lt, nz_le, nz_eq, if_true, if_false, Nat.mul_zero, Nat.zero_add, Nat.add_zero, bd1_ite, bI_if, bI_ifn, R.mna, Nat.le_refl, e1, e2, e3, e4, e5]
      repeat' split
      all_goals first | rfl | omega
    · show mX11_pass_27 m (n + 1) _ _ _ _ = mX11_pass_27 m n _ _ _ _
      rw [mX11_pass_27, li_2, gIn_nI (by omega) (by omega), cl_n (by omega), R.mna, if_neg (nI_ge hi (by omega)), fits_m R hp hi]
      unfold mX11_pass_57
      rw [bd1_s, mlet_s, mlet_s, or_bit (by omega) (mk_lt _ _), ad_1, q_mk]
      simp only [bI_if]
      rw [li_0, fa_or, Nat.or_zero]
      cases q_ft m (m 15) p i <;> rfl
  rw [lp]
  obtain ⟨e1, e2, e3, e4, e5, e6⟩ := R.cpa hp
  refine ⟨_, ?_, rfl⟩
  rw [fa_c R hp]
  have hor : mX10_antennaOrNone c (c 12 p) = some (m 15 p) := by
    unfold mX10_antennaOrNone
    rcases co_m4 R (p := p) (by omega) with ⟨w1, w2, w3⟩ | ⟨w1, w2, w3, w4⟩
    · rw [w3, w2]; rfl
    · rw [w4, w3, if_neg (by rw [nz_m1 (by omega)]; exact id)]
  simp (disch := omega) only [li_0, li_1, li_2, li_3, li_4, li_5, li_6, li_24, li_32, li_59, li_60, li_240, nI_add, pk_mul, gIn_nI, cl_n, mlet_s, bd1_s, bdh_s, bd2_s, nz_lt, nz_le, nz_eq, if_true, if_false, Nat.mul_zero, Nat.zero_add, Nat.add_zero, bd1_ite, bI_if, bI_ifn, e1, e2, e3, e4, e5, hor]
  repeat' split
  all_goals first | rfl | omega
end EV
