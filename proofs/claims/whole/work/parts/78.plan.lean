/-! PURE LAYER 18: plan and adopt -/
/-- the plan that the class keeps -/
def PK (m : Mm) (law f cc : Nat) (y : Mm) : Prop := y 22 9 = 1 ∧ y 22 10 = nI law ∧ y 22 11 = nI f ∧ y 22 12 = nI cc ∧ y 22 6 = nI (q_O m f) ∧ ∃ W, IsPl m law f cc W ∧ y 22 15 = nI (q_mk (w_g W) (q_wd m f)) ∧ y 22 16 = nI (w_ch m f W (q_wd m f)) ∧ ∀ k, k < q_wd m f → y 29 k = w_c (W k)
def RPl (c m : Mm) : Prop := c 22 9 = 0 ∨ ∃ law f cc, law ≤ 1 ∧ f < q_np m ∧ cc ≤ 6 ∧ PK m law f cc c
section EV
variable {c m c' m' x y : Mm}
theorem start_c (R : RW c m) (K : q_ok m (m 15) (m 15)) {law f cc : Nat} (hf : f < q_np m) (T : PT c m law f cc x) : ∃ y, mX6_startFromNow x = some y ∧ PF x y ∧ SI m law f cc 0 y := by
  have h0 := R.np; have h1 := R.na
  obtain ⟨d1, d2⟩ := wd_le m f
  have hwp := p2_6 (n := q_wd m f) d1
  have hN := N_lt m f
  obtain ⟨v1, v2, v3⟩ := now_va R K (cc := cc) hf
  have h26 := T.2.2.2.2 (q_wd m f) (Nat.le_refl _) _ hN
  rw [Nat.sub_self] at h26
  have h26' : x 26 (2 ^ q_wd m f + q_N m f) = zI (q_lf m law f cc (q_N m f)) := h26
  have hgn : q_mk (w_g (w_now m f)) (q_wd m f) = q_N m f := mk_cong (fun k hk => by
    unfold w_g w_now
    cases q_co (m 15) (f + k) <;> simp)
  have hsp := ch_sp R (f := f) (n := q_wd m f) (W := w_now m f) (by omega) v1.1
  have hky := ky_lf R (law := law) (cc := cc) hf v1.1 (by omega)
  rw [show fb_ct (w_mv m f (w_now m f)) (q_wd m f) = 0 from by omega, hgn] at hky
  unfold mX6_startFromNow
  rw [T.1.2.2.2.2.2.1, T.1.2.2.2.1, li_0, gCp_ok (by omega) (by omega) (by omega) (by omega), cl_n (by omega), cl_n (by omega), cl_n (by omega), mlet_s]
  generalize hx1 : va_up x 29 (va_cpy (x 12) (x 29) f 0 (q_wd m f)) = x1
  have f1 : ∀ k, k ≠ 29 → x1 k = x k := fun k hk => by rw [← hx1, va_up_ne _ _ hk]
  have f2 : ∀ k, k < q_wd m f → x1 29 k = w_c (w_now m f k) := fun k hk => by
    rw [← hx1, va_up_self, va_cpy, if_pos (by omega), T.1.1 12 (by omega), (now_v R (f := f) (k := k) (by omega)).2.2]
    exact congrArg _ (by omega)
  rw [mlet_s, f1 22 (by decide), T.1.2.2.1, wr_slot _ _ _ (by decide), wr_slot _ _ _ (by decide), f1 22 (by decide), T.1.2.2.2.1, T.1.2.2.1, fa_2 (by omega), nI_add, gIn_nI (by omega) (by omega), cl_n (by omega), wr_cell _ _ _ (by decide), f1 26 (by decide), h26', mlet_s, mlet_s]
  refine ⟨_, rfl, ⟨fun k k1 k2 k3 => by rw [wr_cell _ _ _ k1, wr_cell _ _ _ k1, wr_cell _ _ _ k1, f1 k k3], fun j j1 j2 j3 => by rw [wr_slot _ _ _ j3, wr_slot _ _ _ j1, wr_slot _ _ _ j2, f1 22 (by decide)]⟩, w_now m f, v1, ?_, ?_, ?_, fun k hk => ?_, Or.inr v2, fun V _ hlt => by omega⟩
  · rw [wr_slot _ _ _ (by decide), wr_same, hky]
    exact congrArg zI (by omega)
  · rw [wr_slot _ _ _ (by decide), wr_slot _ _ _ (by decide), wr_same, hgn]
  · rw [wr_same, v2]
  · rw [wr_cell _ _ _ (by decide), wr_cell _ _ _ (by decide), wr_cell _ _ _ (by decide), f2 k hk]
theorem find_c (R : RW c m) (K : q_ok m (m 15) (m 15)) {law f cc : Nat} (hl : law ≤ 1) (hf : f < q_np m) (hcc : cc ≤ 6) : ∃ y, mX6_find_34 (nI law) (nI f) (nI cc) c = some y ∧ (∀ k, (k ≤ 14 ∨ 30 ≤ k) → y k = c k) ∧ PK m law f cc y := by
  have h0 := R.np; have h1 := R.na
  obtain ⟨d1, d2⟩ := wd_le m f
  have hwp := p2_6 (n := q_wd m f) d1
  have hpos := Nat.two_pow_pos (q_wd m f)
  have hCB := mk_lt (q_co (m 15)) (q_np m)
  have hCB31 := mk_31 (q_co (m 15)) (n := q_np m) (by omega)
  have hCBb : ∀ p, p < q_np m → (q_mk (q_co (m 15)) (q_np m)).testBit p = q_co (m 15) p := fun p hp => mk_tb hp
  unfold mX6_find_34
  rw [mlet_s, mlet_s, mlet_s]
  generalize hx3 : wr (wr (wr c 22 10 (nI law)) 22 11 (nI f)) 22 12 (nI cc) = x3
  have e3 : ∀ k, k ≠ 22 → x3 k = c k := fun k hk => by rw [← hx3, wr_cell _ _ _ hk, wr_cell _ _ _ hk, wr_cell _ _ _ hk]
  have R3 : RW x3 m := R.sc (fun k hk => e3 k (by omega))
  rw [win_c R3 hf, bd1_s, mlet_s]
  generalize hx5 : wr x3 22 8 (nI (q_wd m f)) = x5
  have e5 : ∀ k, k ≠ 22 → x5 k = c k := fun k hk => by rw [← hx5, wr_cell _ _ _ hk, e3 k hk]
  have R5 : RW x5 m := R.sc (fun k hk => e5 k (by omega))
  have s5 : x5 22 8 = nI (q_wd m f) := by rw [← hx5, wr_same]
  have hO : q_mk (fun j => (q_mk (q_co (m 15)) (q_np m)).testBit j && !((2 ^ q_wd m f - 1) * 2 ^ f).testBit j) 32 = q_O m f := by
    apply Nat.eq_of_testBit_eq
    intro j
    unfold q_O
    rw [mk_bit, mk_bit, mk_bit, tb_sh, Nat.testBit_two_pow_sub_one]
    by_cases hj : j < q_np m
    · rw [decide_eq_true hj, decide_eq_true (show j < 32 by omega), Bool.true_and, Bool.true_and, Bool.true_and, ← Bool.decide_and]
      congr 2
      exact decide_eq_decide.mpr (by omega)
    · rw [decide_eq_false hj, Bool.false_and, Bool.false_and, Bool.false_and, Bool.and_false]
  have hN : q_mk (q_co (m 15)) (q_np m) / 2 ^ f % 2 ^ q_wd m f = q_N m f := by
    apply Nat.eq_of_testBit_eq
    intro j
    unfold q_N
    rw [Nat.testBit_mod_two_pow, Nat.testBit_div_two_pow, mk_bit, mk_bit]
    by_cases hj : j < q_wd m f
    · rw [decide_eq_true hj, decide_eq_true (show j + f < q_np m by omega), Bool.true_and, Bool.true_and, Nat.add_comm j f]; rfl
    · rw [decide_eq_false hj, Bool.false_and, Bool.false_and]
  have hshb : (2 ^ q_wd m f - 1) * 2 ^ f < 16777216 := sh_b (n := q_wd m f) (by omega) (by omega)
  rw [s5, fa_2 (by omega), li_1, pk_sub (by omega), mlet_s, cb_c R5, bd1_s, sh_n (by omega) (by omega), ← li_1, an_not, hO, mlet_s]
  generalize hx8 : wr x5 22 6 (nI (q_O m f)) = x8
  have e8 : ∀ k, k ≠ 22 → x8 k = c k := fun k hk => by rw [← hx8, wr_cell _ _ _ hk, e5 k hk]
  have R8 : RW x8 m := R.sc (fun k hk => e8 k (by omega))
  rw [cb_c R8, bd1_s, sr_n (by omega) hCB31, fa_mask, hN, mlet_s]
  generalize hx10 : wr x8 22 7 (nI (q_N m f)) = x10
  have P10 : PS c m law f cc x10 := by
    refine ⟨fun k hk => by rw [← hx10, wr_cell _ _ _ (by omega), e8 k (by omega)], ?_, ?_, ?_, ?_, ?_, ?_⟩
    · rw [← hx10, wr_slot _ _ _ (by decide), ← hx8, wr_same]
    · rw [← hx10, wr_same]
    · rw [← hx10, wr_slot _ _ _ (by decide), ← hx8, wr_slot _ _ _ (by decide), s5]
    · rw [← hx10, wr_slot _ _ _ (by decide), ← hx8, wr_slot _ _ _ (by decide), ← hx5, wr_slot _ _ _ (by decide), ← hx3, wr_slot _ _ _ (by decide), wr_slot _ _ _ (by decide), wr_same]
    · rw [← hx10, wr_slot _ _ _ (by decide), ← hx8, wr_slot _ _ _ (by decide), ← hx5, wr_slot _ _ _ (by decide), ← hx3, wr_slot _ _ _ (by decide), wr_same]
    · rw [← hx10, wr_slot _ _ _ (by decide), ← hx8, wr_slot _ _ _ (by decide), ← hx5, wr_slot _ _ _ (by decide), ← hx3, wr_same]
  obtain ⟨x11, a1, a2, a3⟩ := open_c R hf P10
  have P11 : PS c m law f cc x11 := P10.fr (fun k hk => a2 k (by omega))
  obtain ⟨x12, b1, b2, b3, b4⟩ := apart_c R hf P11
  have P12 : PS c m law f cc x12 := P11.fr (fun k hk => b2 k (by omega) (by omega))
  rw [a1, bdh_s, b1, bdh_s, P12.2.2.2.2.1]
  have weigh : ∃ x13, (if nI law = 0 then bdh (mX6_weighVolumes x12) (fun h14 => mX6_find_132 h14) else bdh (mX6_weighLosses x12) (fun h13 => mX6_find_132 h13)) = mX6_find_132 x13 ∧ (∀ k, k ≠ 15 → k ≠ 16 → k ≠ 26 → k ≠ 27 → x13 k = x12 k) ∧ ∀ M, M < 2 ^ q_wd m f → x13 26 (2 ^ q_wd m f + M) = zI (q_lW m law f M) := by
    by_cases h : law = 0
    · subst h
      obtain ⟨x13, g1, g2, g3⟩ := wvol_c R hf P12
      refine ⟨x13, ?_, fun k _ _ k3 _ => g2 k k3, g3⟩
      rw [if_pos (show nI 0 = (0 : Int32) from rfl), g1, bdh_s]
    · obtain ⟨x13, g1, g2, g3⟩ := wlos_c R hf P12
      refine ⟨x13, ?_, g2, fun M hM => ?_⟩
      · rw [if_neg (by rw [li_0, nz_eq (by omega) (by omega)]; exact h), g1, bdh_s]
      · have hb := (lW_b R (law := law) (M := M) hf).2
        have e : q_lW m law f M = (q_ls m (q_bo m f M) (q_ns m) : Int) := if_neg h
        rw [e] at hb ⊢
        rw [g3 M hM, zi_n (by omega)]
  obtain ⟨x13, g1, g2, g3⟩ := weigh
  rw [g1]
  have P13 : PS c m law f cc x13 := P12.fr (fun k hk => g2 k (by omega) (by omega) (by omega) (by omega))
  obtain ⟨x14, i1, i2, i3⟩ := rank_c R hf hcc P13 g3
  have P14 : PS c m law f cc x14 := P13.fr (fun k hk => i2 k (by omega))
  have o14 : ∀ w, w < q_wd m f → x14 23 w = nI (q_mk (q_op m f w) (q_na m)) := fun w hw => by
    rw [i2 23 (by decide), g2 23 (by decide) (by decide) (by decide) (by decide), b2 23 (by decide) (by decide), a3 w hw]
  obtain ⟨x15, j1, j2, j3⟩ := look_c R hf P14 i3 o14
  have P15 : PS c m law f cc x15 := P14.fr (fun k hk => j2 k (by omega))
  have T15 : PT c m law f cc x15 := by
    refine ⟨P15, fun w hw => by rw [j2 23 (by decide), o14 w hw], fun w hw => ?_, fun w hw v hv => ?_, j3⟩
    · rw [j2 25 (by decide), i2 25 (by decide), g2 25 (by decide) (by decide) (by decide) (by decide), b3 w hw]
    · rw [j2 24 (by decide), i2 24 (by decide), g2 24 (by decide) (by decide) (by decide) (by decide), b4 w hw v hv]
  obtain ⟨x16, k1, k2, k3⟩ := start_c R K hf T15
  have T16 := T15.fr k2
  obtain ⟨x17, l1, l2, l3, l4⟩ := try_c R hf hcc (q_wd m f) 0 (by omega) 8 (by omega) (fun _ => 0) x16 T16 (fun k hk => by omega) (fun k hk => by omega) (fun k hk => by omega) (by rw [show w_cd (q_na m + 1) (fun _ => 0) 0 = 0 from rfl, Nat.zero_mul]; exact k3)
  have T17 := T16.fr l2
  unfold mX6_find_132
  rw [i1, bdh_s, j1, bdh_s, k1, bdh_s, show mX6_tryPass 8 x16 0 0 0 = some x17 from l1, bdh_s, mlet_s]
  refine ⟨_, rfl, fun k hk => by rw [wr_cell _ _ _ (by omega), T17.1.1 k hk], wr_same _ _ _ _, ?_, ?_, ?_, ?_, ?_⟩
  · rw [wr_slot _ _ _ (by decide), T17.1.2.2.2.2.1]
  · rw [wr_slot _ _ _ (by decide), T17.1.2.2.2.2.2.1]
  · rw [wr_slot _ _ _ (by decide), T17.1.2.2.2.2.2.2]
  · rw [wr_slot _ _ _ (by decide), T17.1.2.1]
  · obtain ⟨W, q1, q2, q3, q4, q5, q6, q7⟩ := l4
    refine ⟨W, ⟨q1, fun V hV => q7 V hV ?_⟩, ?_, ?_, fun k hk => ?_⟩
    · rw [show w_cd (q_na m + 1) (fun _ => 0) 0 = 0 from rfl, Nat.zero_add, Nat.one_mul]
      exact cd_lt hV.1
    · rw [wr_slot _ _ _ (by decide), q3]
    · rw [wr_slot _ _ _ (by decide), q4]
    · rw [wr_cell _ _ _ (by decide), q5 k hk]
/-- kept, or found anew -/
theorem find_ok (R : RW c m) (K : q_ok m (m 15) (m 15)) (H : RPl c m) {law f cc : Nat} (hl : law ≤ 1) (hf : f < q_np m) (hcc : cc ≤ 6) : ∃ y, mX6_find c (nI law) (nI f) (nI cc) = some y ∧ (∀ k, (k ≤ 14 ∨ 30 ≤ k) → y k = c k) ∧ PK m law f cc y := by
  have h0 := R.np
  have hnew := find_c R K hl hf hcc
  unfold mX6_find
  rcases H with h | ⟨l2, f2, c2, a1, a2, a3, a4⟩
  · rw [if_pos h]; exact hnew
  · obtain ⟨b1, b2, b3, b4, b5⟩ := id a4
    rw [b1, b2, b3, b4, if_neg (by decide)]
    by_cases e1 : l2 = law
    · rw [if_pos (by rw [e1])]
      by_cases e2 : f2 = f
      · rw [if_pos (by rw [e2])]
        by_cases e3 : c2 = cc
        · rw [if_pos (by rw [e3])]
          subst e1; subst e2; subst e3
          exact ⟨c, rfl, fun _ _ => rfl, a4⟩
        · rw [if_neg (by rw [nz_eq (by omega) (by omega)]; exact e3)]; exact hnew
      · rw [if_neg (by rw [nz_eq (by omega) (by omega)]; exact e2)]; exact hnew
    · rw [if_neg (by rw [nz_eq (by omega) (by omega)]; exact e1)]; exact hnew
theorem bad_c (R : RW c m) (l f k : Int32) : mX10_isBadPlan c l f k = some (bI (!(decide (0 ≤ l.toInt ∧ l.toInt ≤ 1) && (inB f (q_np m) && decide (0 ≤ k.toInt ∧ k.toInt ≤ 6))))) := by
  unfold mX10_isBadPlan mX10_isBadPlan_33
  rw [has5 R f, bd1_s]
  simp only [bI_if, i32_lt, i32_le, Int32.toInt_zero, show (1 : Int32).toInt = 1 from rfl, show (6 : Int32).toInt = 6 from rfl]
  by_cases h1 : l.toInt < 0
  · rw [if_pos h1, decide_eq_false (by omega)]; rfl
  rw [if_neg h1]
  by_cases h2 : 1 < l.toInt
  · rw [if_pos h2, decide_eq_false (by omega)]; rfl
  rw [if_neg h2, decide_eq_true (show 0 ≤ l.toInt ∧ l.toInt ≤ 1 by omega), Bool.true_and]
  cases inB f (q_np m) with
  | false => rfl
  | true =>
    rw [if_pos rfl, Bool.true_and]
    by_cases h3 : k.toInt < 0
    · rw [if_pos h3, decide_eq_false (by omega)]; rfl
    rw [if_neg h3]
    by_cases h4 : k.toInt ≤ 6
    · rw [if_pos h4, decide_eq_true (by omega)]; rfl
    · rw [if_neg h4, decide_eq_false (by omega)]; rfl
theorem or_c (d : Nat) (hd : d < 1000) : mX10_antennaOrNone c (w_c d) = some (w_v d) := by
  unfold mX10_antennaOrNone w_c w_v
  by_cases h : d = 0
  · rw [if_pos h, if_pos rfl, if_pos h]
  · rw [if_neg h, if_neg (by rw [nz_m1 (by omega)]; exact id), if_neg h]
theorem go_plan (R : RC c m) (H : RPl c m) (l g k q : Int32) : ∃ v c1 m1, mX10_plan c l g k q = some (v, c1) ∧ mX11_plan m l g k q = some (v, m1) ∧ RC c1 m1 ∧ RPl c1 m1 := by
  have RR := R.2.1
  have K := R.2.2.1
  have h0 := RR.np; have h1 := RR.na; have h2 := RR.ns
  unfold mX10_plan mX11_plan
  rw [bad_c RR, in_i m l 0 1 (a := 0) (b := 1) (by decide) (by decide), isP_m RR g, in_i m k 0 6 (a := 0) (b := 6) (by decide) (by decide)]
  simp only [bd1_s, bI_if]
  have bad : ∃ v c1 m1, some ((-1 : Int32), c) = some (v, c1) ∧ some ((-1 : Int32), m) = some (v, m1) ∧ RC c1 m1 ∧ RPl c1 m1 := ⟨-1, c, m, rfl, rfl, R, H⟩
  by_cases hl : 0 ≤ l.toInt ∧ l.toInt ≤ 1
  case neg => rw [decide_eq_false hl]; exact bad
  rw [decide_eq_true hl, Bool.true_and, if_pos rfl]
  rcases inB_c g (n := q_np m) (by omega) with hg | ⟨f, hf, rfl⟩
  · rw [hg]; exact bad
  rw [inB_t hf (by omega), Bool.true_and, if_pos rfl]
  by_cases hk : 0 ≤ k.toInt ∧ k.toInt ≤ 6
  case neg => rw [decide_eq_false hk]; exact bad
  rw [decide_eq_true hk, if_pos rfl, Bool.not_true, if_neg (by decide), win_c RR hf, win_m RR hf, bd1_s, bd1_s]
  obtain ⟨law, hlaw, rfl⟩ : ∃ j : Nat, j < 2 ∧ l = nI j := by
    rcases ix_3 l (n := 2) (by omega) with h | h
    · omega
    · exact h
  obtain ⟨cc, hcc, rfl⟩ : ∃ j : Nat, j < 7 ∧ k = nI j := by
    rcases ix_3 k (n := 7) (by omega) with h | h
    · omega
    · exact h
  obtain ⟨d1, d2⟩ := wd_le m f
  have hin : mX11_in m q.toInt64 (-4) (nI (q_wd m f) - 1).toInt64 = some (bI (decide (-4 ≤ q.toInt ∧ q.toInt < (q_wd m f : Int)))) := by
    rw [in_eq, Int32.toInt_toInt64, Int32.toInt_toInt64, show (-4 : Int64).toInt = -4 from by decide, show nI (q_wd m f) - 1 = nI (q_wd m f) - nI 1 from rfl, pk_sub_toInt (by omega) (by omega)]
    congr 2
    exact decide_eq_decide.mpr (by omega)
  rw [hin, bd1_s]
  simp only [bI_if, i32_lt q, show (-4 : Int32).toInt = -4 from by decide, nI_toInt (show q_wd m f < 2147483648 by omega)]
  by_cases hq1 : q.toInt < -4
  · rw [if_pos hq1, decide_eq_false (by omega)]; exact bad
  rw [if_neg hq1]
  by_cases hq2 : q.toInt < (q_wd m f : Int)
  case neg => rw [if_neg hq2, decide_eq_false (by omega)]; exact bad
  rw [if_pos hq2, decide_eq_true (by omega), if_pos rfl]
  obtain ⟨c1, e1, e2, e3⟩ := find_ok RR K H (law := law) (by omega) hf (cc := cc) (by omega)
  obtain ⟨m1, W, g1, g2, g3, g4, g5, g6, g7⟩ := plans_m RR K (law := law) (f := f) (cc := cc) (by omega) hf (by omega)
  rw [e1, g1, bdh_s, bdh_s]
  obtain ⟨u1, u2, u3, u4, u5, V, u6, u7, u8, u9⟩ := id e3
  have same := pl_u u6 g3
  have Rc1 : RW c1 m := RR.sc (fun k hk => e2 k (by omega))
  have Rm1 := RR.sm (m' := m1) (fun k hk => g2 k (by omega))
  have HH : ∀ c2 m2 : Mm, (∀ k, k ≠ 15 → k ≠ 16 → c2 k = c1 k) → (∀ k, k < 20 → m2 k = m k) → RC c2 m2 ∧ RPl c2 m2 := fun c2 m2 r1 r2 => by
    have hS : SM m m2 := ⟨⟨r2 2 (by decide), r2 3 (by decide), r2 4 (by decide), r2 5 (by decide)⟩, ⟨r2 10 (by decide), r2 11 (by decide), r2 12 (by decide), r2 13 (by decide), r2 14 (by decide)⟩, by rw [r2 0 (by decide)]⟩
    refine ⟨R.fr (fun k hk => by rw [r1 k (by omega) (by omega), e2 k (by omega)]) (fun k hk => r2 k (by omega)) (fun j _ => by rw [r2 0 (by decide)]), Or.inr ⟨law, f, cc, by omega, by rw [hS.q.2.2.2.1]; exact hf, by omega, ?_⟩⟩
    have hwd : q_wd m2 f = q_wd m f := by rw [hS.wd]
    have e15 : m2 15 = m 15 := r2 15 (by decide)
    have hO : q_O m2 f = q_O m f := by unfold q_O; rw [hS.q.2.2.2.1, hwd, e15]
    have hrow : ∀ W, w_row m2 f W = w_row m f W := fun W => by funext p; unfold w_row; rw [hwd, e15]
    have hch : ∀ W n, w_ch m2 f W n = w_ch m f W n := fun W n => by unfold w_ch; rw [e15]
    have hky : ∀ W, w_ky m2 law f W = w_ky m law f W := fun W => by
      unfold w_ky w_we w_vo
      rw [hwd, hch, hrow, hS.ls, hS.q.1, hS.q.2.2.2.2.2.2.2.2.2.2.2]
    have hva : ∀ W, w_va m2 f cc W ↔ w_va m f cc W := fun W => by
      unfold w_va w_ok
      rw [hwd, hch, hrow, hS.q.2.2.1, hS.o1, e15]
    have hpl : IsPl m2 law f cc V := by
      refine ⟨(hva V).mpr u6.1, fun X hX => ?_⟩
      rw [hky, hky, hwd, hS.q.2.2.1]
      exact u6.2 X ((hva X).mp hX)
    unfold PK
    rw [r1 22 (by decide) (by decide), r1 29 (by decide) (by decide), hO, hwd]
    exact ⟨u1, u2, u3, u4, u5, V, hpl, u7, by rw [hch]; exact u8, u9⟩
  have fin : ∀ v : Int32, ∃ v' c2 m2, some (v, c1) = some (v', c2) ∧ some (v, m1) = some (v', m2) ∧ RC c2 m2 ∧ RPl c2 m2 := fun v => ⟨v, c1, m1, rfl, rfl, HH c1 m1 (fun _ _ _ => rfl) g2⟩
  have hWw : WV (q_na m + 1) (q_wd m f) W := g3.1.1
  have hMl : q_mk (w_g V) (q_wd m f) < 2 ^ q_wd m f := mk_lt _ _
  have hMV : q_mk (w_g V) (q_wd m f) = q_mk (w_g W) (q_wd m f) := mk_cong (fun k hk => by unfold w_g; rw [same k hk])
  have hco : ∀ p, p < q_np m → q_co (m1 20) p = q_co (w_row m f W) p := fun p hp => by unfold q_co; rw [g5 p hp]
  have s1 := sh_b (f := f) hMl (by omega)
  by_cases z4 : q = -4
  · subst z4
    rw [if_pos rfl, if_pos rfl, show (2 : Int32) = nI 2 from rfl, gIn_nI (by omega) (by omega), cl_n (by omega), g7, u8, ch_co same]
    exact fin _
  rw [if_neg z4, if_neg z4]
  by_cases z3 : q = -3
  · subst z3
    rw [if_pos rfl, if_pos rfl, show (1 : Int32) = nI 1 from rfl, gIn_nI (by omega) (by omega), cl_n (by omega), g6, u7, bc_mk _ _ (by omega), bd1_s]
    have : fb_ct (w_g V) (q_wd m f) = w_ct W (q_wd m f) := fb_ct_cong (fun k hk => by unfold w_g; rw [same k hk])
    rw [this]
    exact fin _
  rw [if_neg z3, if_neg z3]
  by_cases z2 : q = -2
  · subst z2
    rw [if_pos rfl, if_pos rfl]
    unfold mX6_contactBits
    rw [u5, u3, u7, sh_n (by omega) (by omega), fa_or, bd1_s]
    obtain ⟨c2, a1, a2⟩ := lost_c Rc1 (M := q_O m f ||| q_mk (w_g V) (q_wd m f) * 2 ^ f) (Nat.or_lt_two_pow (n := 31) (O_lt RR f) (by omega))
    have hfull := w_full RR K hf hWw g3.1.2.2
    have hsh := row_sh RR (f := f) (W := W) hWw
    obtain ⟨m2, b1, b2⟩ := lost_20 Rm1.1 (by
      have Sy := Rm1.2
      intro p q hpq hq h1 h2 h3
      rw [Sy.q.2.2.2.1] at hq
      rw [Sy.q.2.2.2.2.2.2.2.2.2.1] at h3
      rw [Sy.ov]
      rw [hco p (by omega)] at h1
      rw [hco q hq] at h2
      exact ok_no2 (fun p hp => hsh p (by omega)) hfull p q hpq hq h1 h2 h3)
    have hls : q_ls m (q_O m f ||| q_mk (w_g V) (q_wd m f) * 2 ^ f).testBit = q_ls m (q_co (m1 20)) := ls_cong (fun p hp => by
      rw [bo_bit hMl hp, hco p hp, hMV]
      unfold q_bo q_co w_row
      by_cases hin : f ≤ p ∧ p < f + q_wd m f
      · have hd := hWw (p - f) (by omega)
        rw [if_pos hin, if_pos hin, mk_tb (by omega)]
        exact decide_eq_decide.mpr (by rw [ne_eq, ne_eq, wv_4 (by omega)])
      · rw [if_neg hin, if_neg hin])
    rw [a1, b1, bd2_s, bd2_s, hls, Rm1.2.ls, Rm1.2.q.1]
    exact ⟨_, c2, m2, rfl, rfl, HH c2 m2 a2 (fun k hk => by rw [b2 k (by omega) (by omega), g2 k hk])⟩
  rw [if_neg z2, if_neg z2]
  by_cases z1 : q = -1
  · subst z1
    have hv := vol_20 Rm1.1 (f := f) (n := q_wd m f) (by rw [Rm1.2.q.2.2.2.1]; omega)
    rw [if_pos rfl, if_pos rfl, win_m Rm1.1 (by rw [Rm1.2.q.2.2.2.1]; exact hf), Rm1.2.wd, bd1_s, nI_add, hv, bd1_s, u7, sh_n (by omega) (by omega), vol_c Rc1 (by omega), bd1_s, vm_eq hMl (by omega)]
    have : fb_sm (fun k => if (q_mk (w_g V) (q_wd m f)).testBit k = true then q_vo m (f + k) else 0) (q_wd m f) = q_vl_20 m1 f (q_wd m f) := by
      unfold q_vl_20
      refine fb_sm_cong (fun k hk => ?_)
      have hd := hWw k hk
      rw [Rm1.2.q.2.2.2.2.2.2.2.2.2.2.2, mk_tb hk, hco (f + k) (by omega)]
      unfold w_g q_co
      rw [same k hk, row_in hk]
      have : (decide (w_v (W k) ≠ -4) = true) = (decide (W k ≠ 0) = true) := by
        rw [decide_eq_true_eq, decide_eq_true_eq, ne_eq, wv_4 (by omega)]
      simp only [this]
    rw [this]
    exact fin _
  rw [if_neg z1, if_neg z1]
  have hq0 : ¬ q < 0 := by
    have n4 : q.toInt ≠ -4 := fun z => z4 (Int32.toInt_inj.mp (by rw [z]; decide))
    have n3 : q.toInt ≠ -3 := fun z => z3 (Int32.toInt_inj.mp (by rw [z]; decide))
    have n2 : q.toInt ≠ -2 := fun z => z2 (Int32.toInt_inj.mp (by rw [z]; decide))
    have n1 : q.toInt ≠ -1 := fun z => z1 (Int32.toInt_inj.mp (by rw [z]; decide))
    rw [i32_lt, Int32.toInt_zero]
    omega
  obtain ⟨i, hi, rfl⟩ := nI_of hq0
  rw [nI_toInt hi] at hq2
  have hiw : i < q_wd m f := by omega
  have hd := hWw i hiw
  rw [gIn_nI (by omega) (by omega), gIn_nI (by omega) (by omega), cl_n (by omega), u9 i hiw, g4 i hiw, same i hiw, or_c _ (by omega), bd1_s]
  exact fin _
theorem go_adopt (R : RC c m) (H : RPl c m) (l g k : Int32) : ∃ v c1 m1, mX10_adopt c l g k = some (v, c1) ∧ mX11_adopt m l g k = some (v, m1) ∧ RC c1 m1 ∧ RPl c1 m1 := by
  have RR := R.2.1
  have K := R.2.2.1
  have h0 := RR.np; have h1 := RR.na; have h2 := RR.ns
  unfold mX10_adopt mX11_adopt
  rw [bad_c RR, in_i m l 0 1 (a := 0) (b := 1) (by decide) (by decide), isP_m RR g, in_i m k 0 6 (a := 0) (b := 6) (by decide) (by decide)]
  simp only [bd1_s, bI_if]
  have bad : ∃ v c1 m1, some ((-1 : Int32), c) = some (v, c1) ∧ some ((-1 : Int32), m) = some (v, m1) ∧ RC c1 m1 ∧ RPl c1 m1 := ⟨-1, c, m, rfl, rfl, R, H⟩
  by_cases hl : 0 ≤ l.toInt ∧ l.toInt ≤ 1
  case neg => rw [decide_eq_false hl]; exact bad
  rw [decide_eq_true hl, Bool.true_and, if_pos rfl]
  rcases inB_c g (n := q_np m) (by omega) with hg | ⟨f, hf, rfl⟩
  · rw [hg]; exact bad
  rw [inB_t hf (by omega), Bool.true_and, if_pos rfl]
  by_cases hk : 0 ≤ k.toInt ∧ k.toInt ≤ 6
  case neg => rw [decide_eq_false hk]; exact bad
  rw [decide_eq_true hk, if_pos rfl, Bool.not_true, if_neg (by decide)]
  obtain ⟨law, hlaw, rfl⟩ : ∃ j : Nat, j < 2 ∧ l = nI j := by
    rcases ix_3 l (n := 2) (by omega) with h | h
    · omega
    · exact h
  obtain ⟨cc, hcc, rfl⟩ : ∃ j : Nat, j < 7 ∧ k = nI j := by
    rcases ix_3 k (n := 7) (by omega) with h | h
    · omega
    · exact h
  obtain ⟨d1, d2⟩ := wd_le m f
  obtain ⟨c1, e1, e2, e3⟩ := find_ok RR K H (law := law) (by omega) hf (cc := cc) (by omega)
  obtain ⟨m1, W, g1, g2, g3, g4, g5, g6, g7⟩ := plans_m RR K (law := law) (f := f) (cc := cc) (by omega) hf (by omega)
  rw [e1, g1, bdh_s, bdh_s]
  obtain ⟨u1, u2, u3, u4, u5, V, u6, u7, u8, u9⟩ := e3
  have same := pl_u u6 g3
  have hWw : WV (q_na m + 1) (q_wd m f) W := g3.1.1
  have hS1 : SM m m1 := (RR.sm (m' := m1) (fun k hk => g2 k (by omega))).2
  have RC1 : RC c1 m1 := R.fr (fun k hk => e2 k (by omega)) (fun k hk => g2 k (by omega)) (fun j _ => by rw [g2 0 (by decide)])
  obtain ⟨c2, m2, a1, a2, R2, hS, a3, a4, a5, a6, a7⟩ := prep_ok RC1
  have hS2 := hS1.tr hS
  rw [a1, a2, bdh_s, bdh_s]
  have hwd2 : q_wd m2 f = q_wd m f := by rw [hS2.wd]
  have hnp2 : q_np m2 = q_np m := hS2.q.2.2.2.1
  have hw2 := win_c R2.2.1 (f := f) (by rw [hnp2]; exact hf)
  rw [hwd2] at hw2
  rw [hw2, bd1_s, li_0, gCp_ok (by omega) (by omega) (by omega) (by omega), mlet_s, cl_n (by omega), cl_n (by omega), cl_n (by omega), va_up_ne _ _ (by decide), a5 16 (by decide), u8]
  have e15 : m2 15 = m 15 := by rw [a6 15 (by decide) (by decide), g2 15 (by decide)]
  have c12 : c2 12 = c 12 := by rw [a4 12 (by decide) (by decide), e2 12 (by omega)]
  have c29 : ∀ k, k < q_wd m f → c2 29 k = w_c (W k) := fun k hk => by rw [a4 29 (by decide) (by decide), u9 k hk, same k hk]
  have m21 : ∀ k, k < q_wd m f → m2 21 k = w_v (W k) := fun k hk => by rw [a6 21 (by decide) (by decide), g4 k hk]
  have cp : ∃ m3, mX11_adopt_46 FU (nI f) 0 m2 = some (nI (w_ch m f W (q_wd m f)), m3) ∧ (∀ k, k ≠ 15 → m3 k = m2 k) ∧ ∀ p, m3 15 p = w_row m f W p := by
    refine lo_up (fun u i y => mX11_adopt_46 u (nI f) (nI i) y) (fun z => ∃ m3, z = some (nI (w_ch m f W (q_wd m f)), m3) ∧ (∀ k, k ≠ 15 → m3 k = m2 k) ∧ ∀ p, m3 15 p = w_row m f W p) (fun i y => (∀ k, k ≠ 15 → y k = m2 k) ∧ ∀ p, y 15 p = if f ≤ p ∧ p < f + i then w_v (W (p - f)) else m 15 p) (q_wd m f) (fun u y hP => ?_) (fun u i y hi hP => ?_) FU 0 m2 (by omega) (fu_lt (by omega)) ⟨fun _ _ => rfl, fun p => by rw [if_neg (by omega), e15]⟩
    · refine ⟨y, ?_, hP.1, fun p => by rw [hP.2 p]; rfl⟩
      show mX11_adopt_46 (u + 1) _ _ _ = _
      have hw : mX11_wide y (nI f) = some (nI (q_wd m f)) := by
        have := win_m R2.2.1 (f := f) (by rw [hnp2]; exact hf)
        rw [hwd2] at this
        unfold mX11_wide at this ⊢
        rw [hP.1 0 (by decide)]
        exact this
      rw [mX11_adopt_46, hw, bd1_s, if_pos (nI_le (Nat.le_refl _) (by omega)), show (2 : Int32) = nI 2 from rfl, gIn_nI (by omega) (by omega), cl_n (by omega), hP.1 22 (by decide), a6 22 (by decide) (by decide), g7]
    · refine ⟨wr y 15 (f + i) (w_v (W i)), ?_, fun k hk => by rw [wr_cell _ _ _ hk, hP.1 k hk], fun p => ?_⟩
      · show mX11_adopt_46 (u + 1) _ _ _ = mX11_adopt_46 u _ _ _
        have hw : mX11_wide y (nI f) = some (nI (q_wd m f)) := by
          have := win_m R2.2.1 (f := f) (by rw [hnp2]; exact hf)
          rw [hwd2] at this
          unfold mX11_wide at this ⊢
          rw [hP.1 0 (by decide)]
          exact this
        rw [mX11_adopt_46, hw, bd1_s, if_neg (nI_ge hi (by omega)), gIn_nI (by omega) (by omega), nI_add, gIn_nI (by omega) (by omega), cl_n (by omega), cl_n (by omega), hP.1 21 (by decide), m21 i hi, mlet_s, ad_1]
      · rw [wr_if]
        by_cases e : p = f + i
        · rw [if_pos ⟨rfl, e⟩, if_pos (by omega), e, Nat.add_sub_cancel_left]
        · rw [if_neg (fun z => e z.2), hP.2 p]
          by_cases h : f ≤ p ∧ p < f + i
          · rw [if_pos h, if_pos (by omega)]
          · rw [if_neg h, if_neg (by omega)]
  obtain ⟨m3, q1, q2, q3⟩ := cp
  rw [show mX11_adopt_46 FU (nI f) (nI 0) m2 = some (nI (w_ch m f W (q_wd m f)), m3) from q1, ch_co same]
  refine ⟨_, _, m3, rfl, rfl, ?_, Or.inl (by rw [va_up_ne _ _ (by decide), a3])⟩
  have hrow24 : ∀ k, 24 ≤ k → w_row m f W k = m 15 k := fun k hk => row_ou (by omega)
  have hfull := w_full RR K hf hWw g3.1.2.2
  refine R2.now (fa := va_cpy (c2 29) (c2 12) 0 f (q_wd m f)) (ff := c2 13) (ft := c2 14) (r := w_row m f W) ?_ ?_ (va_up_self _ _ _) (va_up_ne _ _ (by decide)) (va_up_ne _ _ (by decide)) (funext q3) (fun k k1 _ _ => va_up_ne _ _ k1) (fun k k1 => q2 k k1)
  · obtain ⟨b1, b2, b3⟩ := R2.2.1.2.2
    rw [e15] at b1 b2 b3
    have o1 : ∀ a, q_of (w_row m f W) a = q_of (m 15) a := fun a => by unfold q_of; rw [hrow24 _ (by omega)]
    have o2 : ∀ a, q_ot (w_row m f W) a = q_ot (m 15) a := fun a => by unfold q_ot; rw [hrow24 _ (by omega)]
    refine ⟨fun p hp => ?_, fun a ha => ?_, fun a ha => ?_⟩
    · unfold va_cpy w_row
      by_cases hin : f ≤ p ∧ p < f + q_wd m f
      · have hd := hWw (p - f) (by omega)
        rw [if_pos hin, if_pos hin, show 0 + (p - f) = p - f from by omega, c29 _ (by omega)]
        by_cases z : W (p - f) = 0
        · rw [z]; exact Or.inl ⟨rfl, rfl⟩
        · exact Or.inr ⟨W (p - f) - 1, by rw [hS2.q.2.2.1]; omega, wv_s z, wc_s z⟩
      · rw [if_neg hin, if_neg hin]
        exact b1 p hp
    · rw [o1, o2, hrow24 _ (by omega), hrow24 _ (by omega)]; exact b2 a ha
    · rw [o1, o2]; exact b3 a ha
  · rw [hS2.ok]
    intro p hp a e ha
    have := hfull p hp a e ha
    rw [ft_out (r := m 15) (fun k hk => hrow24 k hk)]
    exact this
end EV
