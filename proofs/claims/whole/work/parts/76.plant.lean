/-! PURE LAYER 16: the planner's weights -/
theorem mk_trim {g : Nat → Bool} {n : Nat} : ∀ d, (∀ j, n ≤ j → j < n + d → g j = false) → q_mk g (n + d) = q_mk g n
  | 0, _ => rfl
  | d + 1, h => by
    rw [← Nat.add_assoc, q_mk, h (n + d) (by omega) (by omega), mk_trim d (fun j h1 h2 => h j h1 (by omega))]
    rfl
theorem tb_sh (M f p : Nat) : (M * 2 ^ f).testBit p = (decide (f ≤ p) && M.testBit (p - f)) := by
  rw [Nat.mul_comm, Nat.testBit_two_pow_mul]
theorem tb_hi {M n k : Nat} (h : M < 2 ^ n) (hk : n ≤ k) : M.testBit k = false := Nat.testBit_lt_two_pow (Nat.lt_of_lt_of_le h (Nat.pow_le_pow_right (by omega) hk))
theorem sh_b {M n f : Nat} (h : M < 2 ^ n) (hn : n + f ≤ 24) : M * 2 ^ f < 16777216 := by
  calc M * 2 ^ f < 2 ^ n * 2 ^ f := Nat.mul_lt_mul_of_pos_right h (Nat.two_pow_pos f)
    _ = 2 ^ (n + f) := (Nat.pow_add 2 n f).symm
    _ ≤ 2 ^ 24 := Nat.pow_le_pow_right (by omega) hn
theorem sm_0 {g : Nat → Nat} : ∀ {n : Nat}, (∀ k, k < n → g k = 0) → fb_sm g n = 0
  | 0, _ => rfl
  | n + 1, h => by rw [fb_sm_succ, sm_0 (fun k hk => h k (by omega)), h n (by omega)]
theorem vm_eq {g : Nat → Nat} {M n f N : Nat} (hM : M < 2 ^ n) (h : f + n ≤ N) : fb_sm (fun p => if (M * 2 ^ f).testBit p = true then g p else 0) N = fb_sm (fun k => if M.testBit k = true then g (f + k) else 0) n := by
  obtain ⟨r, rfl⟩ : ∃ r, N = f + (n + r) := ⟨N - f - n, by omega⟩
  rw [fb_sm_split, fb_sm_split]
  have e1 : fb_sm (fun p => if (M * 2 ^ f).testBit p = true then g p else 0) f = 0 := sm_0 (fun k hk => by
    rw [tb_sh, decide_eq_false (by omega)]; rfl)
  have e2 : fb_sm (fun k => if (M * 2 ^ f).testBit (f + (n + k)) = true then g (f + (n + k)) else 0) r = 0 := sm_0 (fun k hk => by
    rw [tb_sh, show f + (n + k) - f = n + k from by omega, tb_hi hM (by omega), Bool.and_false]; rfl)
  rw [e1, e2, Nat.zero_add, Nat.add_zero]
  refine fb_sm_cong (fun k hk => ?_)
  rw [tb_sh, decide_eq_true (by omega), Bool.true_and, Nat.add_sub_cancel_left]
section EV
variable {c m c' m' x y : Mm}
theorem lW_b (R : RW c m) {law f M : Nat} (hf : f < q_np m) : -70000 ≤ q_lW m law f M ∧ q_lW m law f M ≤ 70000 := by
  have h0 := R.np; have h2 := R.ns
  obtain ⟨d1, d2⟩ := wd_le m f
  unfold q_lW
  split
  · have hb : q_vm m f M ≤ q_wd m f * 10800 := fb_sm_bound (fun k hk => by
      split
      · exact (R.pb (p := f + k) (by omega)).2.2.2.2.2
      · omega)
    have : q_wd m f * 10800 ≤ 6 * 10800 := Nat.mul_le_mul_right _ d1
    omega
  · have hb : q_ls m (q_bo m f M) (q_ns m) ≤ q_ns m * 1080 := fb_sm_bound (fun k hk => by
      obtain ⟨_, _, _, _, y5, y6, y7⟩ := R.sb hk
      have := (fs_b (2 * q_sa m k 3) (2 * q_sa m k 4) (q_fl m (q_bo m f M) k) 60).2
      unfold q_en
      omega)
    have : q_ns m * 1080 ≤ 4 * 1080 := Nat.mul_le_mul_right _ h2
    omega
theorem lf_b (R : RW c m) {law f cc M : Nat} (hf : f < q_np m) : -5000000 ≤ q_lf m law f cc M ∧ q_lf m law f cc M ≤ 1073741824 := by
  have := lW_b R (law := law) (M := M) hf
  obtain ⟨d1, d2⟩ := wd_le m f
  have b1 := fb_ct_le M.testBit (q_wd m f)
  have b2 : q_tc m f M (q_wd m f) ≤ q_wd m f := fb_ct_le _ _
  unfold q_lf
  split <;> omega
theorem ol_b (R : RW c m) {law f cc : Nat} (hf : f < q_np m) : ∀ d M, -5000000 ≤ q_ol m law f cc d M ∧ q_ol m law f cc d M ≤ 1073741824
  | 0, M => lf_b R hf
  | d + 1, M => by
    have a := ol_b R hf (law := law) (cc := cc) d M
    have b := ol_b R hf (law := law) (cc := cc) d (M + 2 ^ (q_wd m f - d - 1))
    rw [q_ol]
    split <;> omega
theorem wvol_c (R : RW c m) {f cc : Nat} (hf : f < q_np m) (P : PS c m 0 f cc x) : ∃ y, mX6_weighVolumes x = some y ∧ (∀ k, k ≠ 26 → y k = x k) ∧ ∀ M, M < 2 ^ q_wd m f → y 26 (2 ^ q_wd m f + M) = zI (q_lW m 0 f M) := by
  have h0 := R.np; have h1 := R.na
  obtain ⟨d1, d2⟩ := wd_le m f
  have hp := p2_6 d1
  unfold mX6_weighVolumes
  refine lo_up (fun u M y => mX6_weighVolumes_2 u (nI M) y) (fun z => ∃ y, z = some y ∧ (∀ k, k ≠ 26 → y k = x k) ∧ ∀ M, M < 2 ^ q_wd m f → y 26 (2 ^ q_wd m f + M) = zI (q_lW m 0 f M)) (fun M y => (∀ k, k ≠ 26 → y k = x k) ∧ ∀ L, L < M → y 26 (2 ^ q_wd m f + L) = zI (q_lW m 0 f L)) (2 ^ q_wd m f) (fun u y hP => ?_) (fun u M y hM hP => ?_) FU 0 x (Nat.zero_le _) (fu_lt (by omega)) ⟨fun _ _ => rfl, fun v hv => by omega⟩
  · refine ⟨y, ?_, hP⟩
    have Py : PS c m 0 f cc y := P.fr (fun k hk => hP.1 k (by omega))
    show mX6_weighVolumes_2 (u + 1) _ _ = _
    rw [mX6_weighVolumes_2, Py.2.2.2.1, fa_2 (by omega), if_pos (nI_le (Nat.le_refl _) (by omega))]
  · have Py : PS c m 0 f cc y := P.fr (fun k hk => hP.1 k (by omega))
    have hs := sh_b (f := f) hM (by omega)
    have hb := (lW_b R (law := 0) (M := M) hf).1
    have hlw : q_lW m 0 f M = -(q_vm m f M : Int) := if_pos rfl
    refine ⟨wr y 26 (2 ^ q_wd m f + M) (zI (q_lW m 0 f M)), ?_, fun k hk => by rw [wr_cell _ _ _ hk, hP.1 k hk], fun L hL => ?_⟩
    · show mX6_weighVolumes_2 (u + 1) _ _ = mX6_weighVolumes_2 u _ _
      rw [mX6_weighVolumes_2, Py.2.2.2.1, fa_2 (by omega), if_neg (nI_ge hM (by omega)), Py.2.2.2.2.2.1, sh_n (by omega) (by omega), vol_c (Py.rw R) (by omega), bd1_s, nI_add, gIn_nI (by omega) (by omega), cl_n (by omega), mlet_s, ad_1, vm_eq hM (by omega)]
      rw [hlw] at hb ⊢
      rw [show fb_sm (fun k => if M.testBit k = true then q_vo m (f + k) else 0) (q_wd m f) = q_vm m f M from rfl, zi_neg (by omega)]
    · by_cases e : L = M
      · rw [e, wr_same]
      · rw [wr_slot _ _ _ (by omega), hP.2 L (by omega)]
theorem bo_bit {f M p : Nat} (hM : M < 2 ^ q_wd m f) (hp : p < q_np m) : (q_O m f ||| M * 2 ^ f).testBit p = q_bo m f M p := by
  rw [Nat.testBit_or, O_bit hp, tb_sh]
  unfold q_bo
  by_cases h : f ≤ p ∧ p < f + q_wd m f
  · rw [if_pos h, decide_eq_true h, decide_eq_true h.1, Bool.not_true, Bool.and_false, Bool.false_or, Bool.true_and]
  · rw [if_neg h, decide_eq_false h, Bool.not_false, Bool.and_true]
    by_cases h2 : f ≤ p
    · rw [tb_hi hM (show q_wd m f ≤ p - f by omega), Bool.and_false, Bool.or_false]
    · rw [decide_eq_false h2, Bool.false_and, Bool.or_false]
theorem wlos_c (R : RW c m) {law f cc : Nat} (hf : f < q_np m) (P : PS c m law f cc x) : ∃ y, mX6_weighLosses x = some y ∧ (∀ k, k ≠ 15 → k ≠ 16 → k ≠ 26 → k ≠ 27 → y k = x k) ∧ ∀ M, M < 2 ^ q_wd m f → y 26 (2 ^ q_wd m f + M) = nI (q_ls m (q_bo m f M) (q_ns m)) := by
  have h0 := R.np; have h1 := R.na; have h2 := R.ns
  obtain ⟨d1, d2⟩ := wd_le m f
  have hp := p2_6 d1
  unfold mX6_weighLosses
  obtain ⟨x1, e1, e2, e3⟩ := fill_26 x 0
  rw [e1, bdh_s]
  generalize hn : q_wd m f = n at *
  refine lo_up (fun u i y => mX6_weighLosses_10 u (nI i) y) (fun z => ∃ y, z = some y ∧ (∀ k, k ≠ 15 → k ≠ 16 → k ≠ 26 → k ≠ 27 → y k = x k) ∧ ∀ M, M < 2 ^ n → y 26 (2 ^ n + M) = nI (q_ls m (q_bo m f M) (q_ns m))) (fun i y => (∀ k, k ≠ 15 → k ≠ 16 → k ≠ 26 → k ≠ 27 → y k = x k) ∧ ∀ M, M < 2 ^ n → y 26 (2 ^ n + M) = nI (q_ls m (q_bo m f M) i)) (q_ns m) (fun u y hP => ?_) (fun u i y hi hP => ?_) FU 0 x1 (by omega) (fu_lt (by omega)) ⟨fun k _ _ k3 _ => e2 k k3, fun M hM => by rw [e3 _ (by omega)]; rfl⟩
  · refine ⟨y, ?_, hP⟩
    have Py : PS c m law f cc y := P.fr (fun k hk => hP.1 k (by omega) (by omega) (by omega) (by omega))
    show mX6_weighLosses_10 (u + 1) _ _ = _
    rw [mX6_weighLosses_10, Py.1 31 (by omega), R.cns, if_pos (nI_le (Nat.le_refl _) (by omega))]
  · have Py : PS c m law f cc y := P.fr (fun k hk => hP.1 k (by omega) (by omega) (by omega) (by omega))
    have hown : mX6_passesOf y (nI i) = some (nI (q_mk (fun w => decide (q_wh m (f + w) = i)) n)) := by
      refine lo_v (fun u w (t : Int32) => mX6_passesOf_5 y u (nI i) t (nI w)) _ (fun w => nI (q_mk (fun w => decide (q_wh m (f + w) = i)) w)) n (fun u => ?_) (fun u w hw => ?_) FU 0 (by omega) (fu_lt (by omega))
      · show mX6_passesOf_5 y (u + 1) _ _ _ = _
        rw [mX6_passesOf_5, Py.2.2.2.1, hn, if_pos (nI_le (Nat.le_refl _) (by omega))]
      · show mX6_passesOf_5 y (u + 1) _ _ _ = mX6_passesOf_5 y u _ _ _
        have hw1 := (R.pb (p := f + w) (by omega)).2.2.1
        rw [mX6_passesOf_5, Py.2.2.2.1, hn, if_neg (nI_ge hw (by omega)), Py.2.2.2.2.2.1, nI_add, gIn_nI (by omega) (by omega), cl_n (by omega), Py.1 7 (by omega), (R.cpa (p := f + w) (by omega)).2.2.1, or_bit (by omega) (mk_lt _ _), mlet_s]
        unfold mX6_passesOf_40
        rw [ad_1]
        simp (disch := omega) only [nz_eq]
        rw [q_mk]
        by_cases e : q_wh m (f + w) = i
        · rw [if_pos e, decide_eq_true e]; rfl
        · rw [if_neg e, decide_eq_false e]; rfl
    show ∃ x', mX6_weighLosses_10 (u + 1) (nI i) y = mX6_weighLosses_10 u _ x' ∧ _
    rw [mX6_weighLosses_10, Py.1 31 (by omega), R.cns, if_neg (nI_ge hi (by omega)), hown, bd1_s]
    generalize hw : q_mk (fun w => decide (q_wh m (f + w) = i)) n = own
    have hownb : ∀ k, k < n → own.testBit k = decide (q_wh m (f + k) = i) := fun k hk => by rw [← hw, mk_tb hk]
    have hownl : own < 2 ^ n := by rw [← hw]; exact mk_lt _ _
    refine lo_up (fun g M z => mX6_weighLosses_35 (mX6_weighLosses_10 u) g (nI i) (nI own) (nI M) z) (fun t => ∃ x', t = mX6_weighLosses_10 u (nI (i + 1)) x' ∧ (∀ k, k ≠ 15 → k ≠ 16 → k ≠ 26 → k ≠ 27 → x' k = x k) ∧ ∀ M, M < 2 ^ n → x' 26 (2 ^ n + M) = nI (q_ls m (q_bo m f M) (i + 1))) (fun M z => (∀ k, k ≠ 15 → k ≠ 16 → k ≠ 26 → k ≠ 27 → z k = x k) ∧ (∀ L, L < 2 ^ n → z 26 (2 ^ n + L) = nI (q_ls m (q_bo m f L) (if L < M then i + 1 else i))) ∧ ∀ S, S < M → (∀ k, k < n → S.testBit k = true → own.testBit k = true) → z 27 S = nI (q_en m (q_bo m f S) i).2.1) (2 ^ n) (fun g z hZ => ?_) (fun g M z hM hZ => ?_) FU 0 y (by omega) (fu_lt (by omega)) ⟨hP.1, fun L hL => by rw [if_neg (by omega)]; exact hP.2 L hL, fun S hS => by omega⟩
    · refine ⟨z, ?_, hZ.1, fun M hM => by rw [hZ.2.1 M hM, if_pos hM]⟩
      have Pz : PS c m law f cc z := P.fr (fun k hk => hZ.1 k (by omega) (by omega) (by omega) (by omega))
      show mX6_weighLosses_35 _ (g + 1) _ _ _ _ = _
      rw [mX6_weighLosses_35, Pz.2.2.2.1, hn, fa_2 (by omega), if_pos (nI_le (Nat.le_refl _) (by omega)), ad_1]
    · have Pz : PS c m law f cc z := P.fr (fun k hk => hZ.1 k (by omega) (by omega) (by omega) (by omega))
      have hs := sh_b (f := f) hM (by omega)
      have hand : M &&& own ≤ M := Nat.and_le_left
      have hO := O_lt R f
      have hMn : M < 2 ^ q_wd m f := by rw [hn]; exact hM
      have hor : q_O m f ||| M * 2 ^ f < 2147483648 := Nat.or_lt_two_pow (n := 31) hO (by omega)
      -- the last part: a weight is added
      have tail : ∀ z1 : Mm, (∀ k, k ≠ 15 → k ≠ 16 → k ≠ 27 → z1 k = z k) → (∀ S, S < M + 1 → (∀ k, k < n → S.testBit k = true → own.testBit k = true) → z1 27 S = nI (q_en m (q_bo m f S) i).2.1) → ∃ x', mX6_weighLosses_81 (mX6_weighLosses_10 u) (mX6_weighLosses_35 (mX6_weighLosses_10 u) g) (nI i) (nI own) (nI M) z1 = mX6_weighLosses_35 (mX6_weighLosses_10 u) g (nI i) (nI own) (nI (M + 1)) x' ∧ (∀ k, k ≠ 15 → k ≠ 16 → k ≠ 26 → k ≠ 27 → x' k = x k) ∧ (∀ L, L < 2 ^ n → x' 26 (2 ^ n + L) = nI (q_ls m (q_bo m f L) (if L < M + 1 then i + 1 else i))) ∧ ∀ S, S < M + 1 → (∀ k, k < n → S.testBit k = true → own.testBit k = true) → x' 27 S = nI (q_en m (q_bo m f S) i).2.1 := by
        intro z1 f1 f2
        have hsub := f2 (M &&& own) (by omega) (fun k hk hb => by
          rw [Nat.testBit_and, Bool.and_eq_true] at hb
          exact hb.2)
        have hen : (q_en m (q_bo m f (M &&& own)) i).2.1 = (q_en m (q_bo m f M) i).2.1 := by
          unfold q_en
          rw [fl_own (B := q_bo m f (M &&& own)) (B' := q_bo m f M) (fun p hp he => ?_)]
          unfold q_bo
          by_cases h : f ≤ p ∧ p < f + q_wd m f
          · rw [if_pos h, if_pos h, Nat.testBit_and, hownb (p - f) (by omega), show f + (p - f) = p from by omega, decide_eq_true he, Bool.and_true]
          · rw [if_neg h, if_neg h]
        have z26 : z1 26 = z 26 := f1 26 (by decide) (by decide) (by decide)
        have hv := hZ.2.1 M hM
        rw [if_neg (by omega)] at hv
        refine ⟨wr z1 26 (2 ^ n + M) (nI (q_ls m (q_bo m f M) (i + 1))), ?_, fun k k1 k2 k3 k4 => by rw [wr_cell _ _ _ k3, f1 k k1 k2 k4, hZ.1 k k1 k2 k3 k4], fun L hL => ?_, fun S hS hsb => by rw [wr_cell _ _ _ (by decide), f2 S hS hsb]⟩
        · unfold mX6_weighLosses_81
          rw [f1 22 (by decide) (by decide) (by decide), Pz.2.2.2.1, hn, fa_2 (by omega), nI_add, fa_and, gIn_nI (by omega) (by omega), gIn_nI (by omega) (by omega), gIn_nI (by omega) (by omega), cl_n (by omega), cl_n (by omega), z26, hv, hsub, hen, nI_add, mlet_s, ad_1]
          rfl
        · by_cases e : L = M
          · rw [e, wr_same, if_pos (by omega)]
          · rw [wr_slot _ _ _ (by omega), z26, hZ.2.1 L hL]
            by_cases h : L < M
            · rw [if_pos h, if_pos (by omega)]
            · rw [if_neg h, if_neg (by omega)]
      show ∃ x', mX6_weighLosses_35 _ (g + 1) (nI i) (nI own) (nI M) z = mX6_weighLosses_35 _ g _ _ _ x' ∧ _
      rw [mX6_weighLosses_35, Pz.2.2.2.1, hn, fa_2 (by omega), if_neg (nI_ge hM (by omega)), an_not]
      have htr : q_mk (fun j => M.testBit j && !own.testBit j) 32 = q_mk (fun j => M.testBit j && !own.testBit j) n := by
        have := mk_trim (g := fun j => M.testBit j && !own.testBit j) (n := n) (32 - n) (fun j h1 _ => by
          show (M.testBit j && !own.testBit j) = false
          rw [tb_hi hM h1]; rfl)
        rw [show n + (32 - n) = 32 from by omega] at this
        exact this
      have hiff : (nI (q_mk (fun j => M.testBit j && !own.testBit j) 32) = 0) = (∀ k, k < n → M.testBit k = true → own.testBit k = true) := by
        rw [htr, li_0, nz_eq (mk_31 _ (by omega)) (by omega), mk_any]
        apply propext
        rw [any_not]
        constructor
        · intro h k hk hb
          have := h k hk
          rw [hb, Bool.true_and] at this
          simpa using this
        · intro h k hk
          cases hb : M.testBit k with
          | false => rfl
          | true => rw [h k hk hb]; rfl
      by_cases hc : nI (q_mk (fun j => M.testBit j && !own.testBit j) 32) = 0
      · rw [if_pos hc]
        rw [hiff] at hc
        unfold mX6_contactBits
        rw [Pz.2.1, Pz.2.2.2.2.2.1, sh_n (by omega) (by omega), fa_or, bd1_s, li_59]
        obtain ⟨z1, b1, b2, b3, b4, b5, b6⟩ := fol_c (Pz.rw R) hor hi (t := 59) (by omega)
        rw [b1, bdh_s, gIn_nI (by omega) (by omega), cl_n (by omega), mlet_s]
        refine tail _ (fun k k1 k2 k3 => by rw [wr_cell _ _ _ k3, b2 k k1 k2]) (fun S hS hsb => ?_)
        by_cases e : S = M
        · rw [e, wr_same, b4]
          unfold q_en
          rw [fl_cong (B := (q_O m f ||| M * 2 ^ f).testBit) (B' := q_bo m f M) (fun p hp => bo_bit hMn hp)]
        · rw [wr_slot _ _ _ e, b2 27 (by decide) (by decide), hZ.2.2 S (by omega) hsb]
      · rw [if_neg hc]
        rw [hiff] at hc
        refine tail z (fun _ _ _ _ => rfl) (fun S hS hsb => ?_)
        by_cases e : S = M
        · subst e; exact absurd hsb hc
        · exact hZ.2.2 S (by omega) hsb
theorem bc_n (h : Mm) {M n : Nat} (hn : n ≤ 24) (hM : M < 2 ^ n) : mJ6_bitCount_0f7a4 h (nI M) = some (nI (fb_ct M.testBit n)) := by
  have := bc_mk h M.testBit hn
  rw [mk_of hM] at this
  exact this
theorem xor_lt {A B n : Nat} (hA : A < 2 ^ n) (hB : B < 2 ^ n) : A ^^^ B < 2 ^ n := Nat.xor_lt_two_pow hA hB
theorem rank_c (R : RW c m) {law f cc : Nat} (hf : f < q_np m) (hcc : cc ≤ 6) (P : PS c m law f cc x) (hl : ∀ M, M < 2 ^ q_wd m f → x 26 (2 ^ q_wd m f + M) = zI (q_lW m law f M)) : ∃ y, mX6_rankMasks x = some y ∧ (∀ k, k ≠ 26 → y k = x k) ∧ ∀ M, M < 2 ^ q_wd m f → y 26 (2 ^ q_wd m f + M) = zI (q_lf m law f cc M) := by
  have h0 := R.np; have h1 := R.na; have h2 := R.ns
  obtain ⟨d1, d2⟩ := wd_le m f
  have hp := p2_6 d1
  unfold mX6_rankMasks
  refine lo_up (fun u M y => mX6_rankMasks_2 u (nI M) y) (fun z => ∃ y, z = some y ∧ (∀ k, k ≠ 26 → y k = x k) ∧ ∀ M, M < 2 ^ q_wd m f → y 26 (2 ^ q_wd m f + M) = zI (q_lf m law f cc M)) (fun M y => (∀ k, k ≠ 26 → y k = x k) ∧ ∀ L, L < 2 ^ q_wd m f → y 26 (2 ^ q_wd m f + L) = if L < M then zI (q_lf m law f cc L) else zI (q_lW m law f L)) (2 ^ q_wd m f) (fun u y hP => ?_) (fun u M y hM hP => ?_) FU 0 x (Nat.zero_le _) (fu_lt (by omega)) ⟨fun _ _ => rfl, fun L hL => by rw [if_neg (by omega)]; exact hl L hL⟩
  · refine ⟨y, ?_, hP.1, fun M hM => by rw [hP.2 M hM, if_pos hM]⟩
    have Py : PS c m law f cc y := P.fr (fun k hk => hP.1 k (by omega))
    show mX6_rankMasks_2 (u + 1) _ _ = _
    rw [mX6_rankMasks_2, Py.2.2.2.1, fa_2 (by omega), if_pos (nI_le (Nat.le_refl _) (by omega))]
  · have Py : PS c m law f cc y := P.fr (fun k hk => hP.1 k (by omega))
    have hv := hP.2 M hM
    rw [if_neg (by omega)] at hv
    have hw := lW_b R (law := law) (M := M) hf
    have htc : fb_ct (M ^^^ q_N m f).testBit (q_wd m f) = q_tc m f M (q_wd m f) := by
      unfold q_tc
      refine fb_ct_cong (fun k hk => ?_)
      rw [Nat.testBit_xor, show (q_N m f).testBit k = q_co (m 15) (f + k) from mk_tb hk]
    have b1 := fb_ct_le M.testBit (q_wd m f)
    have b2 : q_tc m f M (q_wd m f) ≤ q_wd m f := fb_ct_le _ _
    have hval : (zI (q_lW m law f M) * 8 + nI (fb_ct M.testBit (q_wd m f))) * 8 + nI (q_tc m f M (q_wd m f)) = zI ((q_lW m law f M * 8 + fb_ct M.testBit (q_wd m f)) * 8 + q_tc m f M (q_wd m f)) := by
      have m8 : ∀ z : Int, -1000000 ≤ z → z ≤ 1000000 → zI z * 8 = zI (z * 8) := fun z z1 z2 => by
        apply Int32.toInt_inj.mp
        have e8 : (8 : Int32).toInt = 8 := by decide
        rw [fb_mulI (by rw [zi_t (by omega) (by omega), e8]; omega) (by rw [zi_t (by omega) (by omega), e8]; omega), zi_t (by omega) (by omega), e8, zi_t (by omega) (by omega)]
      rw [m8 _ (by omega) (by omega), zi_n (n := fb_ct M.testBit (q_wd m f)) (by omega), zi_ad (by omega) (by omega) (by omega) (by omega), m8 _ (by omega) (by omega), zi_n (n := q_tc m f M (q_wd m f)) (by omega), zi_ad (by omega) (by omega) (by omega) (by omega)]
    show ∃ x', mX6_rankMasks_2 (u + 1) (nI M) y = mX6_rankMasks_2 u _ x' ∧ _
    rw [mX6_rankMasks_2, Py.2.2.2.1, fa_2 (by omega), if_neg (nI_ge hM (by omega)), nI_add, gIn_nI (by omega) (by omega), cl_n (by omega), hv, mlet_s, Py.2.2.1, fb_xorI, bc_n _ (by omega) (xor_lt hM (N_lt m f)), bc_n _ (by omega) hM, bd1_s, bd1_s, htc, hval, Py.2.2.2.2.2.2, mlet_s]
    unfold mX6_rankMasks_79
    rw [gIn_nI (by omega) (by omega), gIn_nI (by omega) (by omega), cl_n (by omega), mlet_s, mlet_s, ad_1]
    have fin : ∀ v : Int32, v = zI (q_lf m law f cc M) → ∃ x', mX6_rankMasks_2 u (nI (M + 1)) (wr y 26 (2 ^ q_wd m f + M) v) = mX6_rankMasks_2 u (nI (M + 1)) x' ∧ (∀ k, k ≠ 26 → x' k = x k) ∧ ∀ L, L < 2 ^ q_wd m f → x' 26 (2 ^ q_wd m f + L) = if L < M + 1 then zI (q_lf m law f cc L) else zI (q_lW m law f L) := fun v hvv => by
      refine ⟨_, rfl, fun k hk => by rw [wr_cell _ _ _ hk, hP.1 k hk], fun L hL => ?_⟩
      by_cases e : L = M
      · rw [e, wr_same, if_pos (by omega), hvv]
      · rw [wr_slot _ _ _ (by omega), hP.2 L hL]
        by_cases h : L < M
        · rw [if_pos h, if_pos (by omega)]
        · rw [if_neg h, if_neg (by omega)]
    by_cases ht : cc < q_tc m f M (q_wd m f)
    · rw [if_pos (by rw [nz_lt (by omega) (by omega)]; exact ht)]
      exact fin _ (by unfold q_lf; rw [if_neg (by omega)]; rfl)
    · rw [if_neg (by rw [nz_lt (by omega) (by omega)]; exact ht)]
      exact fin _ (by unfold q_lf; rw [if_pos (by omega)])
theorem look_c (R : RW c m) {law f cc : Nat} (hf : f < q_np m) (P : PS c m law f cc x) (hl : ∀ M, M < 2 ^ q_wd m f → x 26 (2 ^ q_wd m f + M) = zI (q_lf m law f cc M)) (ho : ∀ w, w < q_wd m f → x 23 w = nI (q_mk (q_op m f w) (q_na m))) : ∃ y, mX6_lookOut x = some y ∧ (∀ k, k ≠ 26 → y k = x k) ∧ ∀ w, w ≤ q_wd m f → ∀ M, M < 2 ^ w → y 26 (2 ^ w + M) = zI (q_ol m law f cc (q_wd m f - w) M) := by
  have h0 := R.np; have h1 := R.na; have h2 := R.ns
  obtain ⟨d1, d2⟩ := wd_le m f
  have hpw : ∀ w, w ≤ 6 → 2 ^ w ≤ 64 := fun w hw => p2_6 hw
  have hup : ∀ w v, w < v → 2 * 2 ^ w ≤ 2 ^ v := fun w v h => by
    have := Nat.pow_le_pow_right (n := 2) (by omega) (show w + 1 ≤ v from h)
    rw [Nat.pow_succ] at this
    omega
  unfold mX6_lookOut
  rw [P.2.2.2.1, mlet_s]
  generalize hn : q_wd m f = n at *
  refine lo_up (fun u i y => mX6_lookOut_7 u (nI (n - i) - 1) y) (fun z => ∃ y, z = some y ∧ (∀ k, k ≠ 26 → y k = x k) ∧ ∀ w, w ≤ n → ∀ M, M < 2 ^ w → y 26 (2 ^ w + M) = zI (q_ol m law f cc (n - w) M)) (fun i y => (∀ k, k ≠ 26 → y k = x k) ∧ ∀ w, n - i ≤ w → w ≤ n → ∀ M, M < 2 ^ w → y 26 (2 ^ w + M) = zI (q_ol m law f cc (n - w) M)) n (fun u y hP => ?_) (fun u i y hi hP => ?_) FU 0 x (by omega) (fu_lt (by omega)) ⟨fun _ _ => rfl, fun w w1 w2 M hM => ?_⟩
  · refine ⟨y, ?_, hP.1, fun w hw M hM => hP.2 w (by omega) hw M hM⟩
    show mX6_lookOut_7 (u + 1) _ _ = _
    rw [mX6_lookOut_7, Nat.sub_self, if_pos (by decide)]
  · obtain ⟨w, hw⟩ : ∃ w, w = n - i - 1 := ⟨_, rfl⟩
    have hwn : w < n := by omega
    have p1 := hpw w (by omega)
    have p2 := hpw (w + 1) (by omega)
    have p3 : 2 ^ (w + 1) = 2 * 2 ^ w := by rw [Nat.pow_succ]; omega
    show ∃ x', mX6_lookOut_7 (u + 1) (nI (n - i) - 1) y = mX6_lookOut_7 u _ x' ∧ _
    rw [mX6_lookOut_7, show nI (n - i) - (1 : Int32) = nI w from by rw [li_1, pk_sub (by omega), hw], if_neg (nI_pos (by omega))]
    refine lo_up (fun g M z => mX6_lookOut_13 (mX6_lookOut_7 u) g (nI w) (nI M) z) (fun t => ∃ x', t = mX6_lookOut_7 u (nI (n - (i + 1)) - 1) x' ∧ (∀ k, k ≠ 26 → x' k = x k) ∧ ∀ w, n - (i + 1) ≤ w → w ≤ n → ∀ M, M < 2 ^ w → x' 26 (2 ^ w + M) = zI (q_ol m law f cc (n - w) M)) (fun M z => (∀ k, k ≠ 26 → z k = x k) ∧ (∀ v, w < v → v ≤ n → ∀ M, M < 2 ^ v → z 26 (2 ^ v + M) = zI (q_ol m law f cc (n - v) M)) ∧ ∀ L, L < M → z 26 (2 ^ w + L) = zI (q_ol m law f cc (n - w) L)) (2 ^ w) (fun g z hZ => ?_) (fun g M z hM hZ => ?_) FU 0 y (by omega) (fu_lt (by omega)) ⟨hP.1, fun v v1 v2 M hM => hP.2 v (by omega) v2 M hM, fun L hL => by omega⟩
    · refine ⟨z, ?_, hZ.1, fun v v1 v2 M hM => ?_⟩
      · show mX6_lookOut_13 _ (g + 1) _ _ _ = _
        rw [mX6_lookOut_13, fa_2 (by omega), if_pos (nI_le (Nat.le_refl _) (by omega)), add_m1, show n - (i + 1) = w from by omega]
      · by_cases e : v = w
        · subst e; exact hZ.2.2 M hM
        · exact hZ.2.1 v (by omega) v2 M hM
    · have r1 := hZ.2.1 (w + 1) (by omega) (by omega) M (by omega)
      have r2 := hZ.2.1 (w + 1) (by omega) (by omega) (M + 2 ^ w) (by omega)
      rw [p3] at r1 r2
      have ba := ol_b R (law := law) (cc := cc) hf (n - (w + 1)) M
      have bb := ol_b R (law := law) (cc := cc) hf (n - (w + 1)) (M + 2 ^ w)
      have hol : q_ol m law f cc (n - w) M = if q_any (q_op m f w) (q_na m) = false then q_ol m law f cc (n - (w + 1)) M else min (q_ol m law f cc (n - (w + 1)) M) (q_ol m law f cc (n - (w + 1)) (M + 2 ^ w)) := by
        rw [show n - w = (n - (w + 1)) + 1 from by omega, q_ol, hn, show n - (n - (w + 1)) - 1 = w from by omega]
      have e0 : (nI (q_mk (q_op m f w) (q_na m)) = 0) = (q_any (q_op m f w) (q_na m) = false) := by
        rw [li_0, nz_eq (mk_31 _ (by omega)) (by omega), mk_any]
      refine ⟨wr z 26 (2 ^ w + M) (zI (q_ol m law f cc (n - w) M)), ?_, fun k hk => by rw [wr_cell _ _ _ hk, hZ.1 k hk], fun v v1 v2 L hL => ?_, fun L hL => ?_⟩
      · show mX6_lookOut_13 _ (g + 1) _ _ _ = mX6_lookOut_13 _ g _ _ _
        rw [mX6_lookOut_13, fa_2 (by omega), if_neg (nI_ge hM (by omega)), show (2 : Int32) = nI 2 from rfl, sh_n (by omega) (by omega), nI_add, nI_add, nI_add, nI_add, gIn_nI (by omega) (by omega), cl_n (by omega), r1, mlet_s, gIn_nI (by omega) (by omega), cl_n (by omega), show 2 * 2 ^ w + 2 ^ w + M = 2 * 2 ^ w + (M + 2 ^ w) from by omega, r2, mlet_s, gIn_nI (by omega) (by omega), cl_n (by omega), hZ.1 23 (by decide), ho w hwn]
        unfold mX6_lookOut_75 mJ9_min_7cf53
        rw [gIn_nI (by omega) (by omega), cl_n (by omega), ad_1]
        simp only [mlet_s]
        rw [hol]
        simp only [e0]
        by_cases hc : q_any (q_op m f w) (q_na m) = false
        · rw [if_pos hc, if_pos hc]
        · rw [if_neg hc, if_neg hc]
          by_cases hlt : q_ol m law f cc (n - (w + 1)) (M + 2 ^ w) < q_ol m law f cc (n - (w + 1)) M
          · rw [if_pos (by rw [zi_lt (by omega) (by omega) (by omega) (by omega)]; exact hlt), bd1_s, gIn_nI (by omega) (by omega), Int.min_eq_right (by omega)]
          · rw [if_neg (by rw [zi_lt (by omega) (by omega) (by omega) (by omega)]; exact hlt), bd1_s, gIn_nI (by omega) (by omega), Int.min_eq_left (by omega)]
      · have := hup w v v1
        rw [wr_slot _ _ _ (by omega), hZ.2.1 v v1 v2 L hL]
      · by_cases e : L = M
        · rw [e, wr_same]
        · rw [wr_slot _ _ _ (by omega), hZ.2.2 L (by omega)]
  · have : w = n := by omega
    subst this
    rw [Nat.sub_self]
    exact hl M hM
end EV
