/-! PURE LAYER 17: the planner's search -/
def w_g (W : Nat → Nat) : Nat → Bool := fun k => decide (W k ≠ 0)
def Fe (m : Mm) (f : Nat) (P : Nat → Nat) (w : Nat) : Prop := ∀ k, k < w → P k ≠ 0 → q_op m f k (P k - 1) = true ∧ ∀ v, v < k → P v ≠ 0 → q_sh m f k v = false ∧ (P v = P k → q_tg m (f + v) (f + k) (P k - 1) = true)
section EV
variable {c m c' m' x y : Mm}
theorem op_iff (R : RW c m) {f k a : Nat} (hk : f + k < q_np m) (ha : a < q_na m) : q_op m f k a = true ↔ q_ft m (m 15) (f + k) a = true ∧ ∀ q, q < q_np m → ¬ (f ≤ q ∧ q < f + q_wd m f) → q_co (m 15) q = true → (m 15 q = nI a → q_tg m (f + k) q a = true) ∧ (q_wh m q = q_wh m (f + k) → q_ov m (f + k) q = false) := by
  have h0 := R.np; have h1 := R.na
  have hO : ∀ q, q < q_np m → ((q_O m f).testBit q = true ↔ q_co (m 15) q = true ∧ ¬ (f ≤ q ∧ q < f + q_wd m f)) := fun q hq => by
    rw [O_bit hq, Bool.and_eq_true, Bool.not_eq_true', decide_eq_false_iff_not]
  have hac : ∀ q, q < q_np m → q_co (m 15) q = true → (m 15 q = nI a ↔ a = q_ac (m 15) q) := fun q hq hc => by
    rcases co_m4 R (p := q) (by omega) with ⟨w1, w2, w3⟩ | ⟨w1, w2, w3, w4⟩
    · rw [w1] at hc; cases hc
    · constructor
      · intro e
        rw [w3] at e
        exact (nI_inj4 (by omega) (by omega) e).symm
      · intro e
        rw [e]; exact w3
  unfold q_op
  rw [Bool.and_eq_true, decide_eq_true_eq]
  refine and_congr_right (fun _ => ?_)
  unfold q_lw
  constructor
  · intro h q hq hin hc
    have hb := (hO q hq).mpr ⟨hc, hin⟩
    have n3 : ¬ q_cl m (f + k) a q (q_ac (m 15) q) = 3 := by
      intro e
      rw [if_pos (any_iff.mpr ⟨q, hq, by rw [hb, decide_eq_true e]; rfl⟩)] at h
      omega
    have n4 : ¬ q_cl m (f + k) a q (q_ac (m 15) q) = 4 := by
      intro e
      have hA : q_any (fun q => (q_O m f).testBit q && decide (q_cl m (f + k) a q (q_ac (m 15) q) = 4)) (q_np m) = true := any_iff.mpr ⟨q, hq, by rw [hb, decide_eq_true e]; rfl⟩
      rw [if_pos hA] at h
      split at h <;> omega
    unfold q_cl at n3 n4
    by_cases c1 : a = q_ac (m 15) q ∧ q_tg m (f + k) q a = false
    · rw [if_pos c1] at n3; exact absurd rfl n3
    · rw [if_neg c1] at n4
      by_cases c2 : (decide (q_wh m (f + k) = q_wh m q) && q_ov m (f + k) q) = true
      · rw [if_pos c2] at n4; exact absurd rfl n4
      · constructor
        · intro e
          cases ht : q_tg m (f + k) q a with
          | true => rfl
          | false => exact absurd ⟨(hac q hq hc).mp e, ht⟩ c1
        · intro e
          cases hv : q_ov m (f + k) q with
          | false => rfl
          | true => exact absurd (by rw [decide_eq_true e.symm, hv]; rfl) c2
  · intro h
    have n0 : ∀ q, q < q_np m → (q_O m f).testBit q = true → q_cl m (f + k) a q (q_ac (m 15) q) = 0 := fun q hq hb => by
      obtain ⟨hc, hin⟩ := (hO q hq).mp hb
      obtain ⟨g1, g2⟩ := h q hq hin hc
      unfold q_cl
      rw [if_neg, if_neg]
      · intro z
        rw [Bool.and_eq_true, decide_eq_true_eq] at z
        rw [g2 z.1.symm] at z
        exact absurd z.2 (by decide)
      · intro z
        have := g1 ((hac q hq hc).mpr z.1)
        rw [z.2] at this
        cases this
    rw [if_neg, if_neg]
    · intro z
      obtain ⟨q, hq, hb⟩ := any_iff.mp z
      rw [Bool.and_eq_true, decide_eq_true_eq] at hb
      have := n0 q hq hb.1
      omega
    · intro z
      obtain ⟨q, hq, hb⟩ := any_iff.mp z
      rw [Bool.and_eq_true, decide_eq_true_eq] at hb
      have := n0 q hq hb.1
      omega
theorem sh_iff {f k v : Nat} : q_sh m f k v = false ↔ (q_wh m (f + v) = q_wh m (f + k) → q_ov m (f + k) (f + v) = false) := by
  unfold q_sh
  rw [ov_sym m (f + k) (f + v)]
  constructor
  · intro h e
    rw [decide_eq_true e, Bool.true_and] at h
    exact h
  · intro h
    by_cases e : q_wh m (f + v) = q_wh m (f + k)
    · rw [h e, Bool.and_false]
    · rw [decide_eq_false e, Bool.false_and]
theorem fe_ok (R : RW c m) {f : Nat} {V : Nat → Nat} (hf : f < q_np m) (hV : WV (q_na m + 1) (q_wd m f) V) : w_ok m f V ↔ Fe m f V (q_wd m f) := by
  have h0 := R.np; have h1 := R.na
  obtain ⟨d1, d2⟩ := wd_le m f
  have hrow : ∀ k, k < q_wd m f → V k ≠ 0 → w_row m f V (f + k) = nI (V k - 1) := fun k hk h => by rw [row_in hk, wv_s h]
  have hco : ∀ k, k < q_wd m f → (q_co (w_row m f V) (f + k) = true ↔ V k ≠ 0) := fun k hk => by
    have := hV k hk
    unfold q_co
    rw [row_in hk, decide_eq_true_eq, ne_eq, wv_4 (by omega)]
  constructor
  · intro h k hk hne
    have hd := hV k hk
    obtain ⟨g1, g2⟩ := h (f + k) (by omega) (by omega) (V k - 1) (hrow k hk hne) (by omega)
    refine ⟨(op_iff R (by omega) (by omega)).mpr ⟨g1, fun q hq hin hc => ?_⟩, fun v hv hvn => ?_⟩
    · have er : w_row m f V q = m 15 q := row_ou hin
      have := g2 q hq (by omega)
      unfold q_co at this hc
      rw [er] at this
      exact ⟨this.1, fun e => this.2 hc e⟩
    · have := g2 (f + v) (by omega) (by omega)
      refine ⟨sh_iff.mpr (fun e => this.2 ((hco v (by omega)).mpr hvn) e), fun e => ?_⟩
      rw [tg_sym]
      exact this.1 (by rw [hrow v (by omega) hvn, e])
  · intro h p p1 p2 a e ha
    obtain ⟨k, rfl⟩ : ∃ k, p = f + k := ⟨p - f, by omega⟩
    have hk : k < q_wd m f := by omega
    have hd := hV k hk
    rw [row_in hk, wv_n (by omega) (by omega)] at e
    have hne : V k ≠ 0 := by omega
    obtain ⟨g1, g2⟩ := h k hk hne
    rw [show V k - 1 = a from by omega] at g1 g2
    obtain ⟨o1, o2⟩ := (op_iff R (by omega) ha).mp g1
    refine ⟨o1, fun q hq hqn => ?_⟩
    by_cases hin : f ≤ q ∧ q < f + q_wd m f
    · obtain ⟨v, rfl⟩ : ∃ v, q = f + v := ⟨q - f, by omega⟩
      have hv : v < q_wd m f := by omega
      have hdv := hV v hv
      rw [hco v hv, row_in hv, wv_n (by omega) (by omega)]
      by_cases hlt : v < k
      · refine ⟨fun e2 => ?_, fun e2 e3 => ?_⟩
        · rw [tg_sym]
          exact (g2 v hlt (by omega)).2 (by omega)
        · exact sh_iff.mp (g2 v hlt e2).1 e3
      · have hgt : k < v := by omega
        refine ⟨fun e2 => ?_, fun e2 e3 => ?_⟩
        · have := ((h v hv (by omega)).2 k hgt hne).2 (by omega)
          rw [show V v - 1 = a from by omega] at this
          exact this
        · rw [ov_sym]
          exact sh_iff.mp ((h v hv e2).2 k hgt hne).1 e3.symm
    · have er : w_row m f V q = m 15 q := row_ou hin
      rw [er]
      have hc : q_co (w_row m f V) q = q_co (m 15) q := by unfold q_co; rw [er]
      rw [hc]
      refine ⟨fun e2 => ?_, fun e2 e3 => ?_⟩
      · have : q_co (m 15) q = true := by
          unfold q_co
          rw [e2]
          exact decide_eq_true (by rw [ne_eq, nz_m4 (by omega)]; exact id)
        exact (o2 q hq hin this).1 e2
      · exact (o2 q hq hin e2).2 e3
/-- the outlook is never above a rank -/
theorem ol_lb {law f cc : Nat} {g : Nat → Bool} : ∀ d, d ≤ q_wd m f → (∀ j, q_wd m f - d ≤ j → j < q_wd m f → g j = true → q_any (q_op m f j) (q_na m) = true) → q_ol m law f cc d (q_mk g (q_wd m f - d)) ≤ q_lf m law f cc (q_mk g (q_wd m f))
  | 0, _, _ => by rw [Nat.sub_zero]; exact Int.le_refl _
  | d + 1, hd, h => by
    have ih := ol_lb (law := law) (cc := cc) d (by omega) (fun j h1 h2 h3 => h j (by omega) h2 h3)
    have e : q_wd m f - d = (q_wd m f - (d + 1)) + 1 := by omega
    rw [e, q_mk] at ih
    rw [q_ol, show q_wd m f - d - 1 = q_wd m f - (d + 1) from by omega]
    have hw := h (q_wd m f - (d + 1)) (Nat.le_refl _) (by omega)
    generalize q_wd m f - (d + 1) = w at *
    cases hg : g w with
    | false =>
      rw [hg] at ih
      simp only [Bool.false_eq_true, if_false, Nat.add_zero] at ih
      split
      · exact ih
      · omega
    | true =>
      rw [hg] at ih
      simp only [if_true] at ih
      rw [if_neg (by rw [hw hg]; decide)]
      omega
/-- a way's key, by its mask's rank -/
theorem ky_lf (R : RW c m) {law f cc : Nat} {V : Nat → Nat} (hf : f < q_np m) (hV : WV (q_na m + 1) (q_wd m f) V) (ht : fb_ct (w_tn m f V) (q_wd m f) ≤ cc) : w_ky m law f V = q_lf m law f cc (q_mk (w_g V) (q_wd m f)) + fb_ct (w_mv m f V) (q_wd m f) := by
  have h0 := R.np
  obtain ⟨d1, d2⟩ := wd_le m f
  have hb : ∀ k, k < q_wd m f → (q_mk (w_g V) (q_wd m f)).testBit k = decide (V k ≠ 0) := fun k hk => mk_tb hk
  have e1 : q_tc m f (q_mk (w_g V) (q_wd m f)) (q_wd m f) = fb_ct (w_tn m f V) (q_wd m f) := fb_ct_cong (fun k hk => by rw [hb k hk]; rfl)
  have e2 : fb_ct (q_mk (w_g V) (q_wd m f)).testBit (q_wd m f) = w_ct V (q_wd m f) := fb_ct_cong (fun k hk => hb k hk)
  have e3 : q_lW m law f (q_mk (w_g V) (q_wd m f)) = w_we m law f V := by
    unfold q_lW w_we
    have v1 : q_vm m f (q_mk (w_g V) (q_wd m f)) = w_vo m f V (q_wd m f) := fb_sm_cong (fun k hk => by rw [hb k hk]; simp only [decide_eq_true_eq])
    have v2 : q_ls m (q_bo m f (q_mk (w_g V) (q_wd m f))) = q_ls m (q_co (w_row m f V)) := ls_cong (fun p hp => by
      unfold q_bo q_co w_row
      by_cases hin : f ≤ p ∧ p < f + q_wd m f
      · have hd := hV (p - f) (by omega)
        have h1 := R.na
        rw [if_pos hin, if_pos hin, hb _ (by omega)]
        exact decide_eq_decide.mpr (by rw [ne_eq, ne_eq, wv_4 (by omega)])
      · rw [if_neg hin, if_neg hin])
    rw [v1, v2]
  unfold q_lf w_ky
  rw [e1, if_pos ht, e2, e3, ch_sp R (by omega) hV]
  omega
/-- what the search has kept, all codes below X being seen -/
def SI (m : Mm) (law f cc X : Nat) (x : Mm) : Prop := ∃ W, w_va m f cc W ∧ x 22 13 = zI (w_ky m law f W) ∧ x 22 15 = nI (q_mk (w_g W) (q_wd m f)) ∧ x 22 16 = nI (w_ch m f W (q_wd m f)) ∧ (∀ k, k < q_wd m f → x 29 k = w_c (W k)) ∧ (w_cd (q_na m + 1) W (q_wd m f) < X ∨ w_ch m f W (q_wd m f) = 0) ∧ ∀ V, w_va m f cc V → w_cd (q_na m + 1) V (q_wd m f) < X → w_ky m law f W < w_ky m law f V ∨ w_ky m law f W = w_ky m law f V ∧ w_cd (q_na m + 1) W (q_wd m f) ≤ w_cd (q_na m + 1) V (q_wd m f)
theorem ky_b (R : RW c m) {law f : Nat} {W : Nat → Nat} (hf : f < q_np m) : -5000000 ≤ w_ky m law f W ∧ w_ky m law f W ≤ 5000000 := by
  have := we_b R (law := law) (W := W) hf
  obtain ⟨d1, d2⟩ := wd_le m f
  have b1 : w_ct W (q_wd m f) ≤ q_wd m f := fb_ct_le _ _
  have b2 : w_ch m f W (q_wd m f) ≤ q_wd m f := fb_ct_le _ _
  unfold w_ky
  omega
theorem SI.adv (R : RW c m) {law f cc X X' : Nat} (hf : f < q_np m) (h : SI m law f cc X x) (hX : X ≤ X') (hn : ∀ K : Int, x 22 13 = zI K → -5000000 ≤ K → K ≤ 5000000 → ∀ V, w_va m f cc V → X ≤ w_cd (q_na m + 1) V (q_wd m f) → w_cd (q_na m + 1) V (q_wd m f) < X' → K ≤ w_ky m law f V) : SI m law f cc X' x := by
  obtain ⟨W, a1, a2, a3, a4, a5, a6, a7⟩ := h
  obtain ⟨d1, d2⟩ := wd_le m f
  refine ⟨W, a1, a2, a3, a4, a5, by omega, fun V hV hlt => ?_⟩
  by_cases hv : w_cd (q_na m + 1) V (q_wd m f) < X
  · exact a7 V hV hv
  · have hk := ky_b R (law := law) (W := W) hf
    have hle := hn _ a2 hk.1 hk.2 V hV (by omega) hlt
    rcases Int.lt_or_eq_of_le hle with hl | he
    · exact Or.inl hl
    · refine Or.inr ⟨he, ?_⟩
      rcases a6 with a6 | a6
      · omega
      · have b1 : w_ct W (q_wd m f) ≤ q_wd m f := fb_ct_le _ _
        have b2 : w_ch m f W (q_wd m f) ≤ q_wd m f := fb_ct_le _ _
        have b3 : w_ct V (q_wd m f) ≤ q_wd m f := fb_ct_le _ _
        have b4 : w_ch m f V (q_wd m f) ≤ q_wd m f := fb_ct_le _ _
        have e0 : w_ch m f V (q_wd m f) = 0 := by
          unfold w_ky at he
          omega
        have s1 := ch_0 R hf a1.1 a6
        have s2 := ch_0 R hf hV.1 e0
        exact Nat.le_of_eq (cd_co (fun k hk => by rw [s1 k hk, s2 k hk]))
/-- the planner's tables -/
def PT (c m : Mm) (law f cc : Nat) (x : Mm) : Prop := PS c m law f cc x ∧ (∀ w, w < q_wd m f → x 23 w = nI (q_mk (q_op m f w) (q_na m))) ∧ (∀ w, w < q_wd m f → x 25 w = nI (q_mk (q_sh m f w) w)) ∧ (∀ w, w < q_wd m f → ∀ v, v < w → x 24 (v * 6 + w) = nI (q_mk (q_ap m f v w) (q_na m))) ∧ ∀ w, w ≤ q_wd m f → ∀ M, M < 2 ^ w → x 26 (2 ^ w + M) = zI (q_ol m law f cc (q_wd m f - w) M)
def PF (x y : Mm) : Prop := (∀ k, k ≠ 22 → k ≠ 28 → k ≠ 29 → y k = x k) ∧ ∀ j, j ≠ 13 → j ≠ 15 → j ≠ 16 → y 22 j = x 22 j
theorem PF.tr {z : Mm} (h : PF x y) (g : PF y z) : PF x z := ⟨fun k k1 k2 k3 => (g.1 k k1 k2 k3).trans (h.1 k k1 k2 k3), fun j j1 j2 j3 => (g.2 j j1 j2 j3).trans (h.2 j j1 j2 j3)⟩
theorem PT.fr {law f cc : Nat} (h : PT c m law f cc x) (g : PF x y) : PT c m law f cc y := by
  obtain ⟨⟨a1, a2, a3, a4, a5, a6, a7⟩, b1, b2, b3, b4⟩ := h
  obtain ⟨g1, g2⟩ := g
  unfold PT PS
  rw [g2 6 (by decide) (by decide) (by decide), g2 7 (by decide) (by decide) (by decide), g2 8 (by decide) (by decide) (by decide), g2 10 (by decide) (by decide) (by decide), g2 11 (by decide) (by decide) (by decide), g2 12 (by decide) (by decide) (by decide), g1 23 (by decide) (by decide) (by decide), g1 24 (by decide) (by decide) (by decide), g1 25 (by decide) (by decide) (by decide), g1 26 (by decide) (by decide) (by decide)]
  exact ⟨⟨fun k hk => by rw [g1 k (by omega) (by omega) (by omega), a1 k hk], a2, a3, a4, a5, a6, a7⟩, b1, b2, b3, b4⟩
theorem mk_and0 {g h : Nat → Bool} {n : Nat} : q_mk g n &&& q_mk h n = 0 ↔ ∀ k, k < n → ¬ (g k = true ∧ h k = true) := by
  constructor
  · intro e k hk hb
    have : (q_mk g n &&& q_mk h n).testBit k = true := by rw [Nat.testBit_and, mk_tb hk, mk_tb hk, hb.1, hb.2]; rfl
    rw [e, Nat.zero_testBit] at this
    cases this
  · intro h2
    apply Nat.eq_of_testBit_eq
    intro k
    rw [Nat.testBit_and, mk_bit, mk_bit, Nat.zero_testBit]
    by_cases hk : k < n
    · have := h2 k hk
      cases hg : g k <;> cases hh : h k <;> simp_all
    · rw [decide_eq_false hk]; rfl
/-- antennas that are free for the next pass -/
theorem free_c (R : RW c m) {law f cc w : Nat} {P : Nat → Nat} (hf : f < q_np m) (T : PT c m law f cc x) (hw : w < q_wd m f) (hP : WV (q_na m + 1) w P) (h28 : ∀ k, k < w → x 28 k = w_c (P k)) : ∃ F, F < 2 ^ q_na m ∧ mX6_freeAntennas x (nI w) (nI (q_mk (w_g P) w)) = some (nI F) ∧ ∀ a, a < q_na m → (F.testBit a = true ↔ q_op m f w a = true ∧ ∀ v, v < w → P v ≠ 0 → q_sh m f w v = false ∧ (P v = a + 1 → q_tg m (f + v) (f + w) a = true)) := by
  have h0 := R.np; have h1 := R.na
  obtain ⟨d1, d2⟩ := wd_le m f
  obtain ⟨T0, T1, T2, T3, T4⟩ := T
  have hp4 : 2 ^ q_na m ≤ 16 := Nat.pow_le_pow_right (n := 2) (by omega) h1
  unfold mX6_freeAntennas
  have hml : q_mk (w_g P) w < 2 ^ w := mk_lt _ _
  have hwp := p2_6 (n := w) (by omega)
  rw [gIn_nI (by omega) (by omega), gIn_nI (by omega) (by omega), cl_n (by omega), T2 w hw, fa_and, T1 w hw, mlet_s]
  have hand : q_mk (q_sh m f w) w &&& q_mk (w_g P) w ≤ q_mk (q_sh m f w) w := Nat.and_le_left
  have hsl := mk_31 (q_sh m f w) (n := w) (by omega)
  by_cases hr : q_mk (q_sh m f w) w &&& q_mk (w_g P) w = 0
  case neg =>
    rw [if_neg (by rw [li_0, nz_eq (by omega) (by omega)]; exact hr)]
    refine ⟨0, Nat.two_pow_pos _, rfl, fun a ha => ?_⟩
    rw [Nat.zero_testBit]
    constructor
    · intro z; cases z
    · rintro ⟨_, z⟩
      exfalso
      apply hr
      rw [mk_and0]
      rintro v hv ⟨b1, b2⟩
      have := (z v hv (of_decide_eq_true b2)).1
      rw [b1] at this
      cases this
  rw [if_pos (by rw [hr]; rfl)]
  rw [mk_and0] at hr
  have key : ∃ F, F < 2 ^ q_na m ∧ mX6_freeAntennas_23 x FU (nI w) (nI (q_mk (w_g P) w)) (nI (q_mk (q_op m f w) (q_na m))) 0 = some (nI F) ∧ ∀ a, a < q_na m → (F.testBit a = true ↔ q_op m f w a = true ∧ ∀ v, v < w → P v ≠ 0 → P v = a + 1 → q_tg m (f + v) (f + w) a = true) := by
    refine lo_up (fun u v (F : Nat) => mX6_freeAntennas_23 x u (nI w) (nI (q_mk (w_g P) w)) (nI F) (nI v)) (fun z => ∃ F, F < 2 ^ q_na m ∧ z = some (nI F) ∧ ∀ a, a < q_na m → (F.testBit a = true ↔ q_op m f w a = true ∧ ∀ v, v < w → P v ≠ 0 → P v = a + 1 → q_tg m (f + v) (f + w) a = true)) (fun i F => F < 2 ^ q_na m ∧ ∀ a, a < q_na m → (F.testBit a = true ↔ q_op m f w a = true ∧ ∀ v, v < i → P v ≠ 0 → P v = a + 1 → q_tg m (f + v) (f + w) a = true)) w (fun u F hF => ?_) (fun u i F hi hF => ?_) FU 0 _ (by omega) (fu_lt (by omega)) ⟨mk_lt _ _, fun a ha => by
      rw [mk_tb ha]
      exact ⟨fun z => ⟨z, fun v hv => by omega⟩, fun z => z.1⟩⟩
    · refine ⟨F, hF.1, ?_, hF.2⟩
      show mX6_freeAntennas_23 x (u + 1) _ _ _ _ = _
      rw [mX6_freeAntennas_23, if_pos (nI_le (Nat.le_refl _) (by omega))]
    · obtain ⟨hF1, hF2⟩ := hF
      show ∃ x', mX6_freeAntennas_23 x (u + 1) (nI w) (nI (q_mk (w_g P) w)) (nI F) (nI i) = mX6_freeAntennas_23 x u _ _ (nI x') _ ∧ _
      rw [mX6_freeAntennas_23, if_neg (nI_ge hi (by omega))]
      simp only [bit_t (show i < 31 by omega) (show q_mk (w_g P) w < 2147483648 by omega)]
      rw [mk_tb hi]
      unfold mX6_freeAntennas_65
      rw [ad_1]
      have hd := hP i hi
      by_cases hz : P i = 0
      · rw [if_pos (show w_g P i = false from decide_eq_false (fun z => z hz))]
        refine ⟨F, rfl, hF1, fun a ha => ?_⟩
        rw [hF2 a ha]
        refine and_congr_right (fun _ => ⟨fun h v hv hne => ?_, fun h v hv => h v (by omega)⟩)
        by_cases e : v = i
        · subst e; exact absurd hz hne
        · exact h v (by omega) hne
      · rw [if_neg (show ¬ w_g P i = false by unfold w_g; rw [decide_eq_true hz]; decide), li_6, pk_mul, nI_add, gIn_nI (by omega) (by omega), gIn_nI (by omega) (by omega), cl_n (by omega), cl_n (by omega), T3 w hw i hi, h28 i hi, wc_s hz, fa_2 (by omega), fa_and, an_not, mlet_s]
        have htr : q_mk (fun j => F.testBit j && !(q_mk (q_ap m f i w) (q_na m) &&& 2 ^ (P i - 1)).testBit j) 32 = q_mk (fun j => F.testBit j && !(q_mk (q_ap m f i w) (q_na m) &&& 2 ^ (P i - 1)).testBit j) (q_na m) := by
          have := mk_trim (g := fun j => F.testBit j && !(q_mk (q_ap m f i w) (q_na m) &&& 2 ^ (P i - 1)).testBit j) (n := q_na m) (32 - q_na m) (fun j h1 _ => by
            show (F.testBit j && _) = false
            rw [tb_hi hF1 h1]; rfl)
          rw [show q_na m + (32 - q_na m) = 32 from by omega] at this
          exact this
        rw [htr]
        refine ⟨_, rfl, mk_lt _ _, fun a ha => ?_⟩
        rw [mk_tb ha, Bool.and_eq_true, hF2 a ha, Nat.testBit_and, mk_tb ha, Nat.testBit_two_pow]
        have hap : (!(q_ap m f i w a && decide (P i - 1 = a))) = true ↔ (P i = a + 1 → q_tg m (f + i) (f + w) a = true) := by
          unfold q_ap
          by_cases e : P i - 1 = a
          · rw [decide_eq_true e, Bool.and_true, Bool.not_not]
            exact ⟨fun z _ => z, fun z => z (by omega)⟩
          · rw [decide_eq_false e, Bool.and_false]
            exact ⟨fun _ z => by omega, fun _ => rfl⟩
        rw [hap]
        constructor
        · rintro ⟨⟨a1, a2⟩, a3⟩
          refine ⟨a1, fun v hv hne e => ?_⟩
          by_cases e2 : v = i
          · subst e2; exact a3 e
          · exact a2 v (by omega) hne e
        · rintro ⟨a1, a2⟩
          exact ⟨⟨a1, fun v hv => a2 v (by omega)⟩, fun e => a2 i (by omega) hz e⟩
  obtain ⟨F, k1, k2, k3⟩ := key
  refine ⟨F, k1, k2, fun a ha => ?_⟩
  rw [k3 a ha]
  refine and_congr_right (fun _ => ⟨fun h v hv hne => ⟨?_, fun e => h v hv hne e⟩, fun h v hv hne e => (h v hv hne).2 e⟩)
  cases hs : q_sh m f w v with
  | false => rfl
  | true => exact absurd ⟨hs, decide_eq_true hne⟩ (hr v hv)
theorem ahead_c (R : RW c m) {law f cc w : Nat} {P : Nat → Nat} (T : PT c m law f cc x) (hw : w ≤ q_wd m f) : mX6_changesAhead x (nI w) (nI (q_mk (w_g P) w)) = some (nI (fb_ct (w_tn m f P) w)) := by
  obtain ⟨d1, d2⟩ := wd_le m f
  have h0 := R.np
  have hwp := p2_6 (n := w) (by omega)
  have hpos := Nat.two_pow_pos w
  unfold mX6_changesAhead
  rw [T.1.2.2.1, fb_xorI, fa_2 (by omega), li_1, pk_sub (by omega), fa_mask, bc_n _ (by omega) (Nat.mod_lt _ hpos), bd1_s]
  refine congrArg (fun z => some (nI z)) (fb_ct_cong (fun k hk => ?_))
  rw [Nat.testBit_mod_two_pow, decide_eq_true hk, Bool.true_and, Nat.testBit_xor, mk_tb hk, show (q_N m f).testBit k = q_co (m 15) (f + k) from mk_tb (by omega)]
  rfl
/-- one more figure -/
def w_up (P : Nat → Nat) (w d : Nat) : Nat → Nat := fun k => if k = w then d else P k
theorem up_o {P : Nat → Nat} {w d k : Nat} (h : k ≠ w) : w_up P w d k = P k := if_neg h
theorem up_s {P : Nat → Nat} {w d : Nat} : w_up P w d w = d := if_pos rfl
theorem try_c (R : RW c m) {law f cc : Nat} (hf : f < q_np m) (hcc : cc ≤ 6) : ∀ (d w : Nat), w + d = q_wd m f → ∀ fu, d < fu → ∀ (P : Nat → Nat) (x : Mm), PT c m law f cc x → WV (q_na m + 1) w P → Fe m f P w → (∀ k, k < w → x 28 k = w_c (P k)) → SI m law f cc (w_cd (q_na m + 1) P w * (q_na m + 1) ^ d) x → ∃ y, mX6_tryPass fu x (nI w) (nI (q_mk (w_g P) w)) (nI (fb_ct (w_mv m f P) w)) = some y ∧ PF x y ∧ (∀ k, k < w → y 28 k = x 28 k) ∧ SI m law f cc ((w_cd (q_na m + 1) P w + 1) * (q_na m + 1) ^ d) y := by
  have h0 := R.np; have h1 := R.na
  obtain ⟨d1, d2⟩ := wd_le m f
  intro d
  induction d with
  | zero =>
    intro w hwd fu hfu P x T hP hFe h28 hS
    have hwn : w = q_wd m f := by omega
    subst hwn
    obtain ⟨fu, rfl⟩ : ∃ k, fu = k + 1 := ⟨fu - 1, by omega⟩
    have hwp := p2_6 (n := q_wd m f) (by omega)
    have hml : q_mk (w_g P) (q_wd m f) < 2 ^ q_wd m f := mk_lt _ _
    have hmv : fb_ct (w_mv m f P) (q_wd m f) ≤ q_wd m f := fb_ct_le _ _
    have htn : fb_ct (w_tn m f P) (q_wd m f) ≤ q_wd m f := fb_ct_le _ _
    have hob := lf_b R (law := law) (cc := cc) (M := q_mk (w_g P) (q_wd m f)) hf
    have h26 := T.2.2.2.2 (q_wd m f) (Nat.le_refl _) _ hml
    rw [Nat.sub_self] at h26
    have h26' : x 26 (2 ^ q_wd m f + q_mk (w_g P) (q_wd m f)) = zI (q_lf m law f cc (q_mk (w_g P) (q_wd m f))) := h26
    rw [Nat.pow_zero, Nat.mul_one] at hS ⊢
    rw [mX6_tryPass]
    unfold mX6_tryPass_body
    rw [fa_2 (by omega), nI_add, gIn_nI (by omega) (by omega), cl_n (by omega), h26', zi_n (n := fb_ct (w_mv m f P) (q_wd m f)) (by omega), zi_ad (by omega) (by omega) (by omega) (by omega), ← zi_n (n := fb_ct (w_mv m f P) (q_wd m f)) (by omega), ahead_c R T (Nat.le_refl _), bd1_s, nI_add, T.1.2.2.2.2.2.2, T.1.2.2.2.1]
    have hrng : ∀ V, w_va m f cc V → w_cd (q_na m + 1) P (q_wd m f) ≤ w_cd (q_na m + 1) V (q_wd m f) → w_cd (q_na m + 1) V (q_wd m f) < w_cd (q_na m + 1) P (q_wd m f) + 1 → ∀ k, k < q_wd m f → V k = P k := fun V hV a b => cd_in hV.1 hP (by omega)
    obtain ⟨W, a1, a2, a3, a4, a5, a6, a7⟩ := id hS
    have hkW := ky_b R (law := law) (W := W) hf
    by_cases hp1 : w_ky m law f W ≤ q_lf m law f cc (q_mk (w_g P) (q_wd m f)) + fb_ct (w_mv m f P) (q_wd m f)
    · rw [a2, if_pos (by rw [zi_le (by omega) (by omega) (by omega) (by omega)]; exact hp1)]
      refine ⟨x, rfl, ⟨fun _ _ _ _ => rfl, fun _ _ _ _ => rfl⟩, fun _ _ => rfl, hS.adv R hf (by omega) (fun K hK k1 k2 V hV v1 v2 => ?_)⟩
      have hKW : K = w_ky m law f W := by
        rw [a2, zi_eq (by omega) (by omega) (by omega) (by omega)] at hK
        exact hK.symm
      have hch := hV.2.1
      rw [ch_sp R (by omega) hV.1] at hch
      have := ky_lf R (law := law) (cc := cc) hf hV.1 (by omega)
      have same := hrng V hV v1 v2
      have e1 : q_mk (w_g V) (q_wd m f) = q_mk (w_g P) (q_wd m f) := mk_cong (fun k hk => by unfold w_g; rw [same k hk])
      have e2 : fb_ct (w_mv m f V) (q_wd m f) = fb_ct (w_mv m f P) (q_wd m f) := fb_ct_cong (fun k hk => by unfold w_mv; rw [same k hk])
      rw [e1, e2] at this
      omega
    · rw [a2, if_neg (by rw [zi_le (by omega) (by omega) (by omega) (by omega)]; exact hp1)]
      by_cases hp2 : fb_ct (w_tn m f P) (q_wd m f) + fb_ct (w_mv m f P) (q_wd m f) ≤ cc
      case neg =>
        rw [if_neg (by rw [nz_le (by omega) (by omega)]; exact hp2)]
        refine ⟨x, rfl, ⟨fun _ _ _ _ => rfl, fun _ _ _ _ => rfl⟩, fun _ _ => rfl, hS.adv R hf (by omega) (fun K hK k1 k2 V hV v1 v2 => ?_)⟩
        exfalso
        have same := hrng V hV v1 v2
        have hch := hV.2.1
        rw [ch_co same, ch_sp R (by omega) hP] at hch
        omega
      rw [if_pos (by rw [nz_le (by omega) (by omega)]; exact hp2), if_neg (by rw [nz_lt (by omega) (by omega)]; omega)]
      have hva : w_va m f cc P := ⟨hP, by rw [ch_sp R (by omega) hP]; exact hp2, (fe_ok R hf hP).mpr hFe⟩
      have hky := ky_lf R (law := law) (cc := cc) hf hP (by omega)
      unfold mX6_keepWay
      rw [T.1.2.2.2.1, li_0, gCp_ok (by omega) (by omega) (by omega) (by omega), cl_n (by omega), cl_n (by omega), mlet_s]
      generalize hx1 : va_up x 29 (va_cpy (x 28) (x 29) 0 0 (q_wd m f)) = x1
      have f1 : ∀ k, k ≠ 29 → x1 k = x k := fun k hk => by rw [← hx1, va_up_ne _ _ hk]
      have f2 : ∀ k, k < q_wd m f → x1 29 k = w_c (P k) := fun k hk => by
        rw [← hx1, va_up_self, va_cpy, if_pos (by omega), show 0 + (k - 0) = k from by omega, h28 k hk]
      rw [mlet_s, wr_slot _ _ _ (by decide), f1 22 (by decide), T.1.2.2.2.1, fa_2 (by omega), nI_add, gIn_nI (by omega) (by omega), cl_n (by omega), wr_cell _ _ _ (by decide), f1 26 (by decide), h26', zi_n (n := fb_ct (w_mv m f P) (q_wd m f)) (by omega), zi_ad (by omega) (by omega) (by omega) (by omega), ← zi_n (n := fb_ct (w_mv m f P) (q_wd m f)) (by omega), mlet_s]
      generalize hx2 : wr (wr x1 22 15 (nI (q_mk (w_g P) (q_wd m f)))) 22 13 (zI (q_lf m law f cc (q_mk (w_g P) (q_wd m f)) + ↑(fb_ct (w_mv m f P) (q_wd m f)))) = x2
      have g1 : PF x x2 := ⟨fun k k1 k2 k3 => by rw [← hx2, wr_cell _ _ _ k1, wr_cell _ _ _ k1, f1 k k3], fun j j1 j2 j3 => by rw [← hx2, wr_slot _ _ _ j1, wr_slot _ _ _ j2, f1 22 (by decide)]⟩
      have T2 := T.fr g1
      rw [T2.1.2.2.2.1, ahead_c R T2 (Nat.le_refl _), bd1_s, mlet_s, bdh_s, nI_add]
      refine ⟨_, rfl, g1.tr ⟨fun k k1 _ _ => wr_cell _ _ _ k1, fun j _ _ j3 => wr_slot _ _ _ j3⟩, fun k hk => ?_, P, hva, ?_, ?_, ?_, fun k hk => ?_, Or.inl (by omega), fun V hV hlt => ?_⟩
      · rw [wr_cell _ _ _ (by decide), ← hx2, wr_cell _ _ _ (by decide), wr_cell _ _ _ (by decide), f1 28 (by decide)]
      · rw [wr_slot _ _ _ (by decide), ← hx2, wr_same, hky]
      · rw [wr_slot _ _ _ (by decide), ← hx2, wr_slot _ _ _ (by decide), wr_same]
      · rw [wr_same, ch_sp R (by omega) hP]
      · rw [wr_cell _ _ _ (by decide), ← hx2, wr_cell _ _ _ (by decide), wr_cell _ _ _ (by decide), f2 k hk]
      · by_cases hv : w_cd (q_na m + 1) V (q_wd m f) < w_cd (q_na m + 1) P (q_wd m f)
        · have := a7 V hV hv
          omega
        · have same := hrng V hV (by omega) hlt
          exact Or.inr ⟨(ky_co same).symm, Nat.le_of_eq (cd_co same).symm⟩
  | succ d ih =>
    intro w hwd fu hfu P x T hP hFe h28 hS
    obtain ⟨fu, rfl⟩ : ∃ k, fu = k + 1 := ⟨fu - 1, by omega⟩
    have hwn : w < q_wd m f := by omega
    have hwp := p2_6 (n := w) (by omega)
    have hml : q_mk (w_g P) w < 2 ^ w := mk_lt _ _
    have hmv : fb_ct (w_mv m f P) w ≤ w := fb_ct_le _ _
    have htn : fb_ct (w_tn m f P) w ≤ w := fb_ct_le _ _
    have hob := ol_b R (law := law) (cc := cc) hf (d + 1) (q_mk (w_g P) w)
    have h26 := T.2.2.2.2 w (by omega) _ hml
    rw [show q_wd m f - w = d + 1 from by omega] at h26
    have hpre : ∀ V j, w_va m f cc V → ∀ Q, WV (q_na m + 1) j Q → ∀ e, j + e = q_wd m f → w_cd (q_na m + 1) Q j * (q_na m + 1) ^ e ≤ w_cd (q_na m + 1) V (q_wd m f) → w_cd (q_na m + 1) V (q_wd m f) < (w_cd (q_na m + 1) Q j + 1) * (q_na m + 1) ^ e → ∀ k, k < j → V k = Q k := fun V j hV Q hQ e he v1 v2 => by
      refine cd_in (fun k hk => hV.1 k (by omega)) hQ (cd_rng hV.1 (by omega) ?_ ?_)
      · rw [show q_wd m f - j = e from by omega]; exact v1
      · rw [show q_wd m f - j = e from by omega]; exact v2
    rw [mX6_tryPass]
    unfold mX6_tryPass_body
    rw [fa_2 (by omega), nI_add, gIn_nI (by omega) (by omega), cl_n (by omega), h26, zi_n (n := fb_ct (w_mv m f P) w) (by omega), zi_ad (by omega) (by omega) (by omega) (by omega), ← zi_n (n := fb_ct (w_mv m f P) w) (by omega), ahead_c R T (by omega), bd1_s, nI_add, T.1.2.2.2.2.2.2, T.1.2.2.2.1]
    obtain ⟨W, a1, a2, a3, a4, a5, a6, a7⟩ := id hS
    have hkW := ky_b R (law := law) (W := W) hf
    have hXX : w_cd (q_na m + 1) P w * (q_na m + 1) ^ (d + 1) ≤ (w_cd (q_na m + 1) P w + 1) * (q_na m + 1) ^ (d + 1) := Nat.mul_le_mul_right _ (by omega)
    by_cases hp1 : w_ky m law f W ≤ q_ol m law f cc (d + 1) (q_mk (w_g P) w) + fb_ct (w_mv m f P) w
    · rw [a2, if_pos (by rw [zi_le (by omega) (by omega) (by omega) (by omega)]; exact hp1)]
      refine ⟨x, rfl, ⟨fun _ _ _ _ => rfl, fun _ _ _ _ => rfl⟩, fun _ _ => rfl, hS.adv R hf hXX (fun K hK k1 k2 V hV v1 v2 => ?_)⟩
      have hKW : K = w_ky m law f W := by
        rw [a2, zi_eq (by omega) (by omega) (by omega) (by omega)] at hK
        exact hK.symm
      have same := hpre V w hV P hP (d + 1) (by omega) v1 v2
      have hch := hV.2.1
      rw [ch_sp R (by omega) hV.1] at hch
      have hky := ky_lf R (law := law) (cc := cc) hf hV.1 (by omega)
      have e1 : q_mk (w_g V) w = q_mk (w_g P) w := mk_cong (fun k hk => by unfold w_g; rw [same k hk])
      have e2 : fb_ct (w_mv m f V) w = fb_ct (w_mv m f P) w := fb_ct_cong (fun k hk => by unfold w_mv; rw [same k hk])
      have e3 := fb_ct_mono (w_mv m f V) (show w ≤ q_wd m f by omega)
      have hlb := ol_lb (m := m) (law := law) (f := f) (cc := cc) (g := w_g V) (d + 1) (by omega) (fun j j1 j2 j3 => by
        have hfe := (fe_ok R hf hV.1).mp hV.2.2 j j2 (of_decide_eq_true j3)
        have hd := hV.1 j j2
        have := of_decide_eq_true j3
        exact any_iff.mpr ⟨V j - 1, by omega, hfe.1⟩)
      rw [show q_wd m f - (d + 1) = w from by omega, e1] at hlb
      omega
    rw [a2, if_neg (by rw [zi_le (by omega) (by omega) (by omega) (by omega)]; exact hp1)]
    by_cases hp2 : fb_ct (w_tn m f P) w + fb_ct (w_mv m f P) w ≤ cc
    case neg =>
      rw [if_neg (by rw [nz_le (by omega) (by omega)]; exact hp2)]
      refine ⟨x, rfl, ⟨fun _ _ _ _ => rfl, fun _ _ _ _ => rfl⟩, fun _ _ => rfl, hS.adv R hf hXX (fun K hK k1 k2 V hV v1 v2 => ?_)⟩
      exfalso
      have same := hpre V w hV P hP (d + 1) (by omega) v1 v2
      have hch := hV.2.1
      have e1 : w_ch m f V w ≤ w_ch m f V (q_wd m f) := fb_ct_mono _ (by omega)
      rw [ch_co same, ch_sp R (by omega) hP] at e1
      omega
    rw [if_pos (by rw [nz_le (by omega) (by omega)]; exact hp2), if_pos (by rw [nz_lt (by omega) (by omega)]; omega), gIn_nI (by omega) (by omega), cl_n (by omega), mlet_s]
    -- no antenna
    have F0 : PF x (wr x 28 w (-1)) := ⟨fun k _ k2 _ => wr_cell _ _ _ k2, fun j _ _ _ => by rw [wr_cell _ _ _ (by decide)]⟩
    have c0 : w_cd (q_na m + 1) (w_up P w 0) (w + 1) = w_cd (q_na m + 1) P w * (q_na m + 1) := by
      rw [w_cd, up_s, Nat.add_zero, cd_co (fun k hk => up_o (by omega))]
    have g0 : q_mk (w_g (w_up P w 0)) (w + 1) = q_mk (w_g P) w := by
      rw [q_mk, show w_g (w_up P w 0) w = false from by unfold w_g; rw [up_s]; rfl, mk_cong (g := w_g P) (fun k hk => by unfold w_g; rw [up_o (by omega)])]
      rfl
    have v0 : fb_ct (w_mv m f (w_up P w 0)) (w + 1) = fb_ct (w_mv m f P) w := by
      rw [fb_ct_succ, show w_mv m f (w_up P w 0) w = false from by unfold w_mv; rw [up_s]; rfl, fb_ct_cong (q := w_mv m f P) (fun k hk => by unfold w_mv; rw [up_o (by omega)])]
      rfl
    obtain ⟨y, y1, y2, y3, y4⟩ := ih (w + 1) (by omega) fu (by omega) (w_up P w 0) (wr x 28 w (-1)) (T.fr F0) (fun k hk => by
        by_cases e : k = w
        · subst e; rw [up_s]; omega
        · rw [up_o e]; exact hP k (by omega)) (fun k hk hne => by
        by_cases e : k = w
        · subst e; rw [up_s] at hne; exact absurd rfl hne
        · rw [up_o e] at hne ⊢
          obtain ⟨b1, b2⟩ := hFe k (by omega) hne
          refine ⟨b1, fun v hv hvn => ?_⟩
          rw [up_o (by omega)] at hvn ⊢
          exact b2 v hv hvn) (fun k hk => by
        by_cases e : k = w
        · subst e; rw [wr_same, up_s]; rfl
        · rw [wr_slot _ _ _ e, up_o e]; exact h28 k (by omega)) (by
        rw [c0, Nat.mul_assoc, ← Nat.pow_succ']
        obtain ⟨W, b1, b2, b3, b4, b5, b6, b7⟩ := hS
        refine ⟨W, b1, ?_, ?_, ?_, fun k hk => ?_, b6, b7⟩
        · rw [wr_cell _ _ _ (by decide)]; exact b2
        · rw [wr_cell _ _ _ (by decide)]; exact b3
        · rw [wr_cell _ _ _ (by decide)]; exact b4
        · rw [wr_cell _ _ _ (by decide)]; exact b5 k hk)
    rw [g0, v0] at y1
    rw [c0] at y4
    rw [ad_1, y1, bdh_s]
    have Ty := (T.fr F0).fr y2
    have y28 : ∀ k, k < w → y 28 k = w_c (P k) := fun k hk => by rw [y3 k (by omega), wr_slot _ _ _ (by omega), h28 k hk]
    obtain ⟨F, F1, F2, F3⟩ := free_c R hf Ty hwn hP y28
    rw [F2, bd1_s, Ty.1.2.2.2.2.2.1, nI_add, gIn_nI (by omega) (by omega), cl_n (by omega), Ty.1.1 12 (by omega), mlet_s]
    have hp4 : 2 ^ q_na m ≤ 16 := Nat.pow_le_pow_right (n := 2) (by omega) h1
    have hF31 : F < 2147483648 := by omega
    have PFy : PF x y := F0.tr y2
    -- the antennas, one after the other
    refine lo_up (fun u a z => mX6_tryPass_98 (mX6_tryPass fu) u (nI w) (nI (q_mk (w_g P) w)) (nI (fb_ct (w_mv m f P) w)) (nI F) (c 12 (f + w)) (nI a) z) (fun t => ∃ z, t = some z ∧ PF x z ∧ (∀ k, k < w → z 28 k = x 28 k) ∧ SI m law f cc ((w_cd (q_na m + 1) P w + 1) * (q_na m + 1) ^ (d + 1)) z) (fun a z => PF x z ∧ (∀ k, k < w → z 28 k = x 28 k) ∧ SI m law f cc ((w_cd (q_na m + 1) P w * (q_na m + 1) + a + 1) * (q_na m + 1) ^ d) z) (q_na m) (fun u z hZ => ?_) (fun u a z ha hZ => ?_) FU 0 y (by omega) (fu_lt (by omega)) ⟨PFy, fun k hk => by rw [y28 k hk, h28 k hk], y4⟩
    · obtain ⟨z1, z2, z3⟩ := hZ
      refine ⟨z, ?_, z1, z2, ?_⟩
      · show mX6_tryPass_98 _ (u + 1) _ _ _ _ _ _ _ = _
        rw [mX6_tryPass_98, (T.fr z1).1.1 42 (by omega), R.cna, if_pos (nI_le (Nat.le_refl _) (by omega))]
      · have e : (w_cd (q_na m + 1) P w * (q_na m + 1) + q_na m + 1) * (q_na m + 1) ^ d = (w_cd (q_na m + 1) P w + 1) * (q_na m + 1) ^ (d + 1) := by
          rw [Nat.pow_succ', ← Nat.mul_assoc, Nat.add_mul (w_cd (q_na m + 1) P w) 1, Nat.one_mul, Nat.add_assoc]
        rw [← e]
        exact z3
    · obtain ⟨z1, z2, z3⟩ := hZ
      have Tz := T.fr z1
      show ∃ x', mX6_tryPass_98 _ (u + 1) (nI w) (nI (q_mk (w_g P) w)) (nI (fb_ct (w_mv m f P) w)) (nI F) (c 12 (f + w)) (nI a) z = mX6_tryPass_98 _ u _ _ _ _ _ _ x' ∧ _
      rw [mX6_tryPass_98, Tz.1.1 42 (by omega), R.cna, if_neg (nI_ge ha (by omega))]
      simp only [bit_t (show a < 31 by omega) hF31]
      have ca : w_cd (q_na m + 1) (w_up P w (a + 1)) (w + 1) = w_cd (q_na m + 1) P w * (q_na m + 1) + a + 1 := by
        rw [w_cd, up_s, cd_co (V := P) (fun k hk => up_o (by omega)), Nat.add_assoc]
      have hPa : WV (q_na m + 1) (w + 1) (w_up P w (a + 1)) := fun k hk => by
        by_cases e : k = w
        · subst e; rw [up_s]; omega
        · rw [up_o e]; exact hP k (by omega)
      have hnx : (w_cd (q_na m + 1) P w * (q_na m + 1) + a + 1) * (q_na m + 1) ^ d ≤ (w_cd (q_na m + 1) P w * (q_na m + 1) + (a + 1) + 1) * (q_na m + 1) ^ d := Nat.mul_le_mul_right _ (by omega)
      cases hbit : F.testBit a with
      | false =>
        rw [if_pos rfl]
        unfold mX6_tryPass_166
        rw [ad_1]
        refine ⟨z, rfl, z1, z2, z3.adv R hf hnx (fun K hK k1 k2 V hV v1 v2 => ?_)⟩
        exfalso
        have same := hpre V (w + 1) hV (w_up P w (a + 1)) hPa d (by omega) (by rw [ca]; exact v1) (by rw [ca]; exact v2)
        have hVw : V w = a + 1 := by rw [same w (by omega), up_s]
        obtain ⟨o1, o2⟩ := (fe_ok R hf hV.1).mp hV.2.2 w hwn (by omega)
        rw [show V w - 1 = a from by omega] at o1 o2
        have := (F3 a ha).mpr ⟨o1, fun v hv hne => by
          have e : V v = P v := by rw [same v (by omega), up_o (by omega)]
          obtain ⟨q1, q2⟩ := o2 v hv (by rw [e]; exact hne)
          exact ⟨q1, fun e2 => q2 (by rw [e, e2, hVw])⟩⟩
        rw [hbit] at this
        cases this
      | true =>
        rw [if_neg (by decide), gIn_nI (by omega) (by omega), cl_n (by omega), mlet_s]
        obtain ⟨f1, f2⟩ := (F3 a ha).mp hbit
        have Fa : PF z (wr z 28 w (nI a)) := ⟨fun k _ k2 _ => wr_cell _ _ _ k2, fun j _ _ _ => by rw [wr_cell _ _ _ (by decide)]⟩
        have ga : q_mk (w_g (w_up P w (a + 1))) (w + 1) = q_mk (w_g P) w + 2 ^ w := by
          rw [q_mk, show w_g (w_up P w (a + 1)) w = true from by unfold w_g; rw [up_s]; rfl, mk_cong (g := w_g P) (fun k hk => by unfold w_g; rw [up_o (by omega)])]
          rfl
        have va : fb_ct (w_mv m f (w_up P w (a + 1))) (w + 1) = fb_ct (w_mv m f P) w + (if q_co (m 15) (f + w) = true ∧ m 15 (f + w) ≠ nI a then 1 else 0) := by
          rw [fb_ct_succ, fb_ct_cong (q := w_mv m f P) (fun k hk => by unfold w_mv; rw [up_o (by omega)])]
          congr 1
          unfold w_mv
          rw [up_s, wv_s (by omega), Nat.add_sub_cancel, decide_eq_true (show a + 1 ≠ 0 by omega), Bool.true_and]
          cases q_co (m 15) (f + w) with
          | false => rfl
          | true =>
            rw [Bool.true_and]
            by_cases e : m 15 (f + w) = nI a
            · rw [decide_eq_false (show ¬ nI a ≠ m 15 (f + w) from fun z => z e.symm), if_neg (by decide), if_neg (fun z => z.2 e)]
            · rw [decide_eq_true (show nI a ≠ m 15 (f + w) from fun z => e z.symm), if_pos rfl, if_pos ⟨rfl, e⟩]
        obtain ⟨t, t1, t2, t3, t4⟩ := ih (w + 1) (by omega) fu (by omega) (w_up P w (a + 1)) (wr z 28 w (nI a)) (Tz.fr Fa) hPa (fun k hk hne => by
            by_cases e : k = w
            · subst e
              rw [up_s, Nat.add_sub_cancel]
              refine ⟨f1, fun v hv hvn => ?_⟩
              rw [up_o (by omega)] at hvn ⊢
              exact f2 v hv hvn
            · rw [up_o e] at hne ⊢
              obtain ⟨b1, b2⟩ := hFe k (by omega) hne
              refine ⟨b1, fun v hv hvn => ?_⟩
              rw [up_o (by omega)] at hvn ⊢
              exact b2 v hv hvn) (fun k hk => by
            by_cases e : k = w
            · subst e; rw [wr_same, up_s, wc_s (by omega), Nat.add_sub_cancel]
            · rw [wr_slot _ _ _ e, up_o e, z2 k (by omega)]; exact h28 k (by omega)) (by
            rw [ca]
            obtain ⟨W, b1, b2, b3, b4, b5, b6, b7⟩ := z3
            refine ⟨W, b1, ?_, ?_, ?_, fun k hk => ?_, b6, b7⟩
            · rw [wr_cell _ _ _ (by decide)]; exact b2
            · rw [wr_cell _ _ _ (by decide)]; exact b3
            · rw [wr_cell _ _ _ (by decide)]; exact b4
            · rw [wr_cell _ _ _ (by decide)]; exact b5 k hk)
        rw [ga, va] at t1
        rw [ca] at t4
        have hend : ∃ x', mX6_tryPass_166 (mX6_tryPass fu) (mX6_tryPass_98 (mX6_tryPass fu) u) (nI w) (nI (q_mk (w_g P) w)) (nI (fb_ct (w_mv m f P) w)) (nI F) (c 12 (f + w)) (nI a) t = mX6_tryPass_98 (mX6_tryPass fu) u (nI w) (nI (q_mk (w_g P) w)) (nI (fb_ct (w_mv m f P) w)) (nI F) (c 12 (f + w)) (nI (a + 1)) x' ∧ PF x x' ∧ (∀ k, k < w → x' 28 k = x 28 k) ∧ SI m law f cc ((w_cd (q_na m + 1) P w * (q_na m + 1) + (a + 1) + 1) * (q_na m + 1) ^ d) x' := by
          refine ⟨t, by unfold mX6_tryPass_166; rw [ad_1], z1.tr (Fa.tr t2), fun k hk => by rw [t3 k (by omega), wr_slot _ _ _ (by omega), z2 k hk], ?_⟩
          rw [show w_cd (q_na m + 1) P w * (q_na m + 1) + (a + 1) + 1 = w_cd (q_na m + 1) P w * (q_na m + 1) + a + 1 + 1 from by omega]
          exact t4
        unfold mX6_tryPass_154 mX6_tryPass_163
        rw [or_bit (by omega) hml, ad_1, ad_1]
        rcases co_m4 R (p := f + w) (by omega) with ⟨w1, w2, w3⟩ | ⟨w1, w2, w3, w4⟩
        · rw [w1, if_neg (by rintro ⟨z, _⟩; cases z), Nat.add_zero (fb_ct (w_mv m f P) w)] at t1
          rw [w3] at hend ⊢
          rw [if_pos rfl, t1, bdh_s]
          exact hend
        · rw [if_neg (by rw [w4, nz_m1 (by omega)]; exact id)]
          by_cases e : q_ac (m 15) (f + w) = a
          · rw [if_neg (by rintro ⟨_, z⟩; exact z (by rw [w3, e])), Nat.add_zero (fb_ct (w_mv m f P) w)] at t1
            rw [if_pos (by rw [w4, e]), t1, bdh_s]
            exact hend
          · rw [if_pos ⟨w1, by rw [w3, ne_eq, nz_eq (by omega) (by omega)]; exact e⟩] at t1
            rw [if_neg (by rw [w4, nz_eq (by omega) (by omega)]; exact e), t1, bdh_s]
            exact hend
end EV
