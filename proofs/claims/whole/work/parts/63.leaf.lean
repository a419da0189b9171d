/-! PURE LAYER 3: the small methods over a state -/
theorem fu_lt {n : Nat} (h : n < 100000) : n < FU := h
/-- a loop whose state at turn i is S i -/
theorem lo_v {α β : Type} (L : Nat → Nat → α → β) (K : β) (S : Nat → α) (N : Nat)
    (hs : ∀ n, L (n + 1) N (S N) = K)
    (hn : ∀ n i, i < N → L (n + 1) i (S i) = L n (i + 1) (S (i + 1))) : ∀ n i, i ≤ N → N - i < n → L n i (S i) = K := by
  intro n
  induction n with
  | zero => intro i _ h; omega
  | succ n ih =>
    intro i hi hf
    by_cases h : i = N
    · subst h; exact hs n
    · rw [hn n i (by omega)]
      exact ih (i + 1) (by omega) (by omega)
section EV
variable {c m : Mm}
theorem num42 (R : RW c m) {a j : Nat} (ha : a < q_na m) (hj : j < 3) : mX2_number_42 c (nI a) (nI j) = some (nI (q_an m a j)) := by
  have h1 := R.na
  unfold mX2_number_42
  rw [gIn_nI (by omega) (by omega), gIn_nI (by omega) (by omega), cl_n (by omega), cl_n (by omega), (R.ant ha hj).2]
theorem num31 (R : RW c m) {a j : Nat} (ha : a < q_ns m) (hj : j < 5) : mX2_number_31 c (nI a) (nI j) = some (nI (q_sa m a j)) := by
  have h1 := R.ns
  unfold mX2_number_31
  rw [gIn_nI (by omega) (by omega), gIn_nI (by omega) (by omega), cl_n (by omega), cl_n (by omega), (R.sat ha hj).2]
theorem num37 (R : RW c m) {a j : Nat} (ha : a < q_ng m) (hj : j < 2) : mX2_number_37 c (nI a) (nI j) = some (nI (q_st m a j)) := by
  have h1 := R.ng
  unfold mX2_number_37
  rw [gIn_nI (by omega) (by omega), gIn_nI (by omega) (by omega), cl_n (by omega), cl_n (by omega), (R.sta ha hj).2]
theorem isOut_c (R : RW c m) {a : Nat} (ha : a < 4) : mX8_isOut c (nI a) = some (bI (decide (q_of (m 15) a ≤ q_ot (m 15) a))) := by
  obtain ⟨f, t, c1, c2, c3, c4, c5⟩ := R.cou ha
  unfold mX8_isOut
  simp (disch := omega) only [li_0, li_1, li_2, li_3, li_4, li_5, li_6, li_24, li_32, li_59, li_60, li_240, nI_add, pk_mul, gIn_nI, cl_n, mlet_s, bd1_s, bdh_s, bd2_s, nz_lt, nz_le, nz_eq, if_true, if_false, Nat.mul_zero, Nat.zero_add, Nat.add_zero, bd1_ite, bI_if, bI_ifn, c1, c2]
  split
  all_goals first
    | (rw [decide_eq_true (by omega)]; rfl)
    | (rw [decide_eq_false (by omega)]; rfl)
    | (exfalso; omega)
theorem fits_c (R : RW c m) {p a : Nat} (hp : p < q_np m) (ha : a < q_na m) : mX4_fits c (nI p) (nI a) = some (bI (q_ft m (m 15) p a)) := by
  have h0 := R.np; have h1 := R.na; have h2 := R.ns; have h3 := R.ng
  obtain ⟨e1, e2, e3, e4, e5, e6⟩ := R.cpa hp
  obtain ⟨b1, b2, b3, b4, b5, b6⟩ := R.pb hp
  obtain ⟨f, t, c1, c2, c3, c4, c5⟩ := R.cou (a := a) (by omega)
  have n0 := num42 R ha (j := 0) (by omega)
  have n1 := num42 R ha (j := 1) (by omega)
  have s2 := num31 R b3 (j := 2) (by omega)
  obtain ⟨x1, x2, x3⟩ := R.ab ha
  have y2 := (R.sb b3).2.2.2.1
  unfold mX4_fits mX4_fits_99 mX7_takes mX7_takes_28 mX8_isOut
  simp (disch := omega) only [li_0, li_1, li_2, li_3, li_4, li_5, li_6, li_24, li_32, li_59, li_60, li_240, nI_add, pk_mul, gIn_nI, cl_n, mlet_s, bd1_s, bdh_s, bd2_s, nz_lt, nz_le, nz_eq, if_true, if_false, Nat.mul_zero, Nat.zero_add, Nat.add_zero, bd1_ite, bI_if, bI_ifn, e1, e2, e3, e4, c1, c2, n0, n1, s2]
  unfold q_ft
  repeat' split
  all_goals first
    | (rw [decide_eq_true (by omega)]; rfl)
    | (rw [decide_eq_false (by omega)]; rfl)
    | (exfalso; omega)
theorem tog_m (R : RW c m) {p q a : Nat} (hp : p < q_np m) (hq : q < q_np m) (ha : a < q_na m) : mX11_together m (nI p) (nI q) (nI a) = some (bI (q_tg m p q a)) := by
  have h0 := R.np; have h1 := R.na; have h2 := R.ns; have h3 := R.ng
  obtain ⟨e1, e2, e3, e4, e5⟩ := R.pas hp
  obtain ⟨b1, b2, b3, b4, b5, b6⟩ := R.pb hp
  obtain ⟨d1, d2, d3, d4, d5⟩ := R.pas hq
  obtain ⟨g1, g2, g3, g4, g5, g6⟩ := R.pb hq
  have a2 := (R.ant ha (j := 2) (by omega)).1
  obtain ⟨x1, x2, x3⟩ := R.ab ha
  unfold mX11_together mX11_together_48
  simp (disch := omega) only [li_0, li_1, li_2, li_3, li_4, li_5, li_6, li_24, li_32, li_59, li_60, li_240, nI_add, pk_mul, gIn_nI, cl_n, mlet_s, bd1_s, bdh_s, bd2_s, nz_lt, nz_le, nz_eq, if_true, if_false, Nat.mul_zero, Nat.zero_add, Nat.add_zero, bd1_ite, bI_if, bI_ifn, e1, e2, d1, d2, a2, su_lt, su_le]
  unfold q_tg
  repeat' split
  all_goals first
    | (rw [decide_eq_true (by omega)]; rfl)
    | (rw [decide_eq_false (by omega)]; rfl)
    | (exfalso; omega)
theorem ov_m (R : RW c m) {p q : Nat} (hp : p < q_np m) (hq : q < q_np m) : mX11_overlap m (nI p) (nI q) = some (bI (q_ov m p q)) := by
  have h0 := R.np
  obtain ⟨e1, e2, e3, e4, e5⟩ := R.pas hp
  obtain ⟨b1, b2, b3, b4, b5, b6⟩ := R.pb hp
  obtain ⟨d1, d2, d3, d4, d5⟩ := R.pas hq
  obtain ⟨g1, g2, g3, g4, g5, g6⟩ := R.pb hq
  unfold mX11_overlap
  simp (disch := omega) only [li_0, li_1, li_2, li_3, li_4, li_5, li_6, li_24, li_32, li_59, li_60, li_240, nI_add, pk_mul, gIn_nI, cl_n, mlet_s, bd1_s, bdh_s, bd2_s, nz_lt, nz_le, nz_eq, if_true, if_false, Nat.mul_zero, Nat.zero_add, Nat.add_zero, bd1_ite, bI_if, bI_ifn, e1, e2, d1, d2]
  unfold q_ov
  repeat' split
  all_goals first
    | (rw [decide_eq_true (by omega)]; rfl)
    | (rw [decide_eq_false (by omega)]; rfl)
    | (exfalso; omega)
theorem tog_c (R : RW c m) {p q a : Nat} (hp : p < q_np m) (hq : q < q_np m) (hne : p ≠ q) (ha : a < q_na m) : mX4_goTogether c (nI p) (nI q) (nI a) = some (bI (q_tg m p q a)) := by
  have h0 := R.np; have h1 := R.na; have h2 := R.ns; have h3 := R.ng
  obtain ⟨e1, e2, e3, e4, e5, e6⟩ := R.cpa hp
  obtain ⟨b1, b2, b3, b4, b5, b6⟩ := R.pb hp
  obtain ⟨d1, d2, d3, d4, d5, d6⟩ := R.cpa hq
  obtain ⟨g1, g2, g3, g4, g5, g6⟩ := R.pb hq
  have n2 := num42 R ha (j := 2) (by omega)
  obtain ⟨x1, x2, x3⟩ := R.ab ha
  unfold mX4_goTogether mJ9_min_7cf53 mJ9_max_7cf53
  unfold q_tg
  rcases Nat.lt_or_ge p q with h | h
  · have hs := R.srt (p := p) (q := q) (by omega) hq
    have t1 : ¬ q < p := by omega
    simp (disch := omega) only [li_0, li_1, li_2, li_3, li_4, li_5, li_6, li_24, li_32, li_59, li_60, li_240, nI_add, pk_mul, gIn_nI, cl_n, mlet_s, bd1_s, bdh_s, bd2_s, nz_lt, nz_le, nz_eq, if_true, if_false, Nat.mul_zero, Nat.zero_add, Nat.add_zero, bd1_ite, bI_if, bI_ifn, e1, e2, d1, d2, n2, su_lt, su_le, h, t1]
    repeat' split
    all_goals first
    | (rw [decide_eq_true (by omega)]; rfl)
    | (rw [decide_eq_false (by omega)]; rfl)
    | (exfalso; omega)
  · have hs := R.srt (p := q) (q := p) (by omega) hp
    have t1 : ¬ p < q := by omega
    have t2 : q < p := by omega
    simp (disch := omega) only [li_0, li_1, li_2, li_3, li_4, li_5, li_6, li_24, li_32, li_59, li_60, li_240, nI_add, pk_mul, gIn_nI, cl_n, mlet_s, bd1_s, bdh_s, bd2_s, nz_lt, nz_le, nz_eq, if_true, if_false, Nat.mul_zero, Nat.zero_add, Nat.add_zero, bd1_ite, bI_if, bI_ifn, e1, e2, d1, d2, n2, su_lt, su_le, t2, t1]
    repeat' split
    all_goals first
    | (rw [decide_eq_true (by omega)]; rfl)
    | (rw [decide_eq_false (by omega)]; rfl)
    | (exfalso; omega)
theorem ov_c (R : RW c m) {p q : Nat} (hp : p < q_np m) (hq : q < q_np m) : mX4_shareSatAndSlot c (nI p) (nI q) = some (bI (decide (q_wh m p = q_wh m q) && q_ov m p q)) := by
  have h0 := R.np; have h2 := R.ns
  obtain ⟨e1, e2, e3, e4, e5, e6⟩ := R.cpa hp
  obtain ⟨b1, b2, b3, b4, b5, b6⟩ := R.pb hp
  obtain ⟨d1, d2, d3, d4, d5, d6⟩ := R.cpa hq
  obtain ⟨g1, g2, g3, g4, g5, g6⟩ := R.pb hq
  unfold mX4_shareSatAndSlot
  simp (disch := omega) only [li_0, li_1, li_2, li_3, li_4, li_5, li_6, li_24, li_32, li_59, li_60, li_240, nI_add, pk_mul, gIn_nI, cl_n, mlet_s, bd1_s, bdh_s, bd2_s, nz_lt, nz_le, nz_eq, if_true, if_false, Nat.mul_zero, Nat.zero_add, Nat.add_zero, bd1_ite, bI_if, bI_ifn, e1, e2, e3, d1, d2, d3]
  unfold q_ov
  rw [← Bool.decide_and]
  repeat' split
  all_goals first
    | (rw [decide_eq_true (by omega)]; rfl)
    | (rw [decide_eq_false (by omega)]; rfl)
    | (exfalso; omega)
/-- what speaks against p on a beside q on b -/
def q_cl (m : Mm) (p a q b : Nat) : Nat := if a = b ∧ q_tg m p q a = false then 3 else if (decide (q_wh m p = q_wh m q) && q_ov m p q) = true then 4 else 0
theorem clash_c (R : RW c m) {p q a b : Nat} (hp : p < q_np m) (hq : q < q_np m) (hne : p ≠ q) (ha : a < q_na m) (hb : b < q_na m) : mX4_clash c (nI p) (nI a) (nI q) (nI b) = some (nI (q_cl m p a q b)) := by
  have h1 := R.na
  unfold mX4_clash mX4_clash_18 q_cl
  rw [tog_c R hp hq hne ha, ov_c R hp hq]
  simp (disch := omega) only [li_0, li_1, li_2, li_3, li_4, li_5, li_6, li_24, li_32, li_59, li_60, li_240, nI_add, pk_mul, gIn_nI, cl_n, mlet_s, bd1_s, bdh_s, bd2_s, nz_lt, nz_le, nz_eq, if_true, if_false, Nat.mul_zero, Nat.zero_add, Nat.add_zero, bd1_ite, bI_if, bI_ifn]
  by_cases hab : a = b
  · cases ht : q_tg m p q a <;> cases ho : (decide (q_wh m p = q_wh m q) && q_ov m p q) <;> simp [hab, bI, nI]
  · cases ho : (decide (q_wh m p = q_wh m q) && q_ov m p q) <;> simp [hab, bI, nI]
/-! contacts -/
theorem cb_c (R : RW c m) : mX4_contactBits c = some (nI (q_mk (q_co (m 15)) (q_np m))) := by
  have h0 := R.np
  refine lo_v (fun n i x => mX4_contactBits_4 c n x (nI i)) _ (fun i => nI (q_mk (q_co (m 15)) i)) (q_np m) (fun n => ?_) (fun n i hi => ?_) FU 0 (by omega) (fu_lt (by omega))
  · show mX4_contactBits_4 c (n + 1) _ _ = _
    rw [mX4_contactBits_4, R.cnp, if_pos (nI_le (Nat.le_refl _) (by omega))]
  · show mX4_contactBits_4 c (n + 1) _ _ = mX4_contactBits_4 c n _ _
    rw [mX4_contactBits_4, R.cnp, if_neg (nI_ge hi (by omega)), gIn_nI (by omega) (by omega), cl_n (by omega), q_mk]
    rcases R.now (p := i) (by omega) with ⟨e1, e2⟩ | ⟨a, ha, e1, e2⟩
    · rw [e2, if_pos rfl, show q_co (m 15) i = false from by simp [q_co, e1]]
      unfold mX4_contactBits_34
      rw [ad_1]
      rfl
    · have h1 := R.na
      rw [e2, if_neg (by rw [nz_m1 (by omega)]; exact id), show q_co (m 15) i = true from by
        rw [q_co, e1]; exact decide_eq_true (by rw [ne_eq, nz_m4 (by omega)]; exact id), mlet_s, or_bit (by omega) (mk_lt _ _)]
      unfold mX4_contactBits_34
      rw [ad_1]
      rfl
theorem co_m (R : RW c m) : mX11_contacts m = some (nI (fb_ct (q_co (m 15)) (q_np m))) := by
  have h0 := R.np
  refine lo_v (fun n i x => mX11_contacts_4 m n x (nI i)) _ (fun i => nI (fb_ct (q_co (m 15)) i)) (q_np m) (fun n => ?_) (fun n i hi => ?_) FU 0 (by omega) (fu_lt (by omega))
  · show mX11_contacts_4 m (n + 1) _ _ = _
    rw [mX11_contacts_4, R.mnp, if_pos (nI_le (Nat.le_refl _) (by omega))]
  · show mX11_contacts_4 m (n + 1) _ _ = mX11_contacts_4 m n _ _
    rw [mX11_contacts_4, R.mnp, if_neg (nI_ge hi (by omega)), gIn_nI (by omega) (by omega), cl_n (by omega), fb_ct_succ]
    unfold mX11_contacts_29
    by_cases e : m 15 i = -4
    · rw [if_pos e, mlet_s, show q_co (m 15) i = false from by simp [q_co, e], li_0, nI_add, ad_1]
      rfl
    · rw [if_neg e, mlet_s, show q_co (m 15) i = true from by simp [q_co, e], ad_1, ad_1]
      rfl
end EV
