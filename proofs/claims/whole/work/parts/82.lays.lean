/-! PURE LAYER 22: passes are laid -/
section EV
variable {c m c' m' x y : Mm}
theorem num49 (R : RSet 49 55 60 c m) {a j : Nat} (ha : a < q_ns m) (hj : j < 5) : mX2_number_49 c (nI a) (nI j) = some (nI (q_sa m a j)) := by
  have h1 := R.1.1
  unfold mX2_number_49
  rw [gIn_nI (by omega) (by omega), gIn_nI (by omega) (by omega), cl_n (by omega), cl_n (by omega), (R.2.2.2.1 a ha j hj).2]
theorem num55 (R : RSet 49 55 60 c m) {a j : Nat} (ha : a < q_ng m) (hj : j < 2) : mX2_number_55 c (nI a) (nI j) = some (nI (q_st m a j)) := by
  have h1 := R.1.2.1
  unfold mX2_number_55
  rw [gIn_nI (by omega) (by omega), gIn_nI (by omega) (by omega), cl_n (by omega), cl_n (by omega), (R.2.2.2.2.1 a ha j hj).2]
theorem sees_d (R : RSet 49 55 60 c m) {i j t : Nat} (hi : i < q_ns m) (hj : j < q_ng m) (ht : t ≤ 59) : mX7_sees_48 c (nI i) (nI j) (nI t) = some (bI (q_se m i j t)) := by
  obtain ⟨b1, b2, b3, b4, b5, b6, b7⟩ := R.2.2.2.2.2.2.1 i hi
  obtain ⟨g1, g2, g3⟩ := R.2.2.2.2.2.2.2.1 j hj
  unfold mX7_sees_48
  have n1 := num49 R hi (j := 1) (by omega)
  have n0 := num49 R hi (j := 0) (by omega)
  have m0 := num55 R hj (j := 0) (by omega)
  have m1 := num55 R hj (j := 1) (by omega)
  have fm : mJ9_floorMod_7cf53 c (nI t - nI (q_sa m i 0) - nI (q_st m j 0)) (nI (q_sa m i 1)) = some (nI ((t + 118 - q_sa m i 0 - q_st m j 0 + 20 * q_sa m i 1 - 118) % q_sa m i 1)) := by
    rw [su_3 ht b1 g1]
    exact fm_1 _ (by omega) _ (by omega) b2
  have hl : (t + 118 - q_sa m i 0 - q_st m j 0 + 20 * q_sa m i 1 - 118) % q_sa m i 1 < q_sa m i 1 := Nat.mod_lt _ (by omega)
  simp (disch := omega) only [li_0, li_1, li_2, li_3, li_4, li_5, li_6, li_24, li_32, li_59, li_60, li_240, nI_add, pk_mul, gIn_nI, cl_n, mlet_s, bd1_s, bdh_s, bd2_s, nz_lt, nz_le, nz_eq, if_true, if_false, Nat.mul_zero, Nat.zero_add, Nat.add_zero, bd1_ite, bI_if, bI_ifn, n1, n0, m0, m1]
  rw [fm]
  simp (disch := omega) only [li_0, li_1, li_2, li_3, li_4, li_5, li_6, li_24, li_32, li_59, li_60, li_240, nI_add, pk_mul, gIn_nI, cl_n, mlet_s, bd1_s, bdh_s, bd2_s, nz_lt, nz_le, nz_eq, if_true, if_false, Nat.mul_zero, Nat.zero_add, Nat.add_zero, bd1_ite, bI_if, bI_ifn]
  unfold q_se
  rw [show t + 118 - q_sa m i 0 - q_st m j 0 + 20 * q_sa m i 1 - 118 = t + 20 * q_sa m i 1 - q_sa m i 0 - q_st m j 0 from by omega] at *
  repeat' split
  all_goals first
    | (rw [decide_eq_true (by omega)]; rfl)
    | (rw [decide_eq_false (by omega)]; rfl)
    | (exfalso; omega)
theorem sees_e (R : RSet 49 55 60 c m) {i j t : Nat} (hi : i < q_ns m) (hj : j < q_ng m) (ht : t ≤ 59) : mX11_sees m (nI i) (nI j) (nI t) = some (bI (q_se m i j t)) := by
  obtain ⟨b1, b2, b3, b4, b5, b6, b7⟩ := R.2.2.2.2.2.2.1 i hi
  obtain ⟨g1, g2, g3⟩ := R.2.2.2.2.2.2.2.1 j hj
  have h2 := R.1.1; have h3 := R.1.2.1
  unfold mX11_sees mX11_sees_51 gNz
  have n1 := (R.2.2.2.1 i hi 1 (by omega)).1
  have n0 := (R.2.2.2.1 i hi 0 (by omega)).1
  have m0 := (R.2.2.2.2.1 j hj 0 (by omega)).1
  have m1 := (R.2.2.2.2.1 j hj 1 (by omega)).1
  rw [Nat.add_zero] at n0 m0
  have e1 : (5 : Int32) * nI i + 1 = nI (5 * i + 1) := by rw [mu_5, ad_1]
  have e2 : (2 : Int32) * nI j + 1 = nI (2 * j + 1) := by rw [mu_2, ad_1]
  have fm : (if 0 ≤ (nI t - nI (q_sa m i 0) - nI (q_st m j 0)) - (nI t - nI (q_sa m i 0) - nI (q_st m j 0)) / nI (q_sa m i 1) * nI (q_sa m i 1) then (nI t - nI (q_sa m i 0) - nI (q_st m j 0)) - (nI t - nI (q_sa m i 0) - nI (q_st m j 0)) / nI (q_sa m i 1) * nI (q_sa m i 1) else (nI t - nI (q_sa m i 0) - nI (q_st m j 0)) - (nI t - nI (q_sa m i 0) - nI (q_st m j 0)) / nI (q_sa m i 1) * nI (q_sa m i 1) + nI (q_sa m i 1)) = nI ((t + 118 - q_sa m i 0 - q_st m j 0 + 20 * q_sa m i 1 - 118) % q_sa m i 1) := by
    rw [su_3 ht b1 g1]
    exact fm_2 _ (by omega) _ (by omega) b2
  have hl : (t + 118 - q_sa m i 0 - q_st m j 0 + 20 * q_sa m i 1 - 118) % q_sa m i 1 < q_sa m i 1 := Nat.mod_lt _ (by omega)
  rw [e1, e2, mu_5, mu_2]
  simp (disch := omega) only [gIn_nI, cl_n, mlet_s, n1, n0, m0, m1]
  rw [if_neg (nI_ne0 (by omega) (by omega))]
  have key : ∀ (x y z : Int32) (v : Nat), (if 0 ≤ x then x else y) = nI v → v < 2147483648 → (if 0 ≤ x then (if z ≤ x then some (0 : Int32) else some 1) else (if z ≤ y then some (0 : Int32) else some 1)) = if z ≤ nI v then some 0 else some 1 := by
    intro x y z v h _
    by_cases hx : 0 ≤ x
    · rw [if_pos hx] at h ⊢; rw [h]
    · rw [if_neg hx] at h ⊢; rw [h]
  rw [key _ _ _ _ fm (by omega)]
  simp (disch := omega) only [nz_le]
  unfold q_se
  rw [show t + 118 - q_sa m i 0 - q_st m j 0 + 20 * q_sa m i 1 - 118 = t + 20 * q_sa m i 1 - q_sa m i 0 - q_st m j 0 from by omega] at *
  repeat' split
  all_goals first
    | (rw [decide_eq_true (by omega)]; rfl)
    | (rw [decide_eq_false (by omega)]; rfl)
    | (exfalso; omega)
/-- what is laid stays, the draft's cells -/
def SD (c c' : Mm) : Prop := ∀ k, 49 ≤ k → k ≤ 65 → c' k = c k
def SM5 (m m' : Mm) : Prop := m' 2 = m 2 ∧ m' 3 = m 3 ∧ m' 4 = m 4 ∧ m' 5 = m 5
theorem SM5.q (h : SM5 m m') : q_ns m' = q_ns m ∧ q_ng m' = q_ng m ∧ q_na m' = q_na m ∧ q_sa m' = q_sa m ∧ q_st m' = q_st m ∧ q_an m' = q_an m := by
  obtain ⟨a1, a2, a3, a4⟩ := h
  refine ⟨?_, ?_, ?_, ?_, ?_, ?_⟩
  · unfold q_ns; rw [a4]
  · unfold q_ng; rw [a4]
  · unfold q_na; rw [a4]
  · funext i j; unfold q_sa; rw [a1]
  · funext i j; unfold q_st; rw [a2]
  · funext i j; unfold q_an; rw [a3]
theorem RSet.fd (R : RSet 49 55 60 c m) (hc : SD c c') (h : SM5 m m') : RSet 49 55 60 c' m' := by
  obtain ⟨a1, a2, a3, a5, a6, a7⟩ := h.q
  obtain ⟨⟨s1, s2, s3⟩, s4, s5, s6, s7, s8, s9, s10, s11⟩ := R
  unfold RSet
  rw [a1, a2, a3, a5, a6, a7, h.2.2.2, h.1, h.2.1, h.2.2.1, hc 49 (by omega) (by omega), hc 55 (by omega) (by omega), hc 60 (by omega) (by omega)]
  refine ⟨⟨s1, s2, s3⟩, s4, s5, fun i hi j hj => ?_, fun i hi j hj => ?_, fun i hi j hj => ?_, s9, s10, s11⟩
  · rw [hc (49 + 2 + i) (by omega) (by omega)]; exact s6 i hi j hj
  · rw [hc (55 + 2 + i) (by omega) (by omega)]; exact s7 i hi j hj
  · rw [hc (60 + 2 + i) (by omega) (by omega)]; exact s8 i hi j hj
/-- the last slot of a pass, on both sides -/
theorem run_j (R : RSet 49 55 60 c m) {i j t p q : Nat} {k7 : Int32 → Mm → Option Mm} {k15 : Int32 → Int32 → Mm → Option Mm} (hi : i < q_ns m) (hj : j < q_ng m) (hp : p < 24) : ∀ n e y, t ≤ e → e ≤ 59 → 59 - e < n → y 6 p = nI e → (∀ k, k ≠ 6 → y k = c k) → ∃ E y', t ≤ E ∧ E ≤ 59 ∧ mX5_append_34 n (nI i) (nI j) (nI p) y = mX5_append_80 (nI i) (nI j) (nI p) y' ∧ mX11_lays_103 k7 k15 n (nI t) (nI q) (nI i) (nI j) (nI e) m = mX11_lays_132 k7 k15 (nI t) (nI q) (nI i) (nI j) (nI E) m ∧ y' 6 p = nI E ∧ (∀ k, k ≠ 6 → y' k = c k) ∧ ∀ s, s ≠ p → y' 6 s = y 6 s := by
  intro n
  induction n with
  | zero => intro e y _ _ h; omega
  | succ n ih =>
    intro e y h1 h2 h3 h4 h5
    have Ry : RSet 49 55 60 y m := R.fd (fun k k1 k2 => h5 k (by omega)) ⟨rfl, rfl, rfl, rfl⟩
    rw [mX5_append_34, mX11_lays_103, gIn_nI (by omega) (by omega), gIn_nI (by omega) (by omega), gIn_nI (by omega) (by omega), gIn_nI (by omega) (by omega), cl_n (by omega), h4, ad_1, li_60]
    by_cases he : e + 1 < 60
    case neg =>
      rw [if_pos (nI_le (by omega) (by omega)), if_pos (nI_le (by omega) (by omega))]
      exact ⟨e, y, h1, h2, rfl, rfl, h4, h5, fun _ _ => rfl⟩
    rw [if_neg (nI_ge he (by omega)), if_neg (nI_ge he (by omega)), sees_d Ry hi hj (by omega), sees_e R hi hj (by omega), bd1_s, bd1_s]
    simp only [bI_if]
    cases hs : q_se m i j (e + 1) with
    | false =>
      rw [if_neg (by decide), if_neg (by decide)]
      exact ⟨e, y, h1, h2, rfl, rfl, h4, h5, fun _ _ => rfl⟩
    | true =>
      rw [if_pos rfl, if_pos rfl, mlet_s]
      obtain ⟨E, y', e1, e2, e3, e4, e5, e6, e7⟩ := ih (e + 1) (wr y 6 p (nI (e + 1))) (by omega) (by omega) (by omega) (wr_same _ _ _ _) (fun k hk => by rw [wr_cell _ _ _ hk, h5 k hk])
      exact ⟨E, y', e1, e2, e3, e4, e5, e6, fun s hs => by rw [e7 s hs, wr_slot _ _ _ hs]⟩
/-- what comes down of a pass -/
def q_rr (b t E s : Nat) : Nat := (2 + b) * (1 + min (s - t) (E - s))
def q_vv (b t E : Nat) : Nat → Nat := fb_sm (fun k => q_rr b t E (t + k))
theorem rr_b {b t E s : Nat} (hb : b ≤ 1) (hE : E ≤ 59) : q_rr b t E s ≤ 180 := by
  unfold q_rr
  calc (2 + b) * (1 + min (s - t) (E - s)) ≤ 3 * 60 := Nat.mul_le_mul (by omega) (by omega)
    _ = 180 := rfl
theorem vv_b {b t E n : Nat} (hb : b ≤ 1) (hE : E ≤ 59) (hn : n ≤ 60) : q_vv b t E n ≤ 10800 := by
  have := fb_sm_bound (f := fun k => q_rr b t E (t + k)) (c := 180) (n := n) (fun k _ => rr_b hb hE)
  have h2 : n * 180 ≤ 60 * 180 := Nat.mul_le_mul_right _ hn
  unfold q_vv
  omega
theorem vv_1 {b t E n : Nat} (hn : 0 < n) : 1 ≤ q_vv b t E n := by
  have := fb_sm_part (fun k => q_rr b t E (t + k)) hn
  have h2 : 1 ≤ q_rr b t E (t + 0) := by
    unfold q_rr
    calc 1 ≤ (2 + b) * 1 := by omega
      _ ≤ (2 + b) * (1 + min (t + 0 - t) (E - (t + 0))) := Nat.mul_le_mul_left _ (by omega)
  unfold q_vv
  omega
/-- a pass more, on the class's side -/
theorem app_c (R : RSet 49 55 60 c m) {i j t p E : Nat} (hi : i < q_ns m) (hj : j < q_ng m) (hp : p < 24) (h1 : t ≤ E) (h2 : E ≤ 59) (e5 : c 5 p = nI t) (e6 : c 6 p = nI E) (e4 : c 4 6 = nI p) : ∃ c', mX5_append_80 (nI i) (nI j) (nI p) c = some c' ∧ (∀ k, k ≠ 4 → k ≠ 7 → k ≠ 8 → k ≠ 9 → k ≠ 10 → c' k = c k) ∧ (∀ s, s ≠ 6 → c' 4 s = c 4 s) ∧ c' 4 6 = nI (p + 1) ∧ (∀ s, s ≠ p → c' 7 s = c 7 s ∧ c' 8 s = c 8 s ∧ c' 9 s = c 9 s ∧ c' 10 s = c 10 s) ∧ c' 7 p = nI i ∧ c' 8 p = nI j ∧ c' 9 p = nI (q_vv (q_sa m i 2) t E (E - t + 1)) ∧ c' 10 p = nI (2 + q_sa m i 2) := by
  have hb := (R.2.2.2.2.2.2.1 i hi).2.2.2.1
  unfold mX5_append_80
  simp (disch := omega) only [gIn_nI, cl_n, mlet_s]
  generalize hc1 : wr (wr c 7 p (nI i)) 8 p (nI j) = c1
  have f1 : ∀ k, k ≠ 7 → k ≠ 8 → c1 k = c k := fun k k1 k2 => by rw [← hc1, wr_cell _ _ _ k2, wr_cell _ _ _ k1]
  have R1 : RSet 49 55 60 c1 m := R.fd (fun k k1 k2 => f1 k (by omega) (by omega)) ⟨rfl, rfl, rfl, rfl⟩
  have n2 : mX2_number_49 c1 (nI i) 2 = some (nI (q_sa m i 2)) := num49 R1 hi (j := 2) (by omega)
  rw [n2, bd1_s]
  have hst : (if nI (q_sa m i 2) = 0 then mX5_append_119 (nI p) 2 (nI p) c1 else mX5_append_119 (nI p) 3 (nI p) c1) = mX5_append_119 (nI p) (nI (2 + q_sa m i 2)) (nI p) c1 := by
    rcases (show q_sa m i 2 = 0 ∨ q_sa m i 2 = 1 by omega) with e | e <;> rw [e] <;> rfl
  rw [hst]
  unfold mX5_append_119
  simp (disch := omega) only [gIn_nI, cl_n, mlet_s]
  generalize hc2 : wr (wr c1 10 p (nI (2 + q_sa m i 2))) 9 p 0 = c2
  have f2 : ∀ k, k ≠ 7 → k ≠ 8 → k ≠ 9 → k ≠ 10 → c2 k = c k := fun k k1 k2 k3 k4 => by rw [← hc2, wr_cell _ _ _ k3, wr_cell _ _ _ k4, f1 k k1 k2]
  have g7 : c2 7 = upd (c 7) p (nI i) := by rw [← hc2, wr_cell _ _ _ (by decide), wr_cell _ _ _ (by decide), ← hc1, wr_cell _ _ _ (by decide), wr_row]
  have g8 : c2 8 = upd (c 8) p (nI j) := by rw [← hc2, wr_cell _ _ _ (by decide), wr_cell _ _ _ (by decide), ← hc1, wr_row, wr_cell _ _ _ (by decide)]
  have g10 : c2 10 = upd (c 10) p (nI (2 + q_sa m i 2)) := by rw [← hc2, wr_cell _ _ _ (by decide), wr_row, f1 10 (by decide) (by decide)]
  have g9 : c2 9 = upd (c 9) p (nI 0) := by rw [← hc2, wr_row, wr_cell _ _ _ (by decide), f1 9 (by decide) (by decide)]; rfl
  rw [f2 5 (by decide) (by decide) (by decide) (by decide), e5]
  refine lo_up (fun n k y => mX5_append_137 n (nI p) (nI (t + k)) y) (fun z => ∃ c', z = some c' ∧ (∀ k, k ≠ 4 → k ≠ 7 → k ≠ 8 → k ≠ 9 → k ≠ 10 → c' k = c k) ∧ (∀ s, s ≠ 6 → c' 4 s = c 4 s) ∧ c' 4 6 = nI (p + 1) ∧ (∀ s, s ≠ p → c' 7 s = c 7 s ∧ c' 8 s = c 8 s ∧ c' 9 s = c 9 s ∧ c' 10 s = c 10 s) ∧ c' 7 p = nI i ∧ c' 8 p = nI j ∧ c' 9 p = nI (q_vv (q_sa m i 2) t E (E - t + 1)) ∧ c' 10 p = nI (2 + q_sa m i 2)) (fun k y => (∀ s, s ≠ 9 → y s = c2 s) ∧ (∀ s, s ≠ p → y 9 s = c 9 s) ∧ y 9 p = nI (q_vv (q_sa m i 2) t E k)) (E - t + 1) (fun n y hP => ?_) (fun n k y hk hP => ?_) FU 0 c2 (by omega) (fu_lt (by omega)) ⟨fun _ _ => rfl, fun s hs => by rw [g9, upd_ne _ _ hs], by rw [g9, upd_eq]; rfl⟩
  · obtain ⟨p1, p2, p3⟩ := hP
    refine ⟨wr y 4 6 (nI (p + 1)), ?_, fun k k1 k2 k3 k4 k5 => by rw [wr_cell _ _ _ k1, p1 k k4, f2 k k2 k3 k4 k5], fun s hs => by rw [wr_slot _ _ _ hs, p1 4 (by decide), f2 4 (by decide) (by decide) (by decide) (by decide)], wr_same _ _ _ _, fun s hs => ⟨?_, ?_, ?_, ?_⟩, ?_, ?_, ?_, ?_⟩
    · show mX5_append_137 (n + 1) _ _ _ = _
      rw [mX5_append_137, gIn_nI hp (by omega), cl_n (by omega), p1 6 (by decide), f2 6 (by decide) (by decide) (by decide) (by decide), e6, if_pos (by rw [nz_lt (by omega) (by omega)]; omega), p1 4 (by decide), f2 4 (by decide) (by decide) (by decide) (by decide), e4, ad_1, mlet_s]
    · rw [wr_cell _ _ _ (by decide), p1 7 (by decide), g7, upd_ne _ _ hs]
    · rw [wr_cell _ _ _ (by decide), p1 8 (by decide), g8, upd_ne _ _ hs]
    · rw [wr_cell _ _ _ (by decide), p2 s hs]
    · rw [wr_cell _ _ _ (by decide), p1 10 (by decide), g10, upd_ne _ _ hs]
    · rw [wr_cell _ _ _ (by decide), p1 7 (by decide), g7, upd_eq]
    · rw [wr_cell _ _ _ (by decide), p1 8 (by decide), g8, upd_eq]
    · rw [wr_cell _ _ _ (by decide), p3]
    · rw [wr_cell _ _ _ (by decide), p1 10 (by decide), g10, upd_eq]
  · obtain ⟨p1, p2, p3⟩ := hP
    have hr : mX5_rateIn y (nI p) (nI (t + k)) = some (nI (q_rr (q_sa m i 2) t E (t + k))) := by
      unfold mX5_rateIn mJ9_min_7cf53 q_rr
      rw [gIn_nI hp (by omega), gIn_nI hp (by omega), gIn_nI hp (by omega), cl_n (by omega), p1 5 (by decide), p1 6 (by decide), p1 10 (by decide), f2 5 (by decide) (by decide) (by decide) (by decide), f2 6 (by decide) (by decide) (by decide) (by decide), e5, e6, g10, upd_eq, pk_sub (by omega), pk_sub (by omega)]
      simp (disch := omega) only [nz_lt]
      by_cases hlt : E - (t + k) < t + k - t
      · rw [if_pos hlt, bd1_s, ad_i1, pk_mul, Nat.min_eq_right (by omega)]
      · rw [if_neg hlt, bd1_s, ad_i1, pk_mul, Nat.min_eq_left (by omega)]
    refine ⟨wr y 9 p (nI (q_vv (q_sa m i 2) t E (k + 1))), ?_, fun s hs => by rw [wr_cell _ _ _ hs, p1 s hs], fun s hs => by rw [wr_slot _ _ _ hs, p2 s hs], wr_same _ _ _ _⟩
    show mX5_append_137 (n + 1) _ _ _ = mX5_append_137 n _ _ _
    rw [mX5_append_137, gIn_nI hp (by omega), gIn_nI hp (by omega), cl_n (by omega), p1 6 (by decide), f2 6 (by decide) (by decide) (by decide) (by decide), e6, if_neg (by rw [nz_lt (by omega) (by omega)]; omega), hr, bd1_s, gIn_nI hp (by omega), p3, nI_add, mlet_s, ad_1]
    rfl
/-- a pass more, on the reference's side -/
theorem app_m (R : RSet 49 55 60 c m) {i j t p E q : Nat} {k7 : Int32 → Mm → Option Mm} {k15 : Int32 → Int32 → Mm → Option Mm} (hi : i < q_ns m) (hp : p < 24) (h1 : t ≤ E) (h2 : E ≤ 59) (e4 : m 0 16 = nI p) : ∃ m', mX11_lays_132 k7 k15 (nI t) (nI q) (nI i) (nI j) (nI E) m = k15 (nI t) (nI (q + 1)) m' ∧ (∀ k, k ≠ 0 → k ≠ 10 → k ≠ 11 → k ≠ 12 → k ≠ 13 → k ≠ 14 → m' k = m k) ∧ (∀ s, s ≠ 16 → m' 0 s = m 0 s) ∧ m' 0 16 = nI (p + 1) ∧ (∀ s, s ≠ p → m' 10 s = m 10 s ∧ m' 11 s = m 11 s ∧ m' 12 s = m 12 s ∧ m' 13 s = m 13 s ∧ m' 14 s = m 14 s) ∧ m' 10 p = nI t ∧ m' 11 p = nI E ∧ m' 12 p = nI i ∧ m' 13 p = nI j ∧ m' 14 p = nI (q_vv (q_sa m i 2) t E (E - t + 1)) := by
  have hb := (R.2.2.2.2.2.2.1 i hi).2.2.2.1
  have hns := R.1.1
  unfold mX11_lays_132
  have gp : ∀ {α : Type} (X : Option α), gIn (nI p) 24 X = X := fun X => gIn_nI hp (by omega)
  simp (disch := decide) only [mlet_s, e4, wr_cell, gp, cl_n (show p < 2147483648 by omega)]
  generalize hm1 : wr (wr (wr (wr (wr m 10 p (nI t)) 11 p (nI E)) 12 p (nI i)) 13 p (nI j)) 14 p 0 = m1
  have f1 : ∀ k, k ≠ 10 → k ≠ 11 → k ≠ 12 → k ≠ 13 → k ≠ 14 → m1 k = m k := fun k k1 k2 k3 k4 k5 => by rw [← hm1, wr_cell _ _ _ k5, wr_cell _ _ _ k4, wr_cell _ _ _ k3, wr_cell _ _ _ k2, wr_cell _ _ _ k1]
  have g10 : m1 10 = upd (m 10) p (nI t) := by rw [← hm1, wr_cell _ _ _ (by decide), wr_cell _ _ _ (by decide), wr_cell _ _ _ (by decide), wr_cell _ _ _ (by decide), wr_row]
  have g11 : m1 11 = upd (m 11) p (nI E) := by rw [← hm1, wr_cell _ _ _ (by decide), wr_cell _ _ _ (by decide), wr_cell _ _ _ (by decide), wr_row, wr_cell _ _ _ (by decide)]
  have g12 : m1 12 = upd (m 12) p (nI i) := by rw [← hm1, wr_cell _ _ _ (by decide), wr_cell _ _ _ (by decide), wr_row, wr_cell _ _ _ (by decide), wr_cell _ _ _ (by decide)]
  have g13 : m1 13 = upd (m 13) p (nI j) := by rw [← hm1, wr_cell _ _ _ (by decide), wr_row, wr_cell _ _ _ (by decide), wr_cell _ _ _ (by decide), wr_cell _ _ _ (by decide)]
  have g14 : m1 14 = upd (m 14) p (nI 0) := by rw [← hm1, wr_row, wr_cell _ _ _ (by decide), wr_cell _ _ _ (by decide), wr_cell _ _ _ (by decide), wr_cell _ _ _ (by decide)]; rfl
  refine lo_up (fun n k y => mX11_lays_187 k7 k15 n (nI t) (nI q) (nI i) (nI E) (nI k) y) (fun z => ∃ m', z = k15 (nI t) (nI (q + 1)) m' ∧ (∀ k, k ≠ 0 → k ≠ 10 → k ≠ 11 → k ≠ 12 → k ≠ 13 → k ≠ 14 → m' k = m k) ∧ (∀ s, s ≠ 16 → m' 0 s = m 0 s) ∧ m' 0 16 = nI (p + 1) ∧ (∀ s, s ≠ p → m' 10 s = m 10 s ∧ m' 11 s = m 11 s ∧ m' 12 s = m 12 s ∧ m' 13 s = m 13 s ∧ m' 14 s = m 14 s) ∧ m' 10 p = nI t ∧ m' 11 p = nI E ∧ m' 12 p = nI i ∧ m' 13 p = nI j ∧ m' 14 p = nI (q_vv (q_sa m i 2) t E (E - t + 1))) (fun k y => (∀ s, s ≠ 14 → y s = m1 s) ∧ (∀ s, s ≠ p → y 14 s = m 14 s) ∧ y 14 p = nI (q_vv (q_sa m i 2) t E k)) (E - t + 1) (fun n y hP => ?_) (fun n k y hk hP => ?_) FU 0 m1 (by omega) (fu_lt (by omega)) ⟨fun _ _ => rfl, fun s hs => by rw [g14, upd_ne _ _ hs], by rw [g14, upd_eq]; rfl⟩
  · obtain ⟨p1, p2, p3⟩ := hP
    refine ⟨wr y 0 16 (nI (p + 1)), ?_, fun k k0 k1 k2 k3 k4 k5 => by rw [wr_cell _ _ _ k0, p1 k k5, f1 k k1 k2 k3 k4 k5], fun s hs => by rw [wr_slot _ _ _ hs, p1 0 (by decide), f1 0 (by decide) (by decide) (by decide) (by decide) (by decide)], wr_same _ _ _ _, fun s hs => ⟨?_, ?_, ?_, ?_, ?_⟩, ?_, ?_, ?_, ?_, ?_⟩
    · show mX11_lays_187 _ _ (n + 1) _ _ _ _ _ _ = _
      rw [mX11_lays_187, pk_sub h1, if_pos (by rw [nz_lt (by omega) (by omega)]; omega), p1 0 (by decide), f1 0 (by decide) (by decide) (by decide) (by decide) (by decide), e4, ad_1, mlet_s]
      unfold mX11_lays_237
      rw [ad_1]
    · rw [wr_cell _ _ _ (by decide), p1 10 (by decide), g10, upd_ne _ _ hs]
    · rw [wr_cell _ _ _ (by decide), p1 11 (by decide), g11, upd_ne _ _ hs]
    · rw [wr_cell _ _ _ (by decide), p1 12 (by decide), g12, upd_ne _ _ hs]
    · rw [wr_cell _ _ _ (by decide), p1 13 (by decide), g13, upd_ne _ _ hs]
    · rw [wr_cell _ _ _ (by decide), p2 s hs]
    · rw [wr_cell _ _ _ (by decide), p1 10 (by decide), g10, upd_eq]
    · rw [wr_cell _ _ _ (by decide), p1 11 (by decide), g11, upd_eq]
    · rw [wr_cell _ _ _ (by decide), p1 12 (by decide), g12, upd_eq]
    · rw [wr_cell _ _ _ (by decide), p1 13 (by decide), g13, upd_eq]
    · rw [wr_cell _ _ _ (by decide), p3]
  · obtain ⟨p1, p2, p3⟩ := hP
    have y2 : y 2 = m 2 := by rw [p1 2 (by decide), f1 2 (by decide) (by decide) (by decide) (by decide) (by decide)]
    have y0 : y 0 16 = nI p := by rw [p1 0 (by decide), f1 0 (by decide) (by decide) (by decide) (by decide) (by decide), e4]
    have hr : mX11_rateOf y (nI i) (nI k) (nI (E - t + 1)) = some (nI (q_rr (q_sa m i 2) t E (t + k))) := by
      unfold mX11_rateOf q_rr
      rw [mlet_s, mu_5, ad_2, gIn_nI (by omega) (by omega), cl_n (by omega), y2, (R.2.2.2.1 i hi 2 (by omega)).1, li_1, pk_sub (by omega), pk_sub (by omega), li_2, nI_add, nI_add, nI_add, pk_mul, pk_mul]
      simp (disch := omega) only [nz_le]
      by_cases hlt : E - t + 1 - 1 - k ≤ k
      · rw [if_pos hlt, Nat.min_eq_right (by omega), show E - t + 1 - 1 - k = E - (t + k) from by omega]
      · rw [if_neg hlt, Nat.min_eq_left (by omega), show t + k - t = k from by omega]
    refine ⟨wr y 14 p (nI (q_vv (q_sa m i 2) t E (k + 1))), ?_, fun s hs => by rw [wr_cell _ _ _ hs, p1 s hs], fun s hs => by rw [wr_slot _ _ _ hs, p2 s hs], wr_same _ _ _ _⟩
    show mX11_lays_187 _ _ (n + 1) _ _ _ _ _ _ = mX11_lays_187 _ _ n _ _ _ _ _ _
    rw [mX11_lays_187, pk_sub h1, if_neg (by rw [nz_lt (by omega) (by omega)]; omega), y0, gIn_nI hp (by omega), ad_1, hr, bd1_s, gIn_nI hp (by omega), cl_n (by omega), p3, nI_add, mlet_s, ad_1]
    rfl
end EV
