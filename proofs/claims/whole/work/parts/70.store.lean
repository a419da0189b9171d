/-! PURE LAYER 10: stores -/
/-- what a pass brings down in a slot -/
def q_tm (m : Mm) (B : Nat → Bool) (i t p : Nat) : Nat := if (B p = true ∧ q_wh m p = i) ∧ q_fi m p ≤ t ∧ t ≤ q_la m p then q_rt m p t else 0
theorem tm_eq (m : Mm) (B : Nat → Bool) (i t p : Nat) : q_tm m B i t p = if (B p = true ∧ q_wh m p = i) ∧ q_fi m p ≤ t ∧ t ≤ q_la m p then q_rt m p t else 0 := rfl
def q_fl (m : Mm) (B : Nat → Bool) (i t : Nat) : Nat := fb_sm (q_tm m B i t) (q_np m)
/-- a store's step: what it has, what is lost, what came down, the first loss -/
def q_f1 (H F fl t : Nat) (s : Nat × Nat × Nat × Int32) : Nat × Nat × Nat × Int32 :=
  if H < s.1 + F - min fl (s.1 + F) then (H, s.2.1 + (s.1 + F - min fl (s.1 + F) - H), s.2.2.1 + min fl (s.1 + F), if s.2.2.2 = -4 then nI t else s.2.2.2)
  else (s.1 + F - min fl (s.1 + F), s.2.1, s.2.2.1 + min fl (s.1 + F), s.2.2.2)
def q_fs (H F : Nat) (fl : Nat → Nat) : Nat → Nat × Nat × Nat × Int32
  | 0 => (0, 0, 0, -4)
  | t + 1 => q_f1 H F (fl t) t (q_fs H F fl t)
theorem fs_b (H F : Nat) (fl : Nat → Nat) : ∀ t, (q_fs H F fl t).1 ≤ H ∧ (q_fs H F fl t).2.1 + (q_fs H F fl t).2.2.1 + (q_fs H F fl t).1 = t * F
  | 0 => ⟨Nat.zero_le _, by simp [q_fs]⟩
  | t + 1 => by
    obtain ⟨h1, h2⟩ := fs_b H F fl t
    rw [q_fs, Nat.add_mul, Nat.one_mul]
    unfold q_f1
    have : min (fl t) ((q_fs H F fl t).1 + F) ≤ (q_fs H F fl t).1 + F := Nat.min_le_right _ _
    split
    · constructor
      · exact Nat.le_refl _
      · simp only
        omega
    · constructor
      · simp only
        omega
      · simp only
        omega
theorem fs_cong {H F : Nat} {f g : Nat → Nat} : ∀ {t : Nat}, (∀ k, k < t → f k = g k) → q_fs H F f t = q_fs H F g t
  | 0, _ => rfl
  | t + 1, h => by rw [q_fs, q_fs, fs_cong (fun k hk => h k (by omega)), h t (by omega)]
section EV
variable {c m c' m' : Mm}
theorem RW.sm (R : RW c m) (h : ∀ k, k ≤ 16 → m' k = m k) : RW c m' ∧ SM m m' := by
  have hS : SM m m' := ⟨⟨h 2 (by decide), h 3 (by decide), h 4 (by decide), h 5 (by decide)⟩, ⟨h 10 (by decide), h 11 (by decide), h 12 (by decide), h 13 (by decide), h 14 (by decide)⟩, by rw [h 0 (by decide)]⟩
  exact ⟨R.fr0 (SC.rfl' c) hS rfl rfl rfl (h 15 (by decide)), hS⟩
theorem RW.sc (R : RW c m) (h : ∀ k, (k ≤ 14 ∨ 30 ≤ k ∧ k ≤ 47) → c' k = c k) : RW c' m :=
  R.fr0 ⟨fun k h1 h2 => h k (by omega), fun k h1 h2 => h k (by omega), by rw [h 4 (by omega)]⟩ (SM.rfl' m) (h 12 (by omega)) (h 13 (by omega)) (h 14 (by omega)) rfl
theorem rt_b (R : RW c m) {p t : Nat} (hp : p < q_np m) (h1 : q_fi m p ≤ t) (h2 : t ≤ q_la m p) : q_rt m p t ≤ 180 := by
  obtain ⟨b1, b2, b3, _⟩ := R.pb hp
  have y := (R.sb b3).2.2.2.1
  unfold q_rt
  calc (2 + q_sa m (q_wh m p) 2) * (1 + min (t - q_fi m p) (q_la m p - t)) ≤ 3 * 60 := Nat.mul_le_mul (by omega) (by omega)
    _ = 180 := rfl
theorem tm_b (R : RW c m) {B : Nat → Bool} {i t p : Nat} (hp : p < q_np m) : q_tm m B i t p ≤ 180 := by
  unfold q_tm
  split
  · rename_i h; exact rt_b R hp h.2.1 h.2.2
  · omega
theorem fl_b (R : RW c m) {B : Nat → Bool} {i t n : Nat} (hn : n ≤ q_np m) : fb_sm (q_tm m B i t) n ≤ 4320 := by
  have h0 := R.np
  have := fb_sm_bound (f := q_tm m B i t) (c := 180) (n := n) (fun k hk => tm_b R (by omega))
  omega
theorem fill_16 (h : Mm) (x : Int32) : ∃ h', mJ7_fill_53178_16 h x = some h' ∧ (∀ k, k ≠ 16 → h' k = h k) ∧ ∀ t, t < 60 → h' 16 t = x := by
  unfold mJ7_fill_53178_16
  rw [mlet_s]
  refine lo_up (fun n i y => mJ7_fill_53178_16_5 n x (nI i) (nI 60) y) (fun z => ∃ h', z = some h' ∧ (∀ k, k ≠ 16 → h' k = h k) ∧ ∀ t, t < 60 → h' 16 t = x) (fun i y => (∀ k, k ≠ 16 → y k = h k) ∧ ∀ t, t < i → y 16 t = x) 60 (fun n y hP => ?_) (fun n i y hi hP => ?_) FU 0 h (by omega) (fu_lt (by omega)) ⟨fun _ _ => rfl, fun t ht => by omega⟩
  · refine ⟨y, ?_, hP⟩
    show mJ7_fill_53178_16_5 (n + 1) _ _ _ _ = _
    rw [mJ7_fill_53178_16_5, if_pos (nI_le (Nat.le_refl _) (by omega))]
  · refine ⟨wr y 16 i x, ?_, fun k hk => by rw [wr_cell _ _ _ hk, hP.1 k hk], fun t ht => ?_⟩
    · show mJ7_fill_53178_16_5 (n + 1) _ _ _ _ = mJ7_fill_53178_16_5 n _ _ _ _
      rw [mJ7_fill_53178_16_5, if_neg (nI_ge hi (by omega)), gIn_nI hi (by omega), mlet_s, cl_n (by omega), ad_1]
    · by_cases e : t = i
      · rw [e, wr_same]
      · rw [wr_slot _ _ _ e, hP.2 t (by omega)]
theorem fill_26 (h : Mm) (x : Int32) : ∃ h', mJ7_fill_53178_26 h x = some h' ∧ (∀ k, k ≠ 26 → h' k = h k) ∧ ∀ t, t < 128 → h' 26 t = x := by
  unfold mJ7_fill_53178_26
  rw [mlet_s]
  refine lo_up (fun n i y => mJ7_fill_53178_26_5 n x (nI i) (nI 128) y) (fun z => ∃ h', z = some h' ∧ (∀ k, k ≠ 26 → h' k = h k) ∧ ∀ t, t < 128 → h' 26 t = x) (fun i y => (∀ k, k ≠ 26 → y k = h k) ∧ ∀ t, t < i → y 26 t = x) 128 (fun n y hP => ?_) (fun n i y hi hP => ?_) FU 0 h (by omega) (fu_lt (by omega)) ⟨fun _ _ => rfl, fun t ht => by omega⟩
  · refine ⟨y, ?_, hP⟩
    show mJ7_fill_53178_26_5 (n + 1) _ _ _ _ = _
    rw [mJ7_fill_53178_26_5, if_pos (nI_le (Nat.le_refl _) (by omega))]
  · refine ⟨wr y 26 i x, ?_, fun k hk => by rw [wr_cell _ _ _ hk, hP.1 k hk], fun t ht => ?_⟩
    · show mJ7_fill_53178_26_5 (n + 1) _ _ _ _ = mJ7_fill_53178_26_5 n _ _ _ _
      rw [mJ7_fill_53178_26_5, if_neg (nI_ge hi (by omega)), gIn_nI hi (by omega), mlet_s, cl_n (by omega), ad_1]
    · by_cases e : t = i
      · rw [e, wr_same]
      · rw [wr_slot _ _ _ e, hP.2 t (by omega)]
theorem fill_12 (h : Mm) (x : Int32) : ∃ h', mJ7_fill_53178_12 h x = some h' ∧ (∀ k, k ≠ 12 → h' k = h k) ∧ ∀ t, t < 24 → h' 12 t = x := by
  unfold mJ7_fill_53178_12
  rw [mlet_s]
  refine lo_up (fun n i y => mJ7_fill_53178_12_5 n x (nI i) (nI 24) y) (fun z => ∃ h', z = some h' ∧ (∀ k, k ≠ 12 → h' k = h k) ∧ ∀ t, t < 24 → h' 12 t = x) (fun i y => (∀ k, k ≠ 12 → y k = h k) ∧ ∀ t, t < i → y 12 t = x) 24 (fun n y hP => ?_) (fun n i y hi hP => ?_) FU 0 h (by omega) (fu_lt (by omega)) ⟨fun _ _ => rfl, fun t ht => by omega⟩
  · refine ⟨y, ?_, hP⟩
    show mJ7_fill_53178_12_5 (n + 1) _ _ _ _ = _
    rw [mJ7_fill_53178_12_5, if_pos (nI_le (Nat.le_refl _) (by omega))]
  · refine ⟨wr y 12 i x, ?_, fun k hk => by rw [wr_cell _ _ _ hk, hP.1 k hk], fun t ht => ?_⟩
    · show mJ7_fill_53178_12_5 (n + 1) _ _ _ _ = mJ7_fill_53178_12_5 n _ _ _ _
      rw [mJ7_fill_53178_12_5, if_neg (nI_ge hi (by omega)), gIn_nI hi (by omega), mlet_s, cl_n (by omega), ad_1]
    · by_cases e : t = i
      · rw [e, wr_same]
      · rw [wr_slot _ _ _ e, hP.2 t (by omega)]
theorem fill_13 (h : Mm) (x : Int32) : ∃ h', mJ7_fill_53178_13 h x = some h' ∧ (∀ k, k ≠ 13 → h' k = h k) ∧ ∀ t, t < 4 → h' 13 t = x := by
  unfold mJ7_fill_53178_13
  rw [mlet_s]
  refine lo_up (fun n i y => mJ7_fill_53178_13_5 n x (nI i) (nI 4) y) (fun z => ∃ h', z = some h' ∧ (∀ k, k ≠ 13 → h' k = h k) ∧ ∀ t, t < 4 → h' 13 t = x) (fun i y => (∀ k, k ≠ 13 → y k = h k) ∧ ∀ t, t < i → y 13 t = x) 4 (fun n y hP => ?_) (fun n i y hi hP => ?_) FU 0 h (by omega) (fu_lt (by omega)) ⟨fun _ _ => rfl, fun t ht => by omega⟩
  · refine ⟨y, ?_, hP⟩
    show mJ7_fill_53178_13_5 (n + 1) _ _ _ _ = _
    rw [mJ7_fill_53178_13_5, if_pos (nI_le (Nat.le_refl _) (by omega))]
  · refine ⟨wr y 13 i x, ?_, fun k hk => by rw [wr_cell _ _ _ hk, hP.1 k hk], fun t ht => ?_⟩
    · show mJ7_fill_53178_13_5 (n + 1) _ _ _ _ = mJ7_fill_53178_13_5 n _ _ _ _
      rw [mJ7_fill_53178_13_5, if_neg (nI_ge hi (by omega)), gIn_nI hi (by omega), mlet_s, cl_n (by omega), ad_1]
    · by_cases e : t = i
      · rw [e, wr_same]
      · rw [wr_slot _ _ _ e, hP.2 t (by omega)]
theorem fill_14 (h : Mm) (x : Int32) : ∃ h', mJ7_fill_53178_14 h x = some h' ∧ (∀ k, k ≠ 14 → h' k = h k) ∧ ∀ t, t < 4 → h' 14 t = x := by
  unfold mJ7_fill_53178_14
  rw [mlet_s]
  refine lo_up (fun n i y => mJ7_fill_53178_14_5 n x (nI i) (nI 4) y) (fun z => ∃ h', z = some h' ∧ (∀ k, k ≠ 14 → h' k = h k) ∧ ∀ t, t < 4 → h' 14 t = x) (fun i y => (∀ k, k ≠ 14 → y k = h k) ∧ ∀ t, t < i → y 14 t = x) 4 (fun n y hP => ?_) (fun n i y hi hP => ?_) FU 0 h (by omega) (fu_lt (by omega)) ⟨fun _ _ => rfl, fun t ht => by omega⟩
  · refine ⟨y, ?_, hP⟩
    show mJ7_fill_53178_14_5 (n + 1) _ _ _ _ = _
    rw [mJ7_fill_53178_14_5, if_pos (nI_le (Nat.le_refl _) (by omega))]
  · refine ⟨wr y 14 i x, ?_, fun k hk => by rw [wr_cell _ _ _ hk, hP.1 k hk], fun t ht => ?_⟩
    · show mJ7_fill_53178_14_5 (n + 1) _ _ _ _ = mJ7_fill_53178_14_5 n _ _ _ _
      rw [mJ7_fill_53178_14_5, if_neg (nI_ge hi (by omega)), gIn_nI hi (by omega), mlet_s, cl_n (by omega), ad_1]
    · by_cases e : t = i
      · rw [e, wr_same]
      · rw [wr_slot _ _ _ e, hP.2 t (by omega)]
/-! the class: what could go down -/
theorem gat_c (R : RW c m) {M i : Nat} (hM : M < 2147483648) (hi : i < q_ns m) : ∃ c', mX9_gatherFlow c (nI i) (nI M) = some c' ∧ (∀ k, k ≠ 16 → c' k = c k) ∧ ∀ t, t < 60 → c' 16 t = nI (q_fl m M.testBit i t) := by
  have h0 := R.np; have h2 := R.ns
  unfold mX9_gatherFlow
  obtain ⟨c1, e1, e2, e3⟩ := fill_16 c 0
  rw [e1, bdh_s]
  refine lo_up (fun n p y => mX9_gatherFlow_11 n (nI i) (nI M) (nI p) y) (fun z => ∃ c', z = some c' ∧ (∀ k, k ≠ 16 → c' k = c k) ∧ ∀ t, t < 60 → c' 16 t = nI (q_fl m M.testBit i t)) (fun p y => (∀ k, k ≠ 16 → y k = c k) ∧ ∀ t, t < 60 → y 16 t = nI (fb_sm (q_tm m M.testBit i t) p)) (q_np m) (fun n y hP => ?_) (fun n p y hp hP => ?_) FU 0 c1 (by omega) (fu_lt (by omega)) ⟨e2, fun t ht => e3 t ht⟩
  · refine ⟨y, ?_, hP⟩
    show mX9_gatherFlow_11 (n + 1) _ _ _ _ = _
    rw [mX9_gatherFlow_11, hP.1 4 (by decide), R.cnp, if_pos (nI_le (Nat.le_refl _) (by omega))]
  · obtain ⟨b1, b2, b3, b4, b5, b6⟩ := R.pb hp
    show ∃ x', mX9_gatherFlow_11 (n + 1) (nI i) (nI M) (nI p) y = mX9_gatherFlow_11 n _ _ _ x' ∧ _
    rw [mX9_gatherFlow_11, hP.1 4 (by decide), hP.1 5 (by decide), hP.1 7 (by decide), R.cnp, if_neg (nI_ge hp (by omega)), gIn_nI (by omega) (by omega), gIn_nI (by omega) (by omega), cl_n (by omega), (R.cpa hp).1, (R.cpa hp).2.2.1, mlet_s]
    simp (disch := omega) only [nz_eq, bit_t]
    have skip : ¬ (M.testBit p = true ∧ q_wh m p = i) → ∃ x', mX9_gatherFlow_85 (mX9_gatherFlow_11 n) (nI i) (nI M) (nI p) y = mX9_gatherFlow_11 n (nI i) (nI M) (nI (p + 1)) x' ∧ (∀ k, k ≠ 16 → x' k = c k) ∧ ∀ t, t < 60 → x' 16 t = nI (fb_sm (q_tm m M.testBit i t) (p + 1)) := fun hn => by
      refine ⟨y, by unfold mX9_gatherFlow_85; rw [ad_1], hP.1, fun t ht => ?_⟩
      rw [hP.2 t ht, fb_sm_succ]
      unfold q_tm
      rw [if_neg (fun z => hn z.1)]
      rfl
    by_cases c1 : q_wh m p = i
    case neg => rw [if_neg c1]; exact skip (fun z => c1 z.2)
    rw [if_pos c1]
    by_cases c2 : M.testBit p = false
    · rw [if_pos c2]; exact skip (fun z => by rw [c2] at z; exact absurd z.1 (by decide))
    rw [if_neg c2]
    have c2 : M.testBit p = true := by simpa using c2
    refine lo_up (fun k j z => mX9_gatherFlow_49 (mX9_gatherFlow_11 n) k (nI i) (nI M) (nI p) (nI (q_fi m p + j)) z) (fun z => ∃ x', z = mX9_gatherFlow_11 n (nI i) (nI M) (nI (p + 1)) x' ∧ (∀ k, k ≠ 16 → x' k = c k) ∧ ∀ t, t < 60 → x' 16 t = nI (fb_sm (q_tm m M.testBit i t) (p + 1))) (fun j z => (∀ k, k ≠ 16 → z k = c k) ∧ ∀ t, t < 60 → z 16 t = nI (fb_sm (q_tm m M.testBit i t) p + (if q_fi m p ≤ t ∧ t < q_fi m p + j then q_rt m p t else 0))) (q_la m p - q_fi m p + 1) (fun k z hZ => ?_) (fun k j z hj hZ => ?_) FU 0 y (by omega) (fu_lt (by omega)) ⟨hP.1, fun t ht => by rw [if_neg (by omega)]; exact hP.2 t ht⟩
    · refine ⟨z, ?_, hZ.1, fun t ht => ?_⟩
      · show mX9_gatherFlow_49 _ (k + 1) _ _ _ _ _ = _
        rw [mX9_gatherFlow_49, gIn_nI (by omega) (by omega), hZ.1 6 (by decide), cl_n (by omega), (R.cpa hp).2.1, if_pos (by rw [nz_lt (by omega) (by omega)]; omega)]
        unfold mX9_gatherFlow_85
        rw [ad_1]
      · rw [hZ.2 t ht, fb_sm_succ]
        rw [tm_eq]
        by_cases h : q_fi m p ≤ t ∧ t ≤ q_la m p
        · rw [if_pos (by omega), if_pos ⟨⟨c2, c1⟩, h⟩]
        · rw [if_neg (by omega), if_neg (fun z => h z.2)]
    · have Rz : RW z m := R.sc (fun q hq => hZ.1 q (by omega))
      refine ⟨wr z 16 (q_fi m p + j) (nI (fb_sm (q_tm m M.testBit i (q_fi m p + j)) p + q_rt m p (q_fi m p + j))), ?_, fun q hq => by rw [wr_cell _ _ _ hq, hZ.1 q hq], fun t ht => ?_⟩
      · show mX9_gatherFlow_49 _ (k + 1) _ _ _ _ _ = mX9_gatherFlow_49 _ k _ _ _ _ _
        rw [mX9_gatherFlow_49, gIn_nI (by omega) (by omega), hZ.1 6 (by decide), cl_n (by omega), (R.cpa hp).2.1, if_neg (by rw [nz_lt (by omega) (by omega)]; omega), gIn_nI (by omega) (by omega), rate_c Rz hp (by omega) (by omega), bd1_s, gIn_nI (by omega) (by omega), mlet_s, cl_n (by omega), hZ.2 _ (by omega), if_neg (by omega), Nat.add_zero, nI_add, ad_1]
        rfl
      · rw [wr_if]
        by_cases e : t = q_fi m p + j
        · rw [if_pos ⟨rfl, e⟩, e, if_pos (by omega)]
        · rw [if_neg (fun q => e q.2), hZ.2 t ht]
          by_cases h : q_fi m p ≤ t ∧ t < q_fi m p + j
          · rw [if_pos h, if_pos (by omega)]
          · rw [if_neg h, if_neg (by omega)]
/-- the class's store of a sat, behind slot t -/
theorem fol_c (R : RW c m) {M i t : Nat} (hM : M < 2147483648) (hi : i < q_ns m) (ht : t < 60) : ∃ c', mX9_follow c (nI i) (nI M) (nI t) = some c' ∧ (∀ k, k ≠ 15 → k ≠ 16 → c' k = c k) ∧ c' 15 1 = nI (q_fs (2 * q_sa m i 3) (2 * q_sa m i 4) (q_fl m M.testBit i) (t + 1)).1 ∧ c' 15 2 = nI (q_fs (2 * q_sa m i 3) (2 * q_sa m i 4) (q_fl m M.testBit i) (t + 1)).2.1 ∧ c' 15 3 = nI (q_fs (2 * q_sa m i 3) (2 * q_sa m i 4) (q_fl m M.testBit i) (t + 1)).2.2.1 ∧ c' 15 4 = (q_fs (2 * q_sa m i 3) (2 * q_sa m i 4) (q_fl m M.testBit i) (t + 1)).2.2.2 := by
  have h0 := R.np; have h2 := R.ns
  obtain ⟨y1, y2, y3, y4, y5, y6, y7⟩ := R.sb hi
  unfold mX9_follow
  obtain ⟨c1, e1, e2, e3⟩ := gat_c R hM hi
  have R1 : RW c1 m := R.sc (fun k hk => e2 k (by omega))
  have n3 : mX2_number_31 c1 (nI i) 3 = some (nI (q_sa m i 3)) := num31 R1 hi (j := 3) (by omega)
  have n4 : mX2_number_31 c1 (nI i) 4 = some (nI (q_sa m i 4)) := num31 R1 hi (j := 4) (by omega)
  rw [e1, bdh_s]
  simp only [n3, n4, bd1_s, mu_2, mlet_s]
  generalize hH : 2 * q_sa m i 3 = H
  generalize hF : 2 * q_sa m i 4 = F
  generalize hfl : q_fl m M.testBit i = fl at e3
  have hflb : ∀ s, fl s ≤ 4320 := fun s => by rw [← hfl]; exact fl_b R (Nat.le_refl _)
  refine lo_up (fun n s y => mX9_follow_66 n (nI t) (nI H) (nI F) (nI s) y) (fun z => ∃ c', z = some c' ∧ (∀ k, k ≠ 15 → k ≠ 16 → c' k = c k) ∧ c' 15 1 = nI (q_fs H F fl (t + 1)).1 ∧ c' 15 2 = nI (q_fs H F fl (t + 1)).2.1 ∧ c' 15 3 = nI (q_fs H F fl (t + 1)).2.2.1 ∧ c' 15 4 = (q_fs H F fl (t + 1)).2.2.2) (fun s y => ((∀ k, k ≠ 15 → k ≠ 16 → y k = c k) ∧ ∀ s, s < 60 → y 16 s = nI (fl s)) ∧ y 15 1 = nI (q_fs H F fl s).1 ∧ y 15 2 = nI (q_fs H F fl s).2.1 ∧ y 15 3 = nI (q_fs H F fl s).2.2.1 ∧ y 15 4 = (q_fs H F fl s).2.2.2) (t + 1) (fun n y hP => ?_) (fun n s y hs hP => ?_) FU 0 _ (by omega) (fu_lt (by omega)) ?_
  · refine ⟨y, ?_, hP.1.1, hP.2⟩
    show mX9_follow_66 (n + 1) _ _ _ _ _ = _
    rw [mX9_follow_66, if_pos (by rw [nz_lt (by omega) (by omega)]; omega)]
  · obtain ⟨⟨p1, p2⟩, p3, p4, p5, p6⟩ := hP
    obtain ⟨q1, q2⟩ := fs_b H F fl s
    have q3 : s * F ≤ 60 * 18 := Nat.mul_le_mul (by omega) (by omega)
    have hfs := hflb s
    show ∃ x', mX9_follow_66 (n + 1) (nI t) (nI H) (nI F) (nI s) y = mX9_follow_66 n _ _ _ _ x' ∧ _
    rw [mX9_follow_66, if_neg (by rw [nz_lt (by omega) (by omega)]; omega), mlet_s, gIn_nI (by omega) (by omega), cl_n (by omega)]
    rw [q_fs]
    generalize q_fs H F fl s = st at *
    obtain ⟨s1, s2, s3, s4⟩ := st
    simp only at p3 p4 p5 p6 q1 q2
    unfold q_f1 mJ9_min_7cf53
    simp only
    simp (disch := decide) only [mlet_s, wr_same, wr_cell, wr_slot, p3, p4, p5, p6, p2 s (by omega), nI_add]
    simp (disch := omega) only [nz_lt]
    have hmin : bd1 (if s1 + F < fl s then some (nI (s1 + F)) else some (nI (fl s))) = bd1 (β := Mm) (some (nI (min (fl s) (s1 + F)))) := by
      by_cases h : s1 + F < fl s
      · rw [if_pos h, Nat.min_eq_right (by omega)]
      · rw [if_neg h, Nat.min_eq_left (by omega)]
    rw [hmin, bd1_s, pk_sub (Nat.min_le_right _ _)]
    have hml : min (fl s) (s1 + F) ≤ s1 + F := Nat.min_le_right _ _
    generalize min (fl s) (s1 + F) = d at *
    simp (disch := decide) only [wr_same, wr_cell, wr_slot, p3, p4, p5, p6, nI_add]
    simp (disch := omega) only [nz_le]
    unfold mX9_follow_175 mX9_follow_172 mX9_follow_175
    rw [ad_1]
    by_cases hl : s1 + F - d ≤ H
    · rw [if_pos hl, if_neg (show ¬ H < s1 + F - d by omega)]
      refine ⟨_, rfl, ⟨fun k k1 k2 => ?_, fun k hk => ?_⟩, ?_, ?_, ?_, ?_⟩
      · simp only [wr_cell _ _ _ k1, p1 k k1 k2]
      · simp (disch := decide) only [wr_cell]
        exact p2 k hk
      · simp (disch := decide) only [wr_same, wr_slot]
      · simp (disch := decide) only [wr_same, wr_slot, p4]
      · simp (disch := decide) only [wr_same, wr_slot]
      · simp (disch := decide) only [wr_same, wr_slot, p6]
    · rw [if_neg hl, if_pos (show H < s1 + F - d by omega), pk_sub (by omega), nI_add]
      simp only [mlet_s]
      by_cases h4 : s4 = -4
      · rw [if_pos h4, if_pos h4]
        refine ⟨_, rfl, ⟨fun k k1 k2 => ?_, fun k hk => ?_⟩, ?_, ?_, ?_, ?_⟩
        · simp only [wr_cell _ _ _ k1, p1 k k1 k2]
        · simp (disch := decide) only [wr_cell]
          exact p2 k hk
        all_goals simp (disch := decide) only [wr_same, wr_slot]
      · rw [if_neg h4, if_neg h4]
        refine ⟨_, rfl, ⟨fun k k1 k2 => ?_, fun k hk => ?_⟩, ?_, ?_, ?_, ?_⟩
        · simp only [wr_cell _ _ _ k1, p1 k k1 k2]
        · simp (disch := decide) only [wr_cell]
          exact p2 k hk
        all_goals simp (disch := decide) only [wr_same, wr_slot]
  · refine ⟨⟨fun k k1 k2 => ?_, fun k hk => ?_⟩, ?_, ?_, ?_, ?_⟩
    · simp only [wr_cell _ _ _ k1, e2 k k2]
    · simp (disch := decide) only [wr_cell]
      exact e3 k hk
    all_goals simp (disch := decide) only [wr_same, wr_slot]
    all_goals rfl
end EV
