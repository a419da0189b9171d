/-! PURE LAYER 11: stores of the reference; the calls -/
/-- contacts of one sat share no slot -/
def q_no (m : Mm) (B : Nat → Bool) : Prop := ∀ p q, p < q → q < q_np m → B p = true → B q = true → q_wh m p = q_wh m q → q_ov m p q = false
section EV
variable {c m c' m' : Mm}
theorem no_0 (R : RW c m) {B : Nat → Bool} (N : q_no m B) {i t p : Nat} (hp : p < q_np m) (hB : B p = true) (hw : q_wh m p = i) (h1 : q_fi m p ≤ t) (h2 : t ≤ q_la m p) : fb_sm (q_tm m B i t) p = 0 := by
  have : ∀ n, n ≤ p → fb_sm (q_tm m B i t) n = 0 := by
    intro n
    induction n with
    | zero => intro _; rfl
    | succ n ih =>
      intro hn
      rw [fb_sm_succ, ih (by omega)]
      unfold q_tm
      rw [if_neg]
      rintro ⟨⟨g1, g2⟩, g3, g4⟩
      have := N n p (by omega) hp g1 hB (by rw [g2, hw])
      unfold q_ov at this
      have := of_decide_eq_false this
      omega
  exact this p (Nat.le_refl _)
theorem fills_15 (R : RW c m) (N : q_no m (q_co (m 15))) : ∃ m', mX11_fills_0_15 m = some m' ∧ (∀ k, k ≠ 24 → m' k = m k) ∧ ∀ i, i < 4 → ∀ t, t < 60 → m' 24 (60 * i + t) = nI (q_fl m (q_co (m 15)) i t) := by
  have h0 := R.np; have h2 := R.ns
  unfold mX11_fills_0_15
  refine lo_up (fun n i y => mX11_fills_0_15_2 n (nI i) y) (fun z => ∃ m', z = some m' ∧ (∀ k, k ≠ 24 → m' k = m k) ∧ ∀ i, i < 4 → ∀ t, t < 60 → m' 24 (60 * i + t) = nI (q_fl m (q_co (m 15)) i t)) (fun i y => (∀ k, k ≠ 24 → y k = m k) ∧ ∀ t, t < i → y 24 t = 0) 240 (fun n y hP => ?_) (fun n i y hi hP => ?_) FU 0 m (by omega) (fu_lt (by omega)) ⟨fun _ _ => rfl, fun t ht => by omega⟩
  case refine_2 =>
    refine ⟨wr y 24 i 0, ?_, fun k hk => by rw [wr_cell _ _ _ hk, hP.1 k hk], fun t ht => ?_⟩
    · show mX11_fills_0_15_2 (n + 1) _ _ = mX11_fills_0_15_2 n _ _
      rw [mX11_fills_0_15_2, li_240, if_neg (nI_ge hi (by omega)), gIn_nI hi (by omega), mlet_s, cl_n (by omega), ad_1]
    · by_cases e : t = i
      · rw [e, wr_same]
      · rw [wr_slot _ _ _ e, hP.2 t (by omega)]
  show ∃ m', mX11_fills_0_15_2 (n + 1) (nI 240) y = some m' ∧ _
  rw [mX11_fills_0_15_2, li_240, if_pos (nI_le (Nat.le_refl _) (by omega))]
  clear n
  refine lo_up (fun n p y => mX11_fills_0_15_24 n (nI p) y) (fun z => ∃ m', z = some m' ∧ (∀ k, k ≠ 24 → m' k = m k) ∧ ∀ i, i < 4 → ∀ t, t < 60 → m' 24 (60 * i + t) = nI (q_fl m (q_co (m 15)) i t)) (fun p y => (∀ k, k ≠ 24 → y k = m k) ∧ ∀ i, i < 4 → ∀ t, t < 60 → y 24 (60 * i + t) = nI (fb_sm (q_tm m (q_co (m 15)) i t) p)) (q_np m) (fun n y hP => ?_) (fun n p y hp hP => ?_) FU 0 y (by omega) (fu_lt (by omega)) ⟨hP.1, fun i hi t ht => hP.2 _ (by omega)⟩
  · refine ⟨y, ?_, hP⟩
    show mX11_fills_0_15_24 (n + 1) _ _ = _
    rw [mX11_fills_0_15_24, hP.1 0 (by decide), R.mnp, if_pos (nI_le (Nat.le_refl _) (by omega))]
  · obtain ⟨b1, b2, b3, b4, b5, b6⟩ := R.pb hp
    show ∃ x', mX11_fills_0_15_24 (n + 1) (nI p) y = mX11_fills_0_15_24 n _ x' ∧ _
    rw [mX11_fills_0_15_24, hP.1 0 (by decide), hP.1 10 (by decide), R.mnp, if_neg (nI_ge hp (by omega)), gIn_nI (by omega) (by omega), cl_n (by omega), (R.pas hp).1, mlet_s]
    cases hB : q_co (m 15) p with
    | false =>
      refine ⟨y, ?_, hP.1, fun i hi t ht => ?_⟩
      · have e4 : m 15 p = -4 := by
          unfold q_co at hB
          have := of_decide_eq_false hB
          exact Decidable.not_not.mp this
        show mX11_fills_0_15_39 _ (FU - 1 + 1) _ _ _ = _
        rw [mX11_fills_0_15_39, gIn_nI (by omega) (by omega), gIn_nI (by omega) (by omega), cl_n (by omega), hP.1 15 (by decide), e4, if_pos rfl]
        unfold mX11_fills_0_15_85
        rw [ad_1, ite_self]
      · rw [hP.2 i hi t ht, fb_sm_succ]
        unfold q_tm
        rw [if_neg (fun z => by rw [hB] at z; exact absurd z.1.1 (by decide))]
        rfl
    | true =>
      have ne4 : ¬ m 15 p = -4 := by
        unfold q_co at hB
        exact of_decide_eq_true hB
      refine lo_up (fun k j z => mX11_fills_0_15_39 (mX11_fills_0_15_24 n) k (nI p) (nI (q_fi m p + j)) z) (fun z => ∃ x', z = mX11_fills_0_15_24 n (nI (p + 1)) x' ∧ (∀ k, k ≠ 24 → x' k = m k) ∧ ∀ i, i < 4 → ∀ t, t < 60 → x' 24 (60 * i + t) = nI (fb_sm (q_tm m (q_co (m 15)) i t) (p + 1))) (fun j z => (∀ k, k ≠ 24 → z k = m k) ∧ ∀ i, i < 4 → ∀ t, t < 60 → z 24 (60 * i + t) = nI (fb_sm (q_tm m (q_co (m 15)) i t) p + (if q_wh m p = i ∧ q_fi m p ≤ t ∧ t < q_fi m p + j then q_rt m p t else 0))) (q_la m p - q_fi m p + 1) (fun k z hZ => ?_) (fun k j z hj hZ => ?_) FU 0 y (by omega) (fu_lt (by omega)) ⟨hP.1, fun i hi t ht => by rw [if_neg (by omega)]; exact hP.2 i hi t ht⟩
      · refine ⟨z, ?_, hZ.1, fun i hi t ht => ?_⟩
        · show mX11_fills_0_15_39 _ (k + 1) _ _ _ = _
          rw [mX11_fills_0_15_39, gIn_nI (by omega) (by omega), hZ.1 11 (by decide), cl_n (by omega), (R.pas hp).2.1, if_pos (by rw [nz_lt (by omega) (by omega)]; omega)]
          unfold mX11_fills_0_15_85
          rw [ad_1]
        · rw [hZ.2 i hi t ht, fb_sm_succ]
          rw [tm_eq]
          by_cases h : q_wh m p = i ∧ q_fi m p ≤ t ∧ t ≤ q_la m p
          · rw [if_pos (by omega), if_pos ⟨⟨hB, h.1⟩, h.2⟩]
          · rw [if_neg (by omega), if_neg (fun z => h ⟨z.1.2, z.2⟩)]
      · obtain ⟨Rz, Sz⟩ := R.sm (m' := z) (fun q hq => hZ.1 q (by omega))
        have hr := rate_m Rz (p := p) (t := q_fi m p + j) (by rw [Sz.q.2.2.2.1]; exact hp) (by rw [Sz.q.2.2.2.2.2.2.2.1]; omega) (by rw [Sz.q.2.2.2.2.2.2.2.2.1]; omega)
        rw [Sz.rt] at hr
        refine ⟨wr z 24 (60 * q_wh m p + (q_fi m p + j)) (nI (q_rt m p (q_fi m p + j))), ?_, fun q hq => by rw [wr_cell _ _ _ hq, hZ.1 q hq], fun i hi t ht => ?_⟩
        · show mX11_fills_0_15_39 _ (k + 1) _ _ _ = mX11_fills_0_15_39 _ k _ _ _
          rw [mX11_fills_0_15_39, gIn_nI (by omega) (by omega), gIn_nI (by omega) (by omega), gIn_nI (by omega) (by omega), hZ.1 11 (by decide), hZ.1 15 (by decide), hZ.1 12 (by decide), cl_n (by omega), (R.pas hp).2.1, (R.pas hp).2.2.1, if_neg (by rw [nz_lt (by omega) (by omega)]; omega), if_neg ne4, hr, bd1_s, mu_60, nI_add, gIn_nI (by omega) (by omega), mlet_s, cl_n (by omega), ad_1]
          rfl
        · rw [wr_if]
          by_cases e : 60 * i + t = 60 * q_wh m p + (q_fi m p + j)
          · rw [if_pos ⟨rfl, e⟩, if_pos (by omega), no_0 R N hp hB (show q_wh m p = i by omega) (by omega) (by omega), Nat.zero_add, show t = q_fi m p + j from by omega]
          · rw [if_neg (fun q => e q.2), hZ.2 i hi t ht]
            by_cases h : q_wh m p = i ∧ q_fi m p ≤ t ∧ t < q_fi m p + j
            · rw [if_pos h, if_pos (by omega)]
            · rw [if_neg h, if_neg (by omega)]
theorem fills_20 (R : RW c m) (N : q_no m (q_co (m 20))) : ∃ m', mX11_fills_0_20 m = some m' ∧ (∀ k, k ≠ 24 → m' k = m k) ∧ ∀ i, i < 4 → ∀ t, t < 60 → m' 24 (60 * i + t) = nI (q_fl m (q_co (m 20)) i t) := by
  have h0 := R.np; have h2 := R.ns
  unfold mX11_fills_0_20
  refine lo_up (fun n i y => mX11_fills_0_20_2 n (nI i) y) (fun z => ∃ m', z = some m' ∧ (∀ k, k ≠ 24 → m' k = m k) ∧ ∀ i, i < 4 → ∀ t, t < 60 → m' 24 (60 * i + t) = nI (q_fl m (q_co (m 20)) i t)) (fun i y => (∀ k, k ≠ 24 → y k = m k) ∧ ∀ t, t < i → y 24 t = 0) 240 (fun n y hP => ?_) (fun n i y hi hP => ?_) FU 0 m (by omega) (fu_lt (by omega)) ⟨fun _ _ => rfl, fun t ht => by omega⟩
  case refine_2 =>
    refine ⟨wr y 24 i 0, ?_, fun k hk => by rw [wr_cell _ _ _ hk, hP.1 k hk], fun t ht => ?_⟩
    · show mX11_fills_0_20_2 (n + 1) _ _ = mX11_fills_0_20_2 n _ _
      rw [mX11_fills_0_20_2, li_240, if_neg (nI_ge hi (by omega)), gIn_nI hi (by omega), mlet_s, cl_n (by omega), ad_1]
    · by_cases e : t = i
      · rw [e, wr_same]
      · rw [wr_slot _ _ _ e, hP.2 t (by omega)]
  show ∃ m', mX11_fills_0_20_2 (n + 1) (nI 240) y = some m' ∧ _
  rw [mX11_fills_0_20_2, li_240, if_pos (nI_le (Nat.le_refl _) (by omega))]
  clear n
  refine lo_up (fun n p y => mX11_fills_0_20_24 n (nI p) y) (fun z => ∃ m', z = some m' ∧ (∀ k, k ≠ 24 → m' k = m k) ∧ ∀ i, i < 4 → ∀ t, t < 60 → m' 24 (60 * i + t) = nI (q_fl m (q_co (m 20)) i t)) (fun p y => (∀ k, k ≠ 24 → y k = m k) ∧ ∀ i, i < 4 → ∀ t, t < 60 → y 24 (60 * i + t) = nI (fb_sm (q_tm m (q_co (m 20)) i t) p)) (q_np m) (fun n y hP => ?_) (fun n p y hp hP => ?_) FU 0 y (by omega) (fu_lt (by omega)) ⟨hP.1, fun i hi t ht => hP.2 _ (by omega)⟩
  · refine ⟨y, ?_, hP⟩
    show mX11_fills_0_20_24 (n + 1) _ _ = _
    rw [mX11_fills_0_20_24, hP.1 0 (by decide), R.mnp, if_pos (nI_le (Nat.le_refl _) (by omega))]
  · obtain ⟨b1, b2, b3, b4, b5, b6⟩ := R.pb hp
    show ∃ x', mX11_fills_0_20_24 (n + 1) (nI p) y = mX11_fills_0_20_24 n _ x' ∧ _
    rw [mX11_fills_0_20_24, hP.1 0 (by decide), hP.1 10 (by decide), R.mnp, if_neg (nI_ge hp (by omega)), gIn_nI (by omega) (by omega), cl_n (by omega), (R.pas hp).1, mlet_s]
    cases hB : q_co (m 20) p with
    | false =>
      refine ⟨y, ?_, hP.1, fun i hi t ht => ?_⟩
      · have e4 : m 20 p = -4 := by
          unfold q_co at hB
          have := of_decide_eq_false hB
          exact Decidable.not_not.mp this
        show mX11_fills_0_20_39 _ (FU - 1 + 1) _ _ _ = _
        rw [mX11_fills_0_20_39, gIn_nI (by omega) (by omega), gIn_nI (by omega) (by omega), cl_n (by omega), hP.1 20 (by decide), e4, if_pos rfl]
        unfold mX11_fills_0_20_85
        rw [ad_1, ite_self]
      · rw [hP.2 i hi t ht, fb_sm_succ]
        unfold q_tm
        rw [if_neg (fun z => by rw [hB] at z; exact absurd z.1.1 (by decide))]
        rfl
    | true =>
      have ne4 : ¬ m 20 p = -4 := by
        unfold q_co at hB
        exact of_decide_eq_true hB
      refine lo_up (fun k j z => mX11_fills_0_20_39 (mX11_fills_0_20_24 n) k (nI p) (nI (q_fi m p + j)) z) (fun z => ∃ x', z = mX11_fills_0_20_24 n (nI (p + 1)) x' ∧ (∀ k, k ≠ 24 → x' k = m k) ∧ ∀ i, i < 4 → ∀ t, t < 60 → x' 24 (60 * i + t) = nI (fb_sm (q_tm m (q_co (m 20)) i t) (p + 1))) (fun j z => (∀ k, k ≠ 24 → z k = m k) ∧ ∀ i, i < 4 → ∀ t, t < 60 → z 24 (60 * i + t) = nI (fb_sm (q_tm m (q_co (m 20)) i t) p + (if q_wh m p = i ∧ q_fi m p ≤ t ∧ t < q_fi m p + j then q_rt m p t else 0))) (q_la m p - q_fi m p + 1) (fun k z hZ => ?_) (fun k j z hj hZ => ?_) FU 0 y (by omega) (fu_lt (by omega)) ⟨hP.1, fun i hi t ht => by rw [if_neg (by omega)]; exact hP.2 i hi t ht⟩
      · refine ⟨z, ?_, hZ.1, fun i hi t ht => ?_⟩
        · show mX11_fills_0_20_39 _ (k + 1) _ _ _ = _
          rw [mX11_fills_0_20_39, gIn_nI (by omega) (by omega), hZ.1 11 (by decide), cl_n (by omega), (R.pas hp).2.1, if_pos (by rw [nz_lt (by omega) (by omega)]; omega)]
          unfold mX11_fills_0_20_85
          rw [ad_1]
        · rw [hZ.2 i hi t ht, fb_sm_succ]
          rw [tm_eq]
          by_cases h : q_wh m p = i ∧ q_fi m p ≤ t ∧ t ≤ q_la m p
          · rw [if_pos (by omega), if_pos ⟨⟨hB, h.1⟩, h.2⟩]
          · rw [if_neg (by omega), if_neg (fun z => h ⟨z.1.2, z.2⟩)]
      · obtain ⟨Rz, Sz⟩ := R.sm (m' := z) (fun q hq => hZ.1 q (by omega))
        have hr := rate_m Rz (p := p) (t := q_fi m p + j) (by rw [Sz.q.2.2.2.1]; exact hp) (by rw [Sz.q.2.2.2.2.2.2.2.1]; omega) (by rw [Sz.q.2.2.2.2.2.2.2.2.1]; omega)
        rw [Sz.rt] at hr
        refine ⟨wr z 24 (60 * q_wh m p + (q_fi m p + j)) (nI (q_rt m p (q_fi m p + j))), ?_, fun q hq => by rw [wr_cell _ _ _ hq, hZ.1 q hq], fun i hi t ht => ?_⟩
        · show mX11_fills_0_20_39 _ (k + 1) _ _ _ = mX11_fills_0_20_39 _ k _ _ _
          rw [mX11_fills_0_20_39, gIn_nI (by omega) (by omega), gIn_nI (by omega) (by omega), gIn_nI (by omega) (by omega), hZ.1 11 (by decide), hZ.1 20 (by decide), hZ.1 12 (by decide), cl_n (by omega), (R.pas hp).2.1, (R.pas hp).2.2.1, if_neg (by rw [nz_lt (by omega) (by omega)]; omega), if_neg ne4, hr, bd1_s, mu_60, nI_add, gIn_nI (by omega) (by omega), mlet_s, cl_n (by omega), ad_1]
          rfl
        · rw [wr_if]
          by_cases e : 60 * i + t = 60 * q_wh m p + (q_fi m p + j)
          · rw [if_pos ⟨rfl, e⟩, if_pos (by omega), no_0 R N hp hB (show q_wh m p = i by omega) (by omega) (by omega), Nat.zero_add, show t = q_fi m p + j from by omega]
          · rw [if_neg (fun q => e q.2), hZ.2 i hi t ht]
            by_cases h : q_wh m p = i ∧ q_fi m p ≤ t ∧ t < q_fi m p + j
            · rw [if_pos h, if_pos (by omega)]
            · rw [if_neg h, if_neg (by omega)]
/-- the reference's store of a sat, behind slot t -/
theorem flows_m (R : RW c m) {i t : Nat} {fl : Nat → Nat} (hi : i < q_ns m) (ht : t < 60) (hfl : ∀ s, s < 60 → m 24 (60 * i + s) = nI (fl s)) (hflb : ∀ s, fl s ≤ 4320) : ∃ m', mX11_flows m (nI i) (nI t) = some m' ∧ (∀ k, k ≠ 23 → m' k = m k) ∧ m' 23 0 = nI (q_fs (2 * q_sa m i 3) (2 * q_sa m i 4) fl (t + 1)).1 ∧ m' 23 1 = nI (q_fs (2 * q_sa m i 3) (2 * q_sa m i 4) fl (t + 1)).2.1 ∧ m' 23 2 = nI (q_fs (2 * q_sa m i 3) (2 * q_sa m i 4) fl (t + 1)).2.2.1 ∧ m' 23 3 = (q_fs (2 * q_sa m i 3) (2 * q_sa m i 4) fl (t + 1)).2.2.2 := by
  have h2 := R.ns
  obtain ⟨y1, y2, y3, y4, y5, y6, y7⟩ := R.sb hi
  have a3 := (R.sat hi (j := 3) (by omega)).1
  have a4 := (R.sat hi (j := 4) (by omega)).1
  have c0 : (0 : Int32).toNatClampNeg = 0 := rfl
  have c1 : (1 : Int32).toNatClampNeg = 1 := rfl
  have c2 : (2 : Int32).toNatClampNeg = 2 := rfl
  have c3 : (3 : Int32).toNatClampNeg = 3 := rfl
  have g0 : ∀ {α : Type} (X : Option α), gIn (0 : Int32) 4 X = X := fun X => rfl
  have g1 : ∀ {α : Type} (X : Option α), gIn (1 : Int32) 4 X = X := fun X => rfl
  have g2 : ∀ {α : Type} (X : Option α), gIn (2 : Int32) 4 X = X := fun X => rfl
  have g3 : ∀ {α : Type} (X : Option α), gIn (3 : Int32) 4 X = X := fun X => rfl
  unfold mX11_flows
  simp only [g0, g1, g2, g3, c0, c1, c2, c3, mlet_s]
  generalize hH : 2 * q_sa m i 3 = H
  generalize hF : 2 * q_sa m i 4 = F
  refine lo_up (fun n s y => mX11_flows_31 n (nI i) (nI t) (nI s) y) (fun z => ∃ c', z = some c' ∧ (∀ k, k ≠ 23 → c' k = m k) ∧ c' 23 0 = nI (q_fs H F fl (t + 1)).1 ∧ c' 23 1 = nI (q_fs H F fl (t + 1)).2.1 ∧ c' 23 2 = nI (q_fs H F fl (t + 1)).2.2.1 ∧ c' 23 3 = (q_fs H F fl (t + 1)).2.2.2) (fun s y => (∀ k, k ≠ 23 → y k = m k) ∧ y 23 0 = nI (q_fs H F fl s).1 ∧ y 23 1 = nI (q_fs H F fl s).2.1 ∧ y 23 2 = nI (q_fs H F fl s).2.2.1 ∧ y 23 3 = (q_fs H F fl s).2.2.2) (t + 1) (fun n y hP => ?_) (fun n s y hs hP => ?_) FU 0 _ (by omega) (fu_lt (by omega)) ?_
  · refine ⟨y, ?_, hP⟩
    show mX11_flows_31 (n + 1) _ _ _ _ = _
    rw [mX11_flows_31, if_pos (by rw [nz_lt (by omega) (by omega)]; omega)]
  · obtain ⟨p1, p3, p4, p5, p6⟩ := hP
    obtain ⟨q1, q2⟩ := fs_b H F fl s
    have q3 : s * F ≤ 60 * 18 := Nat.mul_le_mul (by omega) (by omega)
    have hfs := hflb s
    show ∃ x', mX11_flows_31 (n + 1) (nI i) (nI t) (nI s) y = mX11_flows_31 n _ _ _ x' ∧ _
    rw [mX11_flows_31, if_neg (by rw [nz_lt (by omega) (by omega)]; omega)]
    simp only [g0, g1, g2, g3, c0, c1, c2, c3, mlet_s]
    rw [mu_5, ad_4, mu_60, nI_add]
    simp (disch := omega) only [gIn_nI, cl_n]
    rw [p1 2 (by decide), a4, mu_2, hF]
    rw [q_fs]
    generalize q_fs H F fl s = st at *
    obtain ⟨s1, s2, s3, s4⟩ := st
    simp only at p3 p4 p5 p6 q1 q2
    unfold q_f1
    simp only
    simp (disch := decide) only [wr_same, wr_cell, wr_slot, p3, p4, p5, p6, p1 24 (by decide), hfl s (by omega), nI_add]
    have hmin : (if nI (s1 + F) ≤ nI (fl s) then mX11_flows_97 (mX11_flows_31 n) (nI i) (nI t) (nI s) (nI (s1 + F)) (wr y 23 0 (nI (s1 + F))) else mX11_flows_97 (mX11_flows_31 n) (nI i) (nI t) (nI s) (nI (fl s)) (wr y 23 0 (nI (s1 + F)))) = mX11_flows_97 (mX11_flows_31 n) (nI i) (nI t) (nI s) (nI (min (fl s) (s1 + F))) (wr y 23 0 (nI (s1 + F))) := by
      simp (disch := omega) only [nz_le]
      by_cases h : s1 + F ≤ fl s
      · rw [if_pos h, Nat.min_eq_right (by omega)]
      · rw [if_neg h, Nat.min_eq_left (by omega)]
    rw [hmin]
    have hml : min (fl s) (s1 + F) ≤ s1 + F := Nat.min_le_right _ _
    generalize min (fl s) (s1 + F) = d at *
    unfold mX11_flows_97 mX11_flows_195 mX11_flows_196
    simp only [g0, g1, g2, g3, c0, c1, c2, c3, mlet_s]
    rw [mu_5, ad_3, ad_1]
    simp (disch := omega) only [gIn_nI, cl_n]
    simp (disch := decide) only [wr_same, wr_cell, wr_slot, p3, p4, p5, p6, p1 2 (by decide), a3, mu_2, hH, nI_add]
    rw [pk_sub hml]
    have hle : (nI (s1 + F - d) - nI H ≤ (0 : Int32)) = (s1 + F - d ≤ H) := by
      rw [li_0, su_le (by omega) (by omega) (by omega)]
      exact propext (by omega)
    simp only [hle]
    by_cases hl : s1 + F - d ≤ H
    · rw [if_pos hl, if_neg (show ¬ H < s1 + F - d by omega)]
      refine ⟨_, rfl, fun k k1 => ?_, ?_, ?_, ?_, ?_⟩
      · simp only [wr_cell _ _ _ k1, p1 k k1]
      · simp (disch := decide) only [wr_same, wr_slot]
      · simp (disch := decide) only [wr_same, wr_slot, p4]
      · simp (disch := decide) only [wr_same, wr_slot]
      · simp (disch := decide) only [wr_same, wr_slot, p6]
    · rw [if_neg hl, if_pos (show H < s1 + F - d by omega), pk_sub (by omega), pk_sub (by omega), show s1 + F - d - (s1 + F - d - H) = H from by omega, nI_add]
      by_cases h4 : s4 = -4
      · rw [if_pos h4, if_pos h4]
        refine ⟨_, rfl, fun k k1 => ?_, ?_, ?_, ?_, ?_⟩
        · simp only [wr_cell _ _ _ k1, p1 k k1]
        all_goals simp (disch := decide) only [wr_same, wr_slot]
      · rw [if_neg h4, if_neg h4]
        refine ⟨_, rfl, fun k k1 => ?_, ?_, ?_, ?_, ?_⟩
        · simp only [wr_cell _ _ _ k1, p1 k k1]
        all_goals simp (disch := decide) only [wr_same, wr_slot]
  · refine ⟨fun k k1 => ?_, ?_, ?_, ?_, ?_⟩
    · simp only [wr_cell _ _ _ k1]
    all_goals simp (disch := decide) only [wr_same, wr_slot]
    all_goals rfl
/-- what a sat loses, and what comes down, over all slots -/
def q_en (m : Mm) (B : Nat → Bool) (i : Nat) : Nat × Nat × Nat × Int32 := q_fs (2 * q_sa m i 3) (2 * q_sa m i 4) (q_fl m B i) 60
def q_ls (m : Mm) (B : Nat → Bool) : Nat → Nat := fb_sm (fun i => (q_en m B i).2.1)
def q_gt (m : Mm) (B : Nat → Bool) : Nat → Nat := fb_sm (fun i => (q_en m B i).2.2.1)
theorem SM.fl (h : SM m m') : q_fl m' = q_fl m := by
  obtain ⟨a1, a2, a3, a4, a5, a6, a7, a8, a9, a10, a11, a12⟩ := h.q
  have e : q_tm m' = q_tm m := by funext B i t p; unfold q_tm; rw [a10, a8, a9, h.rt]
  funext B i t; unfold q_fl; rw [e, a4]
theorem SM.en (h : SM m m') : q_en m' = q_en m := by
  funext B i; unfold q_en; rw [h.fl, h.q.2.2.2.2.1]
theorem SM.ls (h : SM m m') : q_ls m' = q_ls m := by
  funext B; unfold q_ls; rw [h.en]
theorem SM.gt (h : SM m m') : q_gt m' = q_gt m := by
  funext B; unfold q_gt; rw [h.en]
theorem lost_c (R : RW c m) {M : Nat} (hM : M < 2147483648) : ∃ c', mX9_lostByAll c (nI M) = some (nI (q_ls m M.testBit (q_ns m)), c') ∧ ∀ k, k ≠ 15 → k ≠ 16 → c' k = c k := by
  have h2 := R.ns
  refine lo_up (fun n i (y : Int32 × Mm) => mX9_lostByAll_5 n (nI M) y.1 (nI i) y.2) (fun z => ∃ c', z = some (nI (q_ls m M.testBit (q_ns m)), c') ∧ ∀ k, k ≠ 15 → k ≠ 16 → c' k = c k) (fun i y => y.1 = nI (q_ls m M.testBit i) ∧ ∀ k, k ≠ 15 → k ≠ 16 → y.2 k = c k) (q_ns m) (fun n y hP => ?_) (fun n i y hi hP => ?_) FU 0 (0, c) (by omega) (fu_lt (by omega)) ⟨rfl, fun _ _ _ => rfl⟩
  · refine ⟨y.2, ?_, hP.2⟩
    show mX9_lostByAll_5 (n + 1) _ _ _ _ = _
    rw [mX9_lostByAll_5, hP.2 31 (by decide) (by decide), R.cns, if_pos (nI_le (Nat.le_refl _) (by omega)), hP.1]
  · have Ry : RW y.2 m := R.sc (fun k hk => hP.2 k (by omega) (by omega))
    obtain ⟨c1, e1, e2, e3, e4, e5, e6⟩ := fol_c Ry hM hi (t := 59) (by omega)
    refine ⟨(nI (q_ls m M.testBit (i + 1)), c1), ?_, rfl, fun k k1 k2 => (e2 k k1 k2).trans (hP.2 k k1 k2)⟩
    show mX9_lostByAll_5 (n + 1) _ _ _ _ = mX9_lostByAll_5 n _ _ _ _
    rw [mX9_lostByAll_5, hP.2 31 (by decide) (by decide), R.cns, if_neg (nI_ge hi (by omega)), li_59, e1, bdh_s, mlet_s, e4, hP.1, nI_add, ad_1]
    rfl
theorem got_c (R : RW c m) {M : Nat} (hM : M < 2147483648) : ∃ c', mX9_gotByAll c (nI M) = some (nI (q_gt m M.testBit (q_ns m)), c') ∧ ∀ k, k ≠ 15 → k ≠ 16 → c' k = c k := by
  have h2 := R.ns
  refine lo_up (fun n i (y : Int32 × Mm) => mX9_gotByAll_5 n (nI M) y.1 (nI i) y.2) (fun z => ∃ c', z = some (nI (q_gt m M.testBit (q_ns m)), c') ∧ ∀ k, k ≠ 15 → k ≠ 16 → c' k = c k) (fun i y => y.1 = nI (q_gt m M.testBit i) ∧ ∀ k, k ≠ 15 → k ≠ 16 → y.2 k = c k) (q_ns m) (fun n y hP => ?_) (fun n i y hi hP => ?_) FU 0 (0, c) (by omega) (fu_lt (by omega)) ⟨rfl, fun _ _ _ => rfl⟩
  · refine ⟨y.2, ?_, hP.2⟩
    show mX9_gotByAll_5 (n + 1) _ _ _ _ = _
    rw [mX9_gotByAll_5, hP.2 31 (by decide) (by decide), R.cns, if_pos (nI_le (Nat.le_refl _) (by omega)), hP.1]
  · have Ry : RW y.2 m := R.sc (fun k hk => hP.2 k (by omega) (by omega))
    obtain ⟨c1, e1, e2, e3, e4, e5, e6⟩ := fol_c Ry hM hi (t := 59) (by omega)
    refine ⟨(nI (q_gt m M.testBit (i + 1)), c1), ?_, rfl, fun k k1 k2 => (e2 k k1 k2).trans (hP.2 k k1 k2)⟩
    show mX9_gotByAll_5 (n + 1) _ _ _ _ = mX9_gotByAll_5 n _ _ _ _
    rw [mX9_gotByAll_5, hP.2 31 (by decide) (by decide), R.cns, if_neg (nI_ge hi (by omega)), li_59, e1, bdh_s, mlet_s, e5, hP.1, nI_add, ad_1]
    rfl
theorem lost_15 (R : RW c m) (N : q_no m (q_co (m 15))) : ∃ m', mX11_lost_0_15 m = some (nI (q_ls m (q_co (m 15)) (q_ns m)), m') ∧ ∀ k, k ≠ 23 → k ≠ 24 → m' k = m k := by
  have h2 := R.ns
  unfold mX11_lost_0_15
  obtain ⟨m1, e1, e2, e3⟩ := fills_15 R N
  rw [e1, bdh_s]
  refine lo_up (fun n i (y : Int32 × Mm) => mX11_lost_0_15_9 n y.1 (nI i) y.2) (fun z => ∃ m', z = some (nI (q_ls m (q_co (m 15)) (q_ns m)), m') ∧ ∀ k, k ≠ 23 → k ≠ 24 → m' k = m k) (fun i y => y.1 = nI (q_ls m (q_co (m 15)) i) ∧ ∀ k, k ≠ 23 → y.2 k = m1 k) (q_ns m) (fun n y hP => ?_) (fun n i y hi hP => ?_) FU 0 (0, m1) (by omega) (fu_lt (by omega)) ⟨rfl, fun _ _ => rfl⟩
  · refine ⟨y.2, ?_, fun k k1 k2 => by rw [hP.2 k k1, e2 k k2]⟩
    show mX11_lost_0_15_9 (n + 1) _ _ _ = _
    rw [mX11_lost_0_15_9, li_0, gIn_nI (by omega) (by omega), cl_n (by omega), hP.2 5 (by decide), e2 5 (by decide), R.mns, if_pos (nI_le (Nat.le_refl _) (by omega)), hP.1]
  · obtain ⟨Ry, Sy⟩ := R.sm (m' := y.2) (fun k hk => by rw [hP.2 k (by omega), e2 k (by omega)])
    obtain ⟨c1, f1, f2, f3, f4, f5, f6⟩ := flows_m Ry (i := i) (t := 59) (fl := q_fl m (q_co (m 15)) i) (by rw [Sy.q.1]; exact hi) (by omega) (fun s hs => by rw [hP.2 24 (by decide)]; exact e3 i (by omega) s hs) (fun s => fl_b R (Nat.le_refl _))
    refine ⟨(nI (q_ls m (q_co (m 15)) (i + 1)), c1), ?_, rfl, fun k k1 => (f2 k k1).trans (hP.2 k k1)⟩
    show mX11_lost_0_15_9 (n + 1) _ _ _ = mX11_lost_0_15_9 n _ _ _
    rw [Sy.q.2.2.2.2.1] at f4
    rw [mX11_lost_0_15_9, li_0, gIn_nI (by omega) (by omega), cl_n (by omega), hP.2 5 (by decide), e2 5 (by decide), R.mns, if_neg (nI_ge hi (by omega)), li_59, f1, bdh_s, li_1, gIn_nI (by omega) (by omega), cl_n (by omega), mlet_s, f4, hP.1, nI_add, nI_add]
    rfl
def q_vl_15 (m : Mm) (f : Nat) : Nat → Nat := fb_sm (fun k => if q_co (m 15) (f + k) = true then q_vo m (f + k) else 0)
theorem vol_15 (R : RW c m) {f n : Nat} (h : f + n ≤ q_np m) : mX11_volumeOf_0_15 m (nI f) (nI (f + n)) = some (nI (q_vl_15 m f n)) := by
  have h0 := R.np
  refine lo_v (fun k i x => mX11_volumeOf_0_15_6 m k (nI (f + n)) x (nI (f + i))) _ (fun i => nI (q_vl_15 m f i)) n (fun k => ?_) (fun k i hi => ?_) FU 0 (by omega) (fu_lt (by omega))
  · show mX11_volumeOf_0_15_6 m (k + 1) _ _ _ = _
    rw [mX11_volumeOf_0_15_6, if_pos (nI_le (Nat.le_refl _) (by omega))]
  · show mX11_volumeOf_0_15_6 m (k + 1) _ _ _ = mX11_volumeOf_0_15_6 m k _ _ _
    rw [mX11_volumeOf_0_15_6, if_neg (nI_ge (by omega) (by omega)), gIn_nI (by omega) (by omega), gIn_nI (by omega) (by omega), cl_n (by omega), (R.pas (p := f + i) (by omega)).2.2.2.2, q_vl_15, fb_sm_succ]
    unfold mX11_volumeOf_0_15_34
    simp only [mlet_s]
    rw [ad_1 (f + i), li_0, nI_add, nI_add]
    unfold q_co
    by_cases e : m 15 (f + i) = -4
    · rw [if_pos e, if_neg (by simp [e])]; rfl
    · rw [if_neg e, if_pos (by simp [e])]; rfl
theorem lost_20 (R : RW c m) (N : q_no m (q_co (m 20))) : ∃ m', mX11_lost_0_20 m = some (nI (q_ls m (q_co (m 20)) (q_ns m)), m') ∧ ∀ k, k ≠ 23 → k ≠ 24 → m' k = m k := by
  have h2 := R.ns
  unfold mX11_lost_0_20
  obtain ⟨m1, e1, e2, e3⟩ := fills_20 R N
  rw [e1, bdh_s]
  refine lo_up (fun n i (y : Int32 × Mm) => mX11_lost_0_20_9 n y.1 (nI i) y.2) (fun z => ∃ m', z = some (nI (q_ls m (q_co (m 20)) (q_ns m)), m') ∧ ∀ k, k ≠ 23 → k ≠ 24 → m' k = m k) (fun i y => y.1 = nI (q_ls m (q_co (m 20)) i) ∧ ∀ k, k ≠ 23 → y.2 k = m1 k) (q_ns m) (fun n y hP => ?_) (fun n i y hi hP => ?_) FU 0 (0, m1) (by omega) (fu_lt (by omega)) ⟨rfl, fun _ _ => rfl⟩
  · refine ⟨y.2, ?_, fun k k1 k2 => by rw [hP.2 k k1, e2 k k2]⟩
    show mX11_lost_0_20_9 (n + 1) _ _ _ = _
    rw [mX11_lost_0_20_9, li_0, gIn_nI (by omega) (by omega), cl_n (by omega), hP.2 5 (by decide), e2 5 (by decide), R.mns, if_pos (nI_le (Nat.le_refl _) (by omega)), hP.1]
  · obtain ⟨Ry, Sy⟩ := R.sm (m' := y.2) (fun k hk => by rw [hP.2 k (by omega), e2 k (by omega)])
    obtain ⟨c1, f1, f2, f3, f4, f5, f6⟩ := flows_m Ry (i := i) (t := 59) (fl := q_fl m (q_co (m 20)) i) (by rw [Sy.q.1]; exact hi) (by omega) (fun s hs => by rw [hP.2 24 (by decide)]; exact e3 i (by omega) s hs) (fun s => fl_b R (Nat.le_refl _))
    refine ⟨(nI (q_ls m (q_co (m 20)) (i + 1)), c1), ?_, rfl, fun k k1 => (f2 k k1).trans (hP.2 k k1)⟩
    show mX11_lost_0_20_9 (n + 1) _ _ _ = mX11_lost_0_20_9 n _ _ _
    rw [Sy.q.2.2.2.2.1] at f4
    rw [mX11_lost_0_20_9, li_0, gIn_nI (by omega) (by omega), cl_n (by omega), hP.2 5 (by decide), e2 5 (by decide), R.mns, if_neg (nI_ge hi (by omega)), li_59, f1, bdh_s, li_1, gIn_nI (by omega) (by omega), cl_n (by omega), mlet_s, f4, hP.1, nI_add, nI_add]
    rfl
def q_vl_20 (m : Mm) (f : Nat) : Nat → Nat := fb_sm (fun k => if q_co (m 20) (f + k) = true then q_vo m (f + k) else 0)
theorem vol_20 (R : RW c m) {f n : Nat} (h : f + n ≤ q_np m) : mX11_volumeOf_0_20 m (nI f) (nI (f + n)) = some (nI (q_vl_20 m f n)) := by
  have h0 := R.np
  refine lo_v (fun k i x => mX11_volumeOf_0_20_6 m k (nI (f + n)) x (nI (f + i))) _ (fun i => nI (q_vl_20 m f i)) n (fun k => ?_) (fun k i hi => ?_) FU 0 (by omega) (fu_lt (by omega))
  · show mX11_volumeOf_0_20_6 m (k + 1) _ _ _ = _
    rw [mX11_volumeOf_0_20_6, if_pos (nI_le (Nat.le_refl _) (by omega))]
  · show mX11_volumeOf_0_20_6 m (k + 1) _ _ _ = mX11_volumeOf_0_20_6 m k _ _ _
    rw [mX11_volumeOf_0_20_6, if_neg (nI_ge (by omega) (by omega)), gIn_nI (by omega) (by omega), gIn_nI (by omega) (by omega), cl_n (by omega), (R.pas (p := f + i) (by omega)).2.2.2.2, q_vl_20, fb_sm_succ]
    unfold mX11_volumeOf_0_20_34
    simp only [mlet_s]
    rw [ad_1 (f + i), li_0, nI_add, nI_add]
    unfold q_co
    by_cases e : m 20 (f + i) = -4
    · rw [if_pos e, if_neg (by simp [e])]; rfl
    · rw [if_neg e, if_pos (by simp [e])]; rfl
theorem vol_c (R : RW c m) {M : Nat} (hM : M < 2147483648) : mX4_volumeOf c (nI M) = some (nI (fb_sm (fun p => if M.testBit p = true then q_vo m p else 0) (q_np m))) := by
  have h0 := R.np
  refine lo_v (fun k i x => mX4_volumeOf_4 c k (nI M) x (nI i)) _ (fun i => nI (fb_sm (fun p => if M.testBit p = true then q_vo m p else 0) i)) (q_np m) (fun k => ?_) (fun k i hi => ?_) FU 0 (by omega) (fu_lt (by omega))
  · show mX4_volumeOf_4 c (k + 1) _ _ _ = _
    rw [mX4_volumeOf_4, R.cnp, if_pos (nI_le (Nat.le_refl _) (by omega))]
  · show mX4_volumeOf_4 c (k + 1) _ _ _ = mX4_volumeOf_4 c k _ _ _
    rw [mX4_volumeOf_4, R.cnp, if_neg (nI_ge hi (by omega)), gIn_nI (by omega) (by omega), cl_n (by omega), (R.cpa hi).2.2.2.2.1, fb_sm_succ]
    unfold mX4_volumeOf_35
    simp (disch := omega) only [mlet_s, bit_t]
    rw [ad_1 i, nI_add]
    cases M.testBit i <;> rfl
/-! the calls -/
theorem ok_no (R : RW c m) (K : q_ok m (m 15) (m 15)) : q_no m (q_co (m 15)) := by
  intro p q hpq hq h1 h2 h3
  have h0 := R.np
  rcases co_m4 R (p := p) (by omega) with ⟨w1, w2, w3⟩ | ⟨w1, w2, w3, w4⟩
  · rw [w1] at h1; cases h1
  · exact ((K p (by omega) _ w3 w2).2 q hq (by omega)).2 h2 h3.symm
theorem mk_tb {f : Nat → Bool} {n p : Nat} (hp : p < n) : (q_mk f n).testBit p = f p := by rw [mk_bit, decide_eq_true hp, Bool.true_and]
theorem sm_mk (f : Nat → Bool) (g : Nat → Nat) (n : Nat) : fb_sm (fun p => if (q_mk f n).testBit p = true then g p else 0) n = fb_sm (fun p => if f p = true then g p else 0) n := fb_sm_cong (fun k hk => by rw [mk_tb hk])
theorem fl_cong {B B' : Nat → Bool} (h : ∀ p, p < q_np m → B p = B' p) : q_fl m B = q_fl m B' := by
  funext i t
  exact fb_sm_cong (fun k hk => by unfold q_tm; rw [h k hk])
theorem fl_own {B B' : Nat → Bool} {i : Nat} (h : ∀ p, p < q_np m → q_wh m p = i → B p = B' p) : q_fl m B i = q_fl m B' i := by
  funext t
  refine fb_sm_cong (fun k hk => ?_)
  unfold q_tm
  by_cases e : q_wh m k = i
  · rw [h k hk e]
  · rw [if_neg (fun z => e z.1.2), if_neg (fun z => e z.1.2)]
theorem en_cong {B B' : Nat → Bool} (h : ∀ p, p < q_np m → B p = B' p) : q_en m B = q_en m B' := by
  funext i; unfold q_en; rw [fl_cong h]
theorem mkb {f : Nat → Bool} {n : Nat} : ∀ p, p < n → (q_mk f n).testBit p = f p := fun _ hp => mk_tb hp
theorem go_store (R : RC c m) (x y z : Int32) : ∃ v c1 m1, mX10_store c x y z = some (v, c1) ∧ mX11_store m x y z = some (v, m1) ∧ (∀ k, k ≠ 15 → k ≠ 16 → c1 k = c k) ∧ (∀ k, k ≠ 23 → k ≠ 24 → m1 k = m k) := by
  have RR := R.2.1
  have h0 := RR.np; have h1 := RR.na; have h2 := RR.ns
  unfold mX10_store mX11_store
  rw [has31 RR x, slot_c y, li_0, gIn_nI (by omega) (by omega), cl_n (by omega), ← li_0, in_ns RR x, in_60 y, cb_c RR]
  simp only [bd1_s, bI_if]
  rcases inB_c x (n := q_ns m) (by omega) with hx | ⟨i, hi, rfl⟩
  · rw [hx]; exact ⟨-1, c, m, rfl, rfl, fun _ _ _ => rfl, fun _ _ _ => rfl⟩
  rcases inB_c y (n := 60) (by omega) with hy | ⟨t, ht, rfl⟩
  · rw [hy, inB_t hi (by omega)]; exact ⟨-1, c, m, rfl, rfl, fun _ _ _ => rfl, fun _ _ _ => rfl⟩
  rw [inB_t hi (by omega), inB_t ht (by omega)]
  simp only [if_true]
  obtain ⟨c1, e1, e2, e3, e4, e5, e6⟩ := fol_c RR (mk_31 (q_co (m 15)) (n := q_np m) (by omega)) hi ht
  rw [e1, bdh_s]
  rw [in_i m z 0 2 (a := 0) (b := 2) (by decide) (by decide), bd1_s]
  simp only [bI_if]
  by_cases hz : 0 ≤ z.toInt ∧ z.toInt ≤ 2
  case neg =>
    rw [decide_eq_false hz]
    refine ⟨-1, c1, m, ?_, rfl, e2, fun _ _ _ => rfl⟩
    have hn : ∀ k : Nat, k < 3 → ¬ z = nI k := fun k hk e => by rw [e, nI_toInt (by omega)] at hz; omega
    rw [if_neg (show ¬ z = 0 from hn 0 (by omega)), if_neg (show ¬ z = 1 from hn 1 (by omega)), if_neg (show ¬ z = 2 from hn 2 (by omega))]
  rw [decide_eq_true hz, if_pos rfl]
  obtain ⟨m1, f1, f2, f3⟩ := fills_15 RR (ok_no RR R.2.2.1)
  obtain ⟨Ry, Sy⟩ := RR.sm (m' := m1) (fun k hk => f2 k (by omega))
  obtain ⟨m2, g1, g2, g3, g4, g5, g6⟩ := flows_m Ry (i := i) (t := t) (fl := q_fl m (q_co (m 15)) i) (by rw [Sy.q.1]; exact hi) ht (fun s hs => f3 i (by omega) s hs) (fun s => fl_b RR (Nat.le_refl _))
  rw [Sy.q.2.2.2.2.1] at g3 g4 g5
  have hfl : q_fl m (q_mk (q_co (m 15)) (q_np m)).testBit i = q_fl m (q_co (m 15)) i := by rw [fl_cong mkb]
  rw [hfl] at e3 e4 e5
  rw [f1, bdh_s, g1, bdh_s]
  have hm : ∀ k, k ≠ 23 → k ≠ 24 → m2 k = m k := fun k k1 k2 => by rw [g2 k k1, f2 k k2]
  obtain ⟨k, hk, rfl⟩ : ∃ k : Nat, k < 3 ∧ z = nI k := by
    rcases ix_3 z (n := 3) (by omega) with h | h
    · omega
    · exact h
  rw [gIn_nI (by omega) (by omega), cl_n (by omega)]
  rcases (show k = 0 ∨ k = 1 ∨ k = 2 by omega) with e | e | e <;> subst e
  · rw [if_pos (by decide), e3, g3]
    exact ⟨_, c1, m2, rfl, rfl, e2, hm⟩
  · rw [if_neg (by decide), if_pos (by decide), e4, g4]
    exact ⟨_, c1, m2, rfl, rfl, e2, hm⟩
  · rw [if_neg (by decide), if_neg (by decide), if_pos (by decide), e5, g5]
    exact ⟨_, c1, m2, rfl, rfl, e2, hm⟩
theorem go_over (R : RC c m) (x : Int32) : ∃ v c1 m1, mX10_over c x = some (v, c1) ∧ mX11_over m x = some (v, m1) ∧ (∀ k, k ≠ 15 → k ≠ 16 → c1 k = c k) ∧ (∀ k, k ≠ 23 → k ≠ 24 → m1 k = m k) := by
  have RR := R.2.1
  have h0 := RR.np; have h1 := RR.na; have h2 := RR.ns
  unfold mX10_over mX11_over
  rw [has31 RR x, li_0, gIn_nI (by omega) (by omega), cl_n (by omega), ← li_0, in_ns RR x, cb_c RR]
  simp only [bd1_s, bI_if]
  rcases inB_c x (n := q_ns m) (by omega) with hx | ⟨i, hi, rfl⟩
  · rw [hx]; exact ⟨-1, c, m, rfl, rfl, fun _ _ _ => rfl, fun _ _ _ => rfl⟩
  rw [inB_t hi (by omega)]
  simp only [if_true]
  obtain ⟨c1, e1, e2, e3, e4, e5, e6⟩ := fol_c RR (mk_31 (q_co (m 15)) (n := q_np m) (by omega)) hi (t := 59) (by omega)
  rw [li_59, e1, bdh_s]
  obtain ⟨m1, f1, f2, f3⟩ := fills_15 RR (ok_no RR R.2.2.1)
  obtain ⟨Ry, Sy⟩ := RR.sm (m' := m1) (fun k hk => f2 k (by omega))
  obtain ⟨m2, g1, g2, g3, g4, g5, g6⟩ := flows_m Ry (i := i) (t := 59) (fl := q_fl m (q_co (m 15)) i) (by rw [Sy.q.1]; exact hi) (by omega) (fun s hs => f3 i (by omega) s hs) (fun s => fl_b RR (Nat.le_refl _))
  rw [Sy.q.2.2.2.2.1] at g6
  have hfl : q_fl m (q_mk (q_co (m 15)) (q_np m)).testBit i = q_fl m (q_co (m 15)) i := by rw [fl_cong mkb]
  rw [hfl] at e6
  rw [f1, bdh_s, g1, bdh_s, li_3, gIn_nI (by omega) (by omega), cl_n (by omega), g6, e6]
  exact ⟨_, c1, m2, rfl, rfl, e2, fun k k1 k2 => by rw [g2 k k1, f2 k k2]⟩
theorem go_count (R : RC c m) (x : Int32) : ∃ v c1 m1, mX10_count c x = some (v, c1) ∧ mX11_count m x = some (v, m1) ∧ (∀ k, k ≠ 15 → k ≠ 16 → c1 k = c k) ∧ (∀ k, k ≠ 23 → k ≠ 24 → m1 k = m k) := by
  have RR := R.2.1
  have h0 := RR.np; have h1 := RR.na; have h2 := RR.ns
  unfold mX10_count mX11_count
  rw [in_i m x 0 9 (a := 0) (b := 9) (by decide) (by decide), bd1_s]
  simp only [bI_if]
  by_cases hz : 0 ≤ x.toInt ∧ x.toInt ≤ 9
  case neg =>
    rw [decide_eq_false hz]
    refine ⟨-1, c, m, ?_, rfl, fun _ _ _ => rfl, fun _ _ _ => rfl⟩
    have hn : ∀ k : Nat, k < 10 → ¬ x = nI k := fun k hk e => by rw [e, nI_toInt (by omega)] at hz; omega
    rw [if_neg (show ¬ x = 0 from hn 0 (by omega)), if_neg (show ¬ x = 1 from hn 1 (by omega)), if_neg (show ¬ x = 2 from hn 2 (by omega)), if_neg (show ¬ x = 3 from hn 3 (by omega)), if_neg (show ¬ x = 4 from hn 4 (by omega)), if_neg (show ¬ x = 5 from hn 5 (by omega)), if_neg (show ¬ x = 6 from hn 6 (by omega)), if_neg (show ¬ x = 7 from hn 7 (by omega)), if_neg (show ¬ x = 8 from hn 8 (by omega)), if_neg (show ¬ x = 9 from hn 9 (by omega))]
  rw [decide_eq_true hz, if_pos rfl]
  have N := ok_no RR R.2.2.1
  obtain ⟨m1, f1, f2, f3⟩ := fills_15 RR N
  obtain ⟨Ry, Sy⟩ := RR.sm (m' := m1) (fun k hk => f2 k (by omega))
  rw [f1, bdh_s]
  obtain ⟨k, hk, rfl⟩ : ∃ k : Nat, k < 10 ∧ x = nI k := by
    rcases ix_3 x (n := 10) (by omega) with h | h
    · omega
    · exact h
  obtain ⟨u, ux, a1, a2, a3, a4, a5, a6⟩ := R.2.2.2
  obtain ⟨n, hn, t1, t2, t3⟩ := R.1
  have hM := mk_31 (q_co (m 15)) (n := q_np m) (by omega)
  rw [cb_c RR]
  simp only [bd1_s]
  rw [bc_mk _ _ h0, bd1_s]
  have d0 : ¬ k = 7 → mX11_count_26 FU (nI k) 0 0 m1 = mX11_count_64 (nI k) 0 m1 := fun hne => by
    show mX11_count_26 (FU - 1 + 1) _ _ _ _ = _
    rw [mX11_count_26, li_0, gIn_nI (by omega) (by omega), show (7 : Int32) = nI 7 from rfl, if_neg (show ¬ nI k = nI 7 by rw [nz_eq (by omega) (by omega)]; exact hne), ite_self]
  have e16 : m1 0 = m 0 := f2 0 (by decide)
  have fm : ∀ k, k ≠ 23 → k ≠ 24 → m1 k = m k := fun k _ k2 => f2 k k2
  have fc : ∀ k, k ≠ 15 → k ≠ 16 → c k = c k := fun _ _ _ => rfl
  rcases (show k = 0 ∨ k = 1 ∨ k = 2 ∨ k = 3 ∨ k = 4 ∨ k = 5 ∨ k = 6 ∨ k = 7 ∨ k = 8 ∨ k = 9 by omega) with e | e | e | e | e | e | e | e | e | e <;> subst e
  · rw [d0 (by omega)]
    refine ⟨_, c, m1, rfl, ?_, fc, fm⟩
    unfold mX11_count_64
    rw [if_neg (by decide), gIn_nI (by omega) (by omega), cl_n (by omega), f2 5 (by decide), RR.mns, RR.cns]
  · rw [d0 (by omega)]
    refine ⟨_, c, m1, rfl, ?_, fc, fm⟩
    unfold mX11_count_64
    rw [if_neg (by decide), gIn_nI (by omega) (by omega), cl_n (by omega), f2 5 (by decide), RR.mng, RR.cng]
  · rw [d0 (by omega)]
    refine ⟨_, c, m1, rfl, ?_, fc, fm⟩
    unfold mX11_count_64
    rw [if_neg (by decide), gIn_nI (by omega) (by omega), cl_n (by omega), f2 5 (by decide), RR.mna, RR.cna]
  · rw [d0 (by omega)]
    refine ⟨_, c, m1, rfl, ?_, fc, fm⟩
    unfold mX11_count_64
    rw [if_pos (by decide), if_pos (by decide), e16, RR.mnp, RR.cnp]
  · rw [d0 (by omega)]
    refine ⟨_, c, m1, rfl, ?_, fc, fm⟩
    unfold mX11_count_64
    rw [if_pos (by decide), if_neg (by decide), if_pos (by decide), co_m Ry, bd1_s, f2 15 (by decide), Sy.q.2.2.2.1]
  · rw [d0 (by omega)]
    refine ⟨_, c, m1, rfl, ?_, fc, fm⟩
    unfold mX11_count_64
    rw [if_pos (by decide), if_neg (by decide), if_neg (by decide), if_pos (by decide), e16, a3, a4]
  · rw [d0 (by omega)]
    refine ⟨_, c, m1, rfl, ?_, fc, fm⟩
    unfold mX11_count_64
    rw [if_pos (by decide), if_neg (by decide), if_neg (by decide), if_neg (by decide), if_pos (by decide), e16, t1, t2]
  · obtain ⟨c1, g1, g2⟩ := got_c RR hM
    have hq : q_gt m (q_mk (q_co (m 15)) (q_np m)).testBit = q_gt m (q_co (m 15)) := by unfold q_gt; rw [en_cong mkb]
    rw [hq] at g1
    have hl : ∃ m2, mX11_count_26 FU (nI 7) 0 0 m1 = some (nI (q_gt m (q_co (m 15)) (q_ns m)), m2) ∧ ∀ k, k ≠ 23 → m2 k = m1 k := by
      refine lo_up (fun n i (y : Int32 × Mm) => mX11_count_26 n (nI 7) y.1 (nI i) y.2) (fun z => ∃ m', z = some (nI (q_gt m (q_co (m 15)) (q_ns m)), m') ∧ ∀ k, k ≠ 23 → m' k = m1 k) (fun i y => y.1 = nI (q_gt m (q_co (m 15)) i) ∧ ∀ k, k ≠ 23 → y.2 k = m1 k) (q_ns m) (fun n y hP => ?_) (fun n i y hi hP => ?_) FU 0 (0, m1) (by omega) (fu_lt (by omega)) ⟨rfl, fun _ _ => rfl⟩
      · refine ⟨y.2, ?_, hP.2⟩
        show mX11_count_26 (n + 1) _ _ _ _ = _
        rw [mX11_count_26, li_0, gIn_nI (by omega) (by omega), cl_n (by omega), hP.2 5 (by decide), f2 5 (by decide), RR.mns, if_pos (nI_le (Nat.le_refl _) (by omega)), hP.1]
        unfold mX11_count_64
        rw [if_pos (by decide), if_neg (by decide), if_neg (by decide), if_neg (by decide), if_neg (by decide), if_pos (by decide)]
      · obtain ⟨Rz, Sz⟩ := RR.sm (m' := y.2) (fun k hk => by rw [hP.2 k (by omega), f2 k (by omega)])
        obtain ⟨m3, b1, b2, b3, b4, b5, b6⟩ := flows_m Rz (i := i) (t := 59) (fl := q_fl m (q_co (m 15)) i) (by rw [Sz.q.1]; exact hi) (by omega) (fun s hs => by rw [hP.2 24 (by decide)]; exact f3 i (by omega) s hs) (fun s => fl_b RR (Nat.le_refl _))
        refine ⟨(nI (q_gt m (q_co (m 15)) (i + 1)), m3), ?_, rfl, fun k k1 => (b2 k k1).trans (hP.2 k k1)⟩
        show mX11_count_26 (n + 1) _ _ _ _ = mX11_count_26 n _ _ _ _
        rw [Sz.q.2.2.2.2.1] at b5
        rw [mX11_count_26, li_0, gIn_nI (by omega) (by omega), cl_n (by omega), hP.2 5 (by decide), f2 5 (by decide), RR.mns, if_neg (nI_ge hi (by omega)), if_pos (show nI 7 = (7 : Int32) from rfl), li_59, b1, bdh_s, li_2, gIn_nI (by omega) (by omega), cl_n (by omega), mlet_s, b5, hP.1, nI_add, ad_1]
        rfl
    obtain ⟨m2, l1, l2⟩ := hl
    refine ⟨_, c1, m2, ?_, l1, g2, fun k k1 k2 => by rw [l2 k k1, f2 k k2]⟩
    rw [g1]; rfl
  · obtain ⟨c1, g1, g2⟩ := lost_c RR hM
    have hq : q_ls m (q_mk (q_co (m 15)) (q_np m)).testBit = q_ls m (q_co (m 15)) := by unfold q_ls; rw [en_cong mkb]
    rw [hq] at g1
    have e15 : m1 15 = m 15 := f2 15 (by decide)
    obtain ⟨m2, l1, l2⟩ := lost_15 Ry (by rw [e15]; intro p q hpq hq h1 h2 h3; rw [Sy.ov]; rw [Sy.q.2.2.2.1] at hq; rw [Sy.q.2.2.2.2.2.2.2.2.2.1] at h3; exact N p q hpq hq h1 h2 h3)
    rw [e15, Sy.ls, Sy.q.1] at l1
    rw [d0 (by omega)]
    refine ⟨_, c1, m2, by rw [g1]; rfl, ?_, g2, fun k k1 k2 => by rw [l2 k k1 k2, f2 k k2]⟩
    unfold mX11_count_64
    rw [if_pos (by decide), if_neg (by decide), if_neg (by decide), if_neg (by decide), if_neg (by decide), if_neg (by decide), if_pos (by decide), l1, bd2_s]
  · rw [d0 (by omega), vol_c RR hM, sm_mk]
    refine ⟨_, c, m1, rfl, ?_, fc, fm⟩
    unfold mX11_count_64
    have hv := vol_15 Ry (f := 0) (n := q_np m) (by rw [Sy.q.2.2.2.1]; omega)
    rw [Nat.zero_add] at hv
    rw [if_pos (by decide), if_neg (by decide), if_neg (by decide), if_neg (by decide), if_neg (by decide), if_neg (by decide), if_neg (by decide), e16, RR.mnp, li_0, hv, bd1_s]
    unfold q_vl_15
    rw [f2 15 (by decide), Sy.q.2.2.2.2.2.2.2.2.2.2.2]
    simp only [Nat.zero_add]
end EV
