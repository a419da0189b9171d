/-! PURE LAYER 24: lay; the first text -/
theorem bdh_a {β : Type} (X : Option Mm) (f : Mm → Option Mm) (g : Mm → Option β) : bdh (bdh X f) g = bdh X (fun h => bdh (f h) g) := by cases X <;> rfl
section EV
variable {c m c' m' x y : Mm}
theorem cpl_14 (m : Mm) : ∃ m', mX11_lay_14 FU 0 m = mX11_lay_40 FU 0 m' ∧ (∀ k, k ≠ 2 → m' k = m k) ∧ ∀ s, s < 20 → m' 2 s = m 6 s := by
  refine lo_up (fun n i y => mX11_lay_14 n (nI i) y) (fun z => ∃ m', z = mX11_lay_40 FU 0 m' ∧ (∀ k, k ≠ 2 → m' k = m k) ∧ ∀ s, s < 20 → m' 2 s = m 6 s) (fun i y => (∀ k, k ≠ 2 → y k = m k) ∧ ∀ s, s < i → y 2 s = m 6 s) 20 (fun n y hP => ?_) (fun n i y hi hP => ?_) FU 0 m (by omega) (fu_lt (by omega)) ⟨fun _ _ => rfl, fun s hs => by omega⟩
  · refine ⟨y, ?_, hP⟩
    show mX11_lay_14 (n + 1) _ _ = _
    rw [mX11_lay_14, if_pos (by decide)]
  · refine ⟨wr y 2 i (m 6 i), ?_, fun k hk => by rw [wr_cell _ _ _ hk, hP.1 k hk], fun s hs => ?_⟩
    · show mX11_lay_14 (n + 1) _ _ = mX11_lay_14 n _ _
      rw [mX11_lay_14, show (20 : Int32) = nI 20 from rfl, if_neg (nI_ge hi (by omega)), gIn_nI (by omega) (by omega), gIn_nI (by omega) (by omega), cl_n (by omega), hP.1 6 (by decide), mlet_s, ad_1]
    · by_cases e : s = i
      · rw [e, wr_same]
      · rw [wr_slot _ _ _ e, hP.2 s (by omega)]
theorem cpl_40 (m : Mm) : ∃ m', mX11_lay_40 FU 0 m = mX11_lay_66 FU 0 m' ∧ (∀ k, k ≠ 3 → m' k = m k) ∧ ∀ s, s < 6 → m' 3 s = m 7 s := by
  refine lo_up (fun n i y => mX11_lay_40 n (nI i) y) (fun z => ∃ m', z = mX11_lay_66 FU 0 m' ∧ (∀ k, k ≠ 3 → m' k = m k) ∧ ∀ s, s < 6 → m' 3 s = m 7 s) (fun i y => (∀ k, k ≠ 3 → y k = m k) ∧ ∀ s, s < i → y 3 s = m 7 s) 6 (fun n y hP => ?_) (fun n i y hi hP => ?_) FU 0 m (by omega) (fu_lt (by omega)) ⟨fun _ _ => rfl, fun s hs => by omega⟩
  · refine ⟨y, ?_, hP⟩
    show mX11_lay_40 (n + 1) _ _ = _
    rw [mX11_lay_40, if_pos (by decide)]
  · refine ⟨wr y 3 i (m 7 i), ?_, fun k hk => by rw [wr_cell _ _ _ hk, hP.1 k hk], fun s hs => ?_⟩
    · show mX11_lay_40 (n + 1) _ _ = mX11_lay_40 n _ _
      rw [mX11_lay_40, show (6 : Int32) = nI 6 from rfl, if_neg (nI_ge hi (by omega)), gIn_nI (by omega) (by omega), gIn_nI (by omega) (by omega), cl_n (by omega), hP.1 7 (by decide), mlet_s, ad_1]
    · by_cases e : s = i
      · rw [e, wr_same]
      · rw [wr_slot _ _ _ e, hP.2 s (by omega)]
theorem cpl_66 (m : Mm) : ∃ m', mX11_lay_66 FU 0 m = mX11_lay_92 FU 0 m' ∧ (∀ k, k ≠ 4 → m' k = m k) ∧ ∀ s, s < 12 → m' 4 s = m 8 s := by
  refine lo_up (fun n i y => mX11_lay_66 n (nI i) y) (fun z => ∃ m', z = mX11_lay_92 FU 0 m' ∧ (∀ k, k ≠ 4 → m' k = m k) ∧ ∀ s, s < 12 → m' 4 s = m 8 s) (fun i y => (∀ k, k ≠ 4 → y k = m k) ∧ ∀ s, s < i → y 4 s = m 8 s) 12 (fun n y hP => ?_) (fun n i y hi hP => ?_) FU 0 m (by omega) (fu_lt (by omega)) ⟨fun _ _ => rfl, fun s hs => by omega⟩
  · refine ⟨y, ?_, hP⟩
    show mX11_lay_66 (n + 1) _ _ = _
    rw [mX11_lay_66, if_pos (by decide)]
  · refine ⟨wr y 4 i (m 8 i), ?_, fun k hk => by rw [wr_cell _ _ _ hk, hP.1 k hk], fun s hs => ?_⟩
    · show mX11_lay_66 (n + 1) _ _ = mX11_lay_66 n _ _
      rw [mX11_lay_66, show (12 : Int32) = nI 12 from rfl, if_neg (nI_ge hi (by omega)), gIn_nI (by omega) (by omega), gIn_nI (by omega) (by omega), cl_n (by omega), hP.1 8 (by decide), mlet_s, ad_1]
    · by_cases e : s = i
      · rw [e, wr_same]
      · rw [wr_slot _ _ _ e, hP.2 s (by omega)]
theorem cpl_92 (m : Mm) : ∃ m', mX11_lay_92 FU 0 m = bdh (mX11_lays m') (fun h1 => some ((h1 0 16), h1)) ∧ (∀ k, k ≠ 5 → m' k = m k) ∧ ∀ s, s < 3 → m' 5 s = m 9 s := by
  refine lo_up (fun n i y => mX11_lay_92 n (nI i) y) (fun z => ∃ m', z = bdh (mX11_lays m') (fun h1 => some ((h1 0 16), h1)) ∧ (∀ k, k ≠ 5 → m' k = m k) ∧ ∀ s, s < 3 → m' 5 s = m 9 s) (fun i y => (∀ k, k ≠ 5 → y k = m k) ∧ ∀ s, s < i → y 5 s = m 9 s) 3 (fun n y hP => ?_) (fun n i y hi hP => ?_) FU 0 m (by omega) (fu_lt (by omega)) ⟨fun _ _ => rfl, fun s hs => by omega⟩
  · refine ⟨y, ?_, hP⟩
    show mX11_lay_92 (n + 1) _ _ = _
    rw [mX11_lay_92, if_pos (by decide)]
  · refine ⟨wr y 5 i (m 9 i), ?_, fun k hk => by rw [wr_cell _ _ _ hk, hP.1 k hk], fun s hs => ?_⟩
    · show mX11_lay_92 (n + 1) _ _ = mX11_lay_92 n _ _
      rw [mX11_lay_92, show (3 : Int32) = nI 3 from rfl, if_neg (nI_ge hi (by omega)), gIn_nI (by omega) (by omega), gIn_nI (by omega) (by omega), cl_n (by omega), hP.1 9 (by decide), mlet_s, ad_1]
    · by_cases e : s = i
      · rw [e, wr_same]
      · rw [wr_slot _ _ _ e, hP.2 s (by omega)]
theorem rd_set {us ug ua : Nat} (R : RD c m us ug ua) (h2 : ∀ s, s < 20 → m' 2 s = m 6 s) (h3 : ∀ s, s < 6 → m' 3 s = m 7 s) (h4 : ∀ s, s < 12 → m' 4 s = m 8 s) (h5 : ∀ s, s < 3 → m' 5 s = m 9 s) : RSet 49 55 60 c m' := by
  obtain ⟨⟨r1, r2, r3⟩, ⟨r4, r5, r6⟩, ⟨r7, r8, r9⟩, r10, r11, r12⟩ := R
  have e1 : q_ns m' = us := by unfold q_ns; rw [h5 0 (by omega), r4, cl_n (by omega)]
  have e2 : q_ng m' = ug := by unfold q_ng; rw [h5 1 (by omega), r5, cl_n (by omega)]
  have e3 : q_na m' = ua := by unfold q_na; rw [h5 2 (by omega), r6, cl_n (by omega)]
  have s1 : ∀ i, i < us → ∃ v : Nat → Nat, (∀ j, j < 5 → q_sa m' i j = v j ∧ m' 2 (5 * i + j) = nI (v j) ∧ c (49 + 2 + i) j = nI (v j)) ∧ v 0 ≤ 59 ∧ 6 ≤ v 1 ∧ v 1 ≤ 60 ∧ v 2 ≤ 1 ∧ 1 ≤ v 3 ∧ v 3 ≤ 99 ∧ v 4 ≤ 9 := fun i hi => by
    obtain ⟨v, v1, v2⟩ := r10 i hi
    refine ⟨v, fun j hj => ?_, v2⟩
    obtain ⟨w1, w2⟩ := v1 j hj
    have hv : v j < 1000 := by
      rcases (show j = 0 ∨ j = 1 ∨ j = 2 ∨ j = 3 ∨ j = 4 by omega) with e | e | e | e | e <;> subst e <;> omega
    refine ⟨?_, by rw [h2 _ (by omega), w1], w2⟩
    unfold q_sa
    rw [h2 _ (by omega), w1, cl_n (by omega)]
  have s2 : ∀ i, i < ug → ∃ v : Nat → Nat, (∀ j, j < 2 → q_st m' i j = v j ∧ m' 3 (2 * i + j) = nI (v j) ∧ c (55 + 2 + i) j = nI (v j)) ∧ v 0 ≤ 59 ∧ 1 ≤ v 1 ∧ v 1 ≤ 9 := fun i hi => by
    obtain ⟨v, v1, v2⟩ := r11 i hi
    refine ⟨v, fun j hj => ?_, v2⟩
    obtain ⟨w1, w2⟩ := v1 j hj
    have hv : v j < 1000 := by
      rcases (show j = 0 ∨ j = 1 by omega) with e | e <;> subst e <;> omega
    refine ⟨?_, by rw [h3 _ (by omega), w1], w2⟩
    unfold q_st
    rw [h3 _ (by omega), w1, cl_n (by omega)]
  have s3 : ∀ i, i < ua → ∃ v : Nat → Nat, (∀ j, j < 3 → q_an m' i j = v j ∧ m' 4 (3 * i + j) = nI (v j) ∧ c (60 + 2 + i) j = nI (v j)) ∧ v 0 < ug ∧ v 1 ≤ 2 ∧ v 2 ≤ 5 := fun i hi => by
    obtain ⟨v, v1, v2⟩ := r12 i hi
    refine ⟨v, fun j hj => ?_, v2⟩
    obtain ⟨w1, w2⟩ := v1 j hj
    have hv : v j < 1000 := by
      rcases (show j = 0 ∨ j = 1 ∨ j = 2 by omega) with e | e | e <;> subst e <;> omega
    refine ⟨?_, by rw [h4 _ (by omega), w1], w2⟩
    unfold q_an
    rw [h4 _ (by omega), w1, cl_n (by omega)]
  unfold RSet
  rw [e1, e2, e3]
  refine ⟨⟨r1, r2, r3⟩, ⟨by rw [h5 0 (by omega), r4], by rw [h5 1 (by omega), r5], by rw [h5 2 (by omega), r6]⟩, ⟨r7, r8, r9⟩, fun i hi j hj => ?_, fun i hi j hj => ?_, fun i hi j hj => ?_, fun i hi => ?_, fun i hi => ?_, fun i hi => ?_⟩
  · obtain ⟨v, v1, _⟩ := s1 i hi
    obtain ⟨w1, w2, w3⟩ := v1 j hj
    rw [w1, w2, w3]; exact ⟨rfl, rfl⟩
  · obtain ⟨v, v1, _⟩ := s2 i hi
    obtain ⟨w1, w2, w3⟩ := v1 j hj
    rw [w1, w2, w3]; exact ⟨rfl, rfl⟩
  · obtain ⟨v, v1, _⟩ := s3 i hi
    obtain ⟨w1, w2, w3⟩ := v1 j hj
    rw [w1, w2, w3]; exact ⟨rfl, rfl⟩
  · obtain ⟨v, v1, v2⟩ := s1 i hi
    rw [(v1 0 (by omega)).1, (v1 1 (by omega)).1, (v1 2 (by omega)).1, (v1 3 (by omega)).1, (v1 4 (by omega)).1]
    exact v2
  · obtain ⟨v, v1, v2⟩ := s2 i hi
    rw [(v1 0 (by omega)).1, (v1 1 (by omega)).1]
    exact v2
  · obtain ⟨v, v1, v2⟩ := s3 i hi
    rw [(v1 0 (by omega)).1, (v1 1 (by omega)).1, (v1 2 (by omega)).1]
    exact v2
/-- the plan that is kept stays -/
theorem RPl.fr (H : RPl c m) (hS : SM m m') (e15 : m' 15 = m 15) (h22 : c' 22 = c 22) (h29 : c' 29 = c 29) : RPl c' m' := by
  rcases H with h | ⟨law, f, cc, a1, a2, a3, u1, u2, u3, u4, u5, V, u6, u7, u8, u9⟩
  · exact Or.inl (by rw [h22]; exact h)
  refine Or.inr ⟨law, f, cc, a1, by rw [hS.q.2.2.2.1]; exact a2, a3, ?_⟩
  have hwd : q_wd m' f = q_wd m f := by rw [hS.wd]
  have hO : q_O m' f = q_O m f := by unfold q_O; rw [hS.q.2.2.2.1, hwd, e15]
  have hrow : ∀ W, w_row m' f W = w_row m f W := fun W => by funext p; unfold w_row; rw [hwd, e15]
  have hch : ∀ W n, w_ch m' f W n = w_ch m f W n := fun W n => by unfold w_ch; rw [e15]
  have hky : ∀ W, w_ky m' law f W = w_ky m law f W := fun W => by
    unfold w_ky w_we w_vo
    rw [hwd, hch, hrow, hS.ls, hS.q.1, hS.q.2.2.2.2.2.2.2.2.2.2.2]
  have hva : ∀ W, w_va m' f cc W ↔ w_va m f cc W := fun W => by
    unfold w_va w_ok
    rw [hwd, hch, hrow, hS.q.2.2.1, hS.o1, e15]
  have hpl : IsPl m' law f cc V := by
    refine ⟨(hva V).mpr u6.1, fun X hX => ?_⟩
    rw [hky, hky, hwd, hS.q.2.2.1]
    exact u6.2 X ((hva X).mp hX)
  unfold PK
  rw [h22, h29, hO, hwd]
  exact ⟨u1, u2, u3, u4, u5, V, hpl, u7, by rw [hch]; exact u8, u9⟩
theorem go_fault (R : RC c m) : ∃ v c1 m1, mX10_fault c = some (v, c1) ∧ mX11_fault m = some (v, m1) ∧ FCd c c1 ∧ FMd m m1 := by
  obtain ⟨v, c1, m1, a1, a2, a3, a4, a5⟩ := read_j R.1
  unfold mX10_fault
  rw [a1, bd2_s]
  exact ⟨v, c1, m1, rfl, a2, a3, a4⟩
theorem go_lay (R : RC c m) : ∃ v c1 m1, layC c = some (v, c1) ∧ mX11_lay m = some (v, m1) ∧ ((FCd c c1 ∧ FMd m m1) ∨ (RC c1 m1 ∧ c1 22 9 = 0)) := by
  obtain ⟨v, c1, m1, a1, a2, a3, a4, a5⟩ := read_j R.1
  unfold layC mX11_lay
  rw [a1, a2, bd2_s, bd2_s]
  by_cases hv : v = -4
  case neg =>
    rw [if_neg hv, if_neg hv]
    exact ⟨-2, c1, m1, rfl, rfl, Or.inl ⟨a3, a4⟩⟩
  rw [if_pos hv, if_pos hv]
  obtain ⟨us, ug, ua, RD1⟩ := a5 hv
  obtain ⟨m2, b1, b2, b3⟩ := cpl_14 m1
  obtain ⟨m3, d1, d2, d3⟩ := cpl_40 m2
  obtain ⟨m4, e1, e2, e3⟩ := cpl_66 m3
  obtain ⟨m5, f1, f2, f3⟩ := cpl_92 m4
  have RS : RSet 49 55 60 c1 m5 := rd_set RD1 (fun s hs => by rw [f2 2 (by decide), e2 2 (by decide), d2 2 (by decide), b3 s hs]) (fun s hs => by rw [f2 3 (by decide), e2 3 (by decide), d3 s hs, b2 7 (by decide)]) (fun s hs => by rw [f2 4 (by decide), e3 s hs, d2 8 (by decide), b2 8 (by decide)]) (fun s hs => by rw [f3 s hs, e2 9 (by decide), d2 9 (by decide), b2 9 (by decide)])
  obtain ⟨u, xx, h1, h2, h3, h4, h5, h6⟩ := R.2.2.2
  obtain ⟨c5, m6, g1, g2, g3, ⟨g4, g5, g6⟩, g7, g8, g9, g10, g11⟩ := lay2_j RS ⟨xx, h2, by rw [a3 66 (by omega), h5]⟩
  have hall : bdh (mX5_find c1) (fun h2 => bdh (mX8_clear h2) (fun h3 => bdh (mX1_clear h3) (fun h4 => bdh (mX6_forget h4) (fun h5 => some (h5 4 6, fun k => h5 (sg k)))))) = some (c5 4 6, fun k => c5 (sg k)) := by
    have : bdh (bdh (mX5_find c1) (fun h2 => bdh (mX8_clear h2) (fun h3 => bdh (mX1_clear h3) (fun h4 => mX6_forget h4)))) (fun h5 => some (h5 4 6, fun k => h5 (sg k))) = some (c5 4 6, fun k => c5 (sg k)) := by rw [g1, bdh_s]
    simp only [bdh_a] at this
    exact this
  rw [hall, b1, d1, e1, f1, g2, bdh_s, g3]
  refine ⟨_, _, m6, rfl, rfl, Or.inr ⟨⟨R.1.fr ?_ ?_ ?_ ?_, g4, g5, g6⟩, ?_⟩⟩
  · show c5 (sg 1) = c 1
    rw [show sg 1 = 1 from rfl, g8, a3 1 (by omega)]
  · show c5 (sg 2) = c 2
    rw [show sg 2 = 2 from rfl, g9, a3 2 (by omega)]
  · rw [g10, f2 0 (by decide), e2 0 (by decide), d2 0 (by decide), b2 0 (by decide), a4.2 0 (by decide)]
  · rw [g11, f2 1 (by decide), e2 1 (by decide), d2 1 (by decide), b2 1 (by decide), a4.1 1 (by decide) (by omega)]
  · show c5 (sg 22) 9 = 0
    exact g7
end EV
/-! the first text, by evaluation -/
def q_al (f : Nat → Bool) (n : Nat) : Bool := !q_any (fun k => !f k) n
theorem al_t {f : Nat → Bool} {n : Nat} (h : q_al f n = true) : ∀ k, k < n → f k = true := fun k hk => by
  unfold q_al at h
  have := any_not.mp (show q_any (fun k => !f k) n = false by simpa using h) k hk
  simpa using this
def v_s (s : Nat) : Nat := ([0, 20, 0, 30, 1, 7, 25, 1, 40, 2, 13, 18, 1, 20, 1] : List Nat).getD s 0
def v_g (s : Nat) : Nat := ([0, 6, 9, 8] : List Nat).getD s 0
def v_a (s : Nat) : Nat := ([0, 2, 1, 0, 0, 0, 1, 1, 2] : List Nat).getD s 0
def ckC1 (v : Int32) (h1 : Mm) : Bool := decide (v = -4) && (decide (h1 66 1 = nI 0) && (decide (h1 49 3 = nI 3) && (decide (h1 55 3 = nI 2) && (decide (h1 60 3 = nI 3) && (q_al (fun s => decide (h1 (51 + s / 5) (s % 5) = nI (v_s s))) 15 && (q_al (fun s => decide (h1 (57 + s / 2) (s % 2) = nI (v_g s))) 4 && q_al (fun s => decide (h1 (62 + s / 3) (s % 3) = nI (v_a s))) 9))))))
def ckC : Bool := match apN 71 with
  | some h => (match mX7_readAll h with
    | some (v, h1) => ckC1 v h1
    | none => false)
  | none => false
set_option maxRecDepth 100000 in
theorem ckC_ok : ckC = true := by decide +kernel
theorem ckC_ex : ∃ h v h1, apN 71 = some h ∧ mX7_readAll h = some (v, h1) ∧ ckC1 v h1 = true := by
  have := ckC_ok
  unfold ckC at this
  cases e : apN 71 with
  | none => rw [e] at this; cases this
  | some h =>
    rw [e] at this
    cases e2 : mX7_readAll h with
    | none => simp only [e2] at this; cases this
    | some q =>
      obtain ⟨v, h1⟩ := q
      simp only [e2] at this
      exact ⟨h, v, h1, rfl, e2, this⟩
