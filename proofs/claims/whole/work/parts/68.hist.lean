/-! PURE LAYER 8: what was before; undo -/
def RHis (c m : Mm) : Prop := ∃ u x : Nat, u ≤ 6 ∧ x < 6 ∧ m 0 19 = nI u ∧ c 66 2 = nI u ∧ c 66 1 = nI x ∧ ∀ j, j < u → RSt m (c (69 + 4 * ((x + 6 - u + j) % 6))) (c (70 + 4 * ((x + 6 - u + j) % 6))) (c (71 + 4 * ((x + 6 - u + j) % 6))) (fun k => m 16 (32 * j + k)) ∧ q_ok m (fun k => m 16 (32 * j + k)) (fun k => m 16 (32 * j + k))
def RC (c m : Mm) : Prop := RTxt c m ∧ RW c m ∧ q_ok m (m 15) (m 15) ∧ RHis c m
section EV
variable {c m c' m' : Mm}
theorem RTxt.fr (R : RTxt c m) (h1 : c' 1 = c 1) (h2 : c' 2 = c 2) (h3 : m' 0 0 = m 0 0) (h4 : m' 1 = m 1) : RTxt c' m' := by
  unfold RTxt
  rw [h1, h2, h3, h4]
  exact R
theorem RHis.fr (R : RHis c m) (hc : ∀ k, 66 ≤ k → c' k = c k) (h : SM m m') (h16 : m' 16 = m 16) (h0 : m' 0 19 = m 0 19) : RHis c' m' := by
  obtain ⟨u, x, a1, a2, a3, a4, a5, a6⟩ := R
  refine ⟨u, x, a1, a2, by rw [h0, a3], by rw [hc 66 (by omega), a4], by rw [hc 66 (by omega), a5], fun j hj => ?_⟩
  rw [hc _ (by omega), hc _ (by omega), hc _ (by omega), h16, h.st, h.ok]
  exact a6 j hj
theorem RC.fr (R : RC c m) (hc : ∀ k, (1 ≤ k ∧ k ≤ 14 ∨ 31 ≤ k ∧ k ≤ 47 ∨ 66 ≤ k) → c' k = c k) (hm : ∀ k, (1 ≤ k ∧ k ≤ 5 ∨ 10 ≤ k ∧ k ≤ 16) → m' k = m k) (h0 : ∀ j, (j = 0 ∨ j = 16 ∨ j = 19) → m' 0 j = m 0 j) : RC c' m' := by
  have hS : SM m m' := ⟨⟨hm 2 (by omega), hm 3 (by omega), hm 4 (by omega), hm 5 (by omega)⟩, ⟨hm 10 (by omega), hm 11 (by omega), hm 12 (by omega), hm 13 (by omega), hm 14 (by omega)⟩, h0 16 (by omega)⟩
  have hC : SC c c' := ⟨fun k h1 h2 => hc k (by omega), fun k h1 h2 => hc k (by omega), by rw [hc 4 (by omega)]⟩
  refine ⟨R.1.fr (hc 1 (by omega)) (hc 2 (by omega)) (h0 0 (by omega)) (hm 1 (by omega)), R.2.1.fr0 hC hS (hc 12 (by omega)) (hc 13 (by omega)) (hc 14 (by omega)) (hm 15 (by omega)), ?_, R.2.2.2.fr (fun k hk => hc k (by omega)) hS (hm 16 (by omega)) (h0 19 (by omega))⟩
  rw [hS.ok, hm 15 (by omega)]
  exact R.2.2.1
theorem RSt.cong {ca cf ct r ca' cf' ct' r' : Nat → Int32} (R : RSt m ca cf ct r) (h1 : ∀ k, k < 24 → ca' k = ca k) (h2 : ∀ k, k < 4 → cf' k = cf k) (h3 : ∀ k, k < 4 → ct' k = ct k) (h4 : ∀ k, k < 32 → r' k = r k) : RSt m ca' cf' ct' r' := by
  obtain ⟨a1, a2, a3⟩ := R
  have e1 : ∀ a, a < 4 → q_of r' a = q_of r a := fun a ha => by unfold q_of; rw [h4 _ (by omega)]
  have e2 : ∀ a, a < 4 → q_ot r' a = q_ot r a := fun a ha => by unfold q_ot; rw [h4 _ (by omega)]
  refine ⟨fun p hp => ?_, fun a ha => ?_, fun a ha => ?_⟩
  · rw [h1 p hp, h4 p (by omega)]; exact a1 p hp
  · rw [e1 a ha, e2 a ha, h4 _ (by omega), h4 _ (by omega)]; exact a2 a ha
  · rw [e1 a ha, e2 a ha, h2 a ha, h3 a ha]; exact a3 a ha
theorem ft_cong {r r' : Nat → Int32} {p a : Nat} (h : ∀ k, k < 32 → r' k = r k) (ha : a < 4) : q_ft m r' p a = q_ft m r p a := by
  unfold q_ft q_of q_ot
  rw [h _ (by omega), h _ (by omega)]
theorem ok_cong {r r' : Nat → Int32} (hp : q_np m ≤ 24) (ha : q_na m ≤ 4) (h : ∀ k, k < 32 → r' k = r k) (K : q_ok m r r) : q_ok m r' r' := by
  intro p hp' a e ha'
  rw [h p (by omega)] at e
  obtain ⟨k1, k2⟩ := K p hp' a e ha'
  refine ⟨by rw [ft_cong h (by omega)]; exact k1, fun q hq hne => ?_⟩
  have := k2 q hq hne
  unfold q_co at *
  rw [h q (by omega)]
  exact this
theorem gCp_ok {α : Type} {a b n n0 n1 : Nat} {k : Option α} (h1 : a + n ≤ n0) (h2 : b + n ≤ n1) (h3 : n0 < 2147483648) (h4 : n1 < 2147483648) : gCp (nI a) (nI b) (nI n) n0 n1 k = k := by
  unfold gCp
  rw [cl_n (by omega), cl_n (by omega), cl_n (by omega)]
  exact if_pos ⟨nI_pos (by omega), nI_pos (by omega), nI_pos (by omega), h1, h2⟩
theorem note_m {u : Nat} (hu : u ≤ 6) (e : m 0 19 = nI u) : ∃ m1, mX11_note m = some m1 ∧ (∀ k, k ≠ 0 → k ≠ 16 → m1 k = m k) ∧ (∀ j, j ≠ 19 → m1 0 j = m 0 j) ∧ m1 0 19 = nI (min (u + 1) 6) ∧ (∀ k, k < 32 → m1 16 (32 * (min (u + 1) 6 - 1) + k) = m 15 k) ∧ ∀ j, j + 1 < min (u + 1) 6 → ∀ k, k < 32 → m1 16 (32 * j + k) = m 16 (32 * (j + (u + 1 - min (u + 1) 6)) + k) := by
  have cp : ∀ (h : Mm) (w : Nat), w < 6 → h 0 19 = nI w → ∃ m1, mX11_note_49 h = some m1 ∧ (∀ k, k ≠ 0 → k ≠ 16 → m1 k = h k) ∧ (∀ j, j ≠ 19 → m1 0 j = h 0 j) ∧ m1 0 19 = nI (w + 1) ∧ ∀ t, m1 16 t = if 32 * w ≤ t ∧ t < 32 * w + 32 then h 15 (t - 32 * w) else h 16 t := by
    intro h w hw ew
    refine lo_up (fun n i x => mX11_note_51 n (nI i) x) (fun z => ∃ m1, z = some m1 ∧ (∀ k, k ≠ 0 → k ≠ 16 → m1 k = h k) ∧ (∀ j, j ≠ 19 → m1 0 j = h 0 j) ∧ m1 0 19 = nI (w + 1) ∧ ∀ t, m1 16 t = if 32 * w ≤ t ∧ t < 32 * w + 32 then h 15 (t - 32 * w) else h 16 t) (fun i x => (∀ k, k ≠ 16 → x k = h k) ∧ ∀ t, x 16 t = if 32 * w ≤ t ∧ t < 32 * w + i then h 15 (t - 32 * w) else h 16 t) 32 (fun n x hP => ?_) (fun n i x hi hP => ?_) FU 0 h (by omega) (fu_lt (by omega)) ⟨fun _ _ => rfl, fun t => by rw [if_neg (by omega)]⟩
    · obtain ⟨p1, p2⟩ := hP
      refine ⟨wr x 0 19 (nI (w + 1)), ?_, fun k k0 k1 => ?_, fun j hj => ?_, wr_same _ _ _ _, fun t => ?_⟩
      · show mX11_note_51 (n + 1) _ _ = _
        rw [mX11_note_51, if_pos (by decide), p1 0 (by decide), ew, ad_1, mlet_s]
      · rw [wr_cell _ _ _ k0, p1 k k1]
      · rw [wr_slot _ _ _ hj, p1 0 (by decide)]
      · rw [wr_cell _ _ _ (by decide), p2]
    · obtain ⟨p1, p2⟩ := hP
      refine ⟨wr x 16 (32 * w + i) (h 15 i), ?_, fun k hk => ?_, fun t => ?_⟩
      · show mX11_note_51 (n + 1) _ _ = mX11_note_51 n _ _
        rw [mX11_note_51, li_32, if_neg (nI_ge hi (by omega)), gIn_nI hi (by omega), p1 0 (by decide), ew, pk_mul, nI_add, gIn_nI (by omega) (by omega), mlet_s, cl_n (by omega), cl_n (by omega), p1 15 (by decide), ad_1]
      · rw [wr_cell _ _ _ hk, p1 k hk]
      · rw [wr_if]
        by_cases ht : t = 32 * w + i
        · rw [if_pos ⟨rfl, ht⟩, if_pos (by omega), ht, Nat.add_sub_cancel_left]
        · rw [if_neg (fun z => ht z.2), p2]
          by_cases hq : 32 * w ≤ t ∧ t < 32 * w + i
          · rw [if_pos hq, if_pos (by omega)]
          · rw [if_neg hq, if_neg (by omega)]
  unfold mX11_note
  by_cases h6 : u = 6
  · subst h6
    rw [e, if_pos (show nI 6 = (6 : Int32) from rfl)]
    have hmin : min (6 + 1) 6 = 6 := rfl
    rw [hmin]
    refine lo_up (fun n i x => mX11_note_11 n (nI i) x) (fun z => ∃ m1, z = some m1 ∧ (∀ k, k ≠ 0 → k ≠ 16 → m1 k = m k) ∧ (∀ j, j ≠ 19 → m1 0 j = m 0 j) ∧ m1 0 19 = nI 6 ∧ (∀ k, k < 32 → m1 16 (32 * (6 - 1) + k) = m 15 k) ∧ ∀ j, j + 1 < 6 → ∀ k, k < 32 → m1 16 (32 * j + k) = m 16 (32 * (j + (6 + 1 - 6)) + k)) (fun i x => (∀ k, k ≠ 16 → x k = m k) ∧ ∀ t, x 16 t = if t < i then m 16 (32 + t) else m 16 t) 160 (fun n x hP => ?_) (fun n i x hi hP => ?_) FU 0 m (by omega) (fu_lt (by omega)) ⟨fun _ _ => rfl, fun t => by rw [if_neg (by omega)]⟩
    · obtain ⟨p1, p2⟩ := hP
      obtain ⟨m1, q1, q2, q3, q4, q5⟩ := cp (wr x 0 19 (nI 5)) 5 (by omega) (wr_same _ _ _ _)
      refine ⟨m1, ?_, fun k k0 k1 => ?_, fun j hj => ?_, q4, fun k hk => ?_, fun j hj k hk => ?_⟩
      · show mX11_note_11 (n + 1) _ _ = _
        rw [mX11_note_11, if_pos (by decide), p1 0 (by decide), e, li_1, pk_sub (by omega), mlet_s]
        exact q1
      · rw [q2 k k0 k1, wr_cell _ _ _ k0, p1 k k1]
      · rw [q3 j hj, wr_slot _ _ _ hj, p1 0 (by decide)]
      · rw [q5, if_pos (by omega), wr_cell _ _ _ (by decide), p1 15 (by decide)]
        exact congrArg _ (by omega)
      · rw [q5, if_neg (by omega), wr_cell _ _ _ (by decide), p2, if_pos (by omega)]
        exact congrArg _ (by omega)
    · obtain ⟨p1, p2⟩ := hP
      refine ⟨wr x 16 i (m 16 (32 + i)), ?_, fun k hk => ?_, fun t => ?_⟩
      · show mX11_note_11 (n + 1) _ _ = mX11_note_11 n _ _
        rw [mX11_note_11, li_160, if_neg (nI_ge hi (by omega)), ad_32, gIn_nI (by omega) (by omega), gIn_nI (by omega) (by omega), mlet_s, cl_n (by omega), cl_n (by omega), p2, if_neg (by omega), ad_1]
      · rw [wr_cell _ _ _ hk, p1 k hk]
      · rw [wr_if]
        by_cases ht : t = i
        · rw [if_pos ⟨rfl, ht⟩, if_pos (by omega), ht]
        · rw [if_neg (fun z => ht z.2), p2]
          by_cases hq : t < i
          · rw [if_pos hq, if_pos (by omega)]
          · rw [if_neg hq, if_neg (by omega)]
  · have hmin : min (u + 1) 6 = u + 1 := Nat.min_eq_left (by omega)
    rw [e, if_neg (by rw [li_6, nz_eq (by omega) (by omega)]; exact h6), hmin]
    obtain ⟨m1, q1, q2, q3, q4, q5⟩ := cp m u (by omega) e
    refine ⟨m1, q1, q2, q3, q4, fun k hk => ?_, fun j hj k hk => ?_⟩
    · rw [q5, if_pos (by omega)]
      exact congrArg _ (by omega)
    · rw [q5, if_neg (by omega)]
      exact congrArg _ (by omega)
theorem keep_c {u x : Nat} (hu : u ≤ 6) (hx : x < 6) (e1 : c 66 2 = nI u) (e2 : c 66 1 = nI x) : ∃ c1, mX10_prepareChange c = some c1 ∧ (∀ k, k ≠ 66 → k ≠ 22 → k ≠ 69 + 4 * x → k ≠ 70 + 4 * x → k ≠ 71 + 4 * x → c1 k = c k) ∧ c1 22 9 = 0 ∧ (∀ j, j ≠ 9 → c1 22 j = c 22 j) ∧ c1 66 2 = nI (min (u + 1) 6) ∧ c1 66 1 = nI ((x + 1) % 6) ∧ (∀ k, k < 24 → c1 (69 + 4 * x) k = c 12 k) ∧ (∀ k, k < 4 → c1 (70 + 4 * x) k = c 13 k) ∧ (∀ k, k < 4 → c1 (71 + 4 * x) k = c 14 k) := by
  unfold mX10_prepareChange mX1_keep mX8_copyFrom_g67_11
  rw [e2, gIn_nI hx (by omega), cl_n (by omega)]
  simp only [li_0]
  rw [gCp_ok (by omega) (by omega) (by omega) (by omega), mlet_s, gCp_ok (by omega) (by omega) (by omega) (by omega), mlet_s, gCp_ok (by omega) (by omega) (by omega) (by omega), mlet_s, bdh_s]
  simp (disch := omega) only [cl_n]
  generalize hg : va_up _ (71 + 4 * x) _ = g
  have f1 : ∀ k, k ≠ 69 + 4 * x → k ≠ 70 + 4 * x → k ≠ 71 + 4 * x → g k = c k := fun k k1 k2 k3 => by rw [← hg, va_up_ne _ _ k3, va_up_ne _ _ k2, va_up_ne _ _ k1]
  have f2 : ∀ k, k < 24 → g (69 + 4 * x) k = c 12 k := fun k hk => by
    rw [← hg, va_up_ne _ _ (by omega), va_up_ne _ _ (by omega), va_up_self, va_cpy, if_pos (by omega)]
    exact congrArg _ (by omega)
  have f3 : ∀ k, k < 4 → g (70 + 4 * x) k = c 13 k := fun k hk => by
    rw [← hg, va_up_ne _ _ (by omega), va_up_self, va_cpy, if_pos (by omega), va_up_ne _ _ (by omega)]
    exact congrArg _ (by omega)
  have f4 : ∀ k, k < 4 → g (71 + 4 * x) k = c 14 k := fun k hk => by
    rw [← hg, va_up_self, va_cpy, if_pos (by omega), va_up_ne _ _ (by omega), va_up_ne _ _ (by omega)]
    exact congrArg _ (by omega)
  have g1 : g 66 1 = nI x := by rw [f1 66 (by omega) (by omega) (by omega), e2]
  have g2 : g 66 2 = nI u := by rw [f1 66 (by omega) (by omega) (by omega), e1]
  rw [g1, ad_1, li_6, pk_rem (by omega) (by omega) (by omega)]
  unfold gNz mJ9_min_7cf53 mX6_forget
  rw [if_neg (by decide)]
  simp only [mlet_s]
  rw [wr_slot _ _ _ (by decide), g2, ad_1]
  simp (disch := omega) only [nz_lt, mlet_s, bd1_s, bdh_s, bd1_ite]
  have hm : (if 6 < u + 1 then nI 6 else nI (u + 1)) = nI (min (u + 1) 6) := by
    by_cases h : 6 < u + 1
    · rw [if_pos h, Nat.min_eq_right (by omega)]
    · rw [if_neg h, Nat.min_eq_left (by omega)]
  refine ⟨wr (wr (wr g 66 1 (nI ((x + 1) % 6))) 66 2 (nI (min (u + 1) 6))) 22 9 (nI 0), ?_, fun k k1 k2 k3 k4 k5 => ?_, wr_same _ _ _ _, fun j hj => ?_, ?_, ?_, fun k hk => ?_, fun k hk => ?_, fun k hk => ?_⟩
  · rw [← hm]
    by_cases h : 6 < u + 1
    · rw [if_pos h, if_pos h]; rfl
    · rw [if_neg h, if_neg h]; rfl
  · rw [wr_cell _ _ _ k2, wr_cell _ _ _ k1, wr_cell _ _ _ k1, f1 k k3 k4 k5]
  · rw [wr_slot _ _ _ hj, wr_cell _ _ _ (by decide), wr_cell _ _ _ (by decide), f1 22 (by omega) (by omega) (by omega)]
  · rw [wr_cell _ _ _ (by decide), wr_same]
  · rw [wr_cell _ _ _ (by decide), wr_slot _ _ _ (by decide), wr_same]
  · rw [wr_cell _ _ _ (by omega), wr_cell _ _ _ (by omega), wr_cell _ _ _ (by omega), f2 k hk]
  · rw [wr_cell _ _ _ (by omega), wr_cell _ _ _ (by omega), wr_cell _ _ _ (by omega), f3 k hk]
  · rw [wr_cell _ _ _ (by omega), wr_cell _ _ _ (by omega), wr_cell _ _ _ (by omega), f4 k hk]
/-- a change begins -/
theorem prep_ok (R : RC c m) : ∃ c1 m1, mX10_prepareChange c = some c1 ∧ mX11_note m = some m1 ∧ RC c1 m1 ∧ SM m m1 ∧ c1 22 9 = 0 ∧ (∀ k, k < 66 → k ≠ 22 → c1 k = c k) ∧ (∀ j, j ≠ 9 → c1 22 j = c 22 j) ∧ (∀ k, k ≠ 0 → k ≠ 16 → m1 k = m k) ∧ (∀ j, j ≠ 19 → m1 0 j = m 0 j) := by
  obtain ⟨RT, RWW, K, u, x, hu, hx, a3, a4, a5, a6⟩ := R
  obtain ⟨c1, b1, b2, b3, b4, b5, b6, b7, b8, b9⟩ := keep_c hu hx a4 a5
  obtain ⟨m1, d1, d2, d3, d4, d5, d6⟩ := note_m hu a3
  have hS : SM m m1 := ⟨⟨d2 2 (by decide) (by decide), d2 3 (by decide) (by decide), d2 4 (by decide) (by decide), d2 5 (by decide) (by decide)⟩, ⟨d2 10 (by decide) (by decide), d2 11 (by decide) (by decide), d2 12 (by decide) (by decide), d2 13 (by decide) (by decide), d2 14 (by decide) (by decide)⟩, d3 16 (by decide)⟩
  have hb : ∀ k, k < 66 → k ≠ 22 → c1 k = c k := fun k h1 h2 => b2 k (by omega) h2 (by omega) (by omega) (by omega)
  have hC : SC c c1 := ⟨fun k h1 h2 => hb k (by omega) (by omega), fun k h1 h2 => hb k (by omega) (by omega), by rw [hb 4 (by omega) (by omega)]⟩
  have hnp := RWW.np; have hna := RWW.na
  have e15 := d2 15 (by decide) (by decide)
  have RW1 : RW c1 m1 := RWW.fr0 hC hS (hb 12 (by omega) (by omega)) (hb 13 (by omega) (by omega)) (hb 14 (by omega) (by omega)) e15
  refine ⟨c1, m1, b1, d1, ⟨RT.fr (hb 1 (by omega) (by omega)) (hb 2 (by omega) (by omega)) (d3 0 (by decide)) (d2 1 (by decide) (by decide)), RW1, by rw [hS.ok, e15]; exact K, min (u + 1) 6, (x + 1) % 6, Nat.min_le_right _ _, Nat.mod_lt _ (by omega), d4, b5, b6, fun j hj => ?_⟩, hS, b3, hb, b4, d2, d3⟩
  rw [hS.st, hS.ok]
  by_cases hl : j + 1 = min (u + 1) 6
  · have ei : ((x + 1) % 6 + 6 - min (u + 1) 6 + j) % 6 = x := by omega
    rw [ei]
    have ej : j = min (u + 1) 6 - 1 := by omega
    have er : ∀ k, k < 32 → m1 16 (32 * j + k) = m 15 k := fun k hk => by rw [ej]; exact d5 k hk
    exact ⟨RWW.2.2.cong b7 b8 b9 er, ok_cong hnp hna er K⟩
  · have hlt : j + 1 < min (u + 1) 6 := by omega
    have hj0 : j + (u + 1 - min (u + 1) 6) < u := by omega
    have ei : ((x + 1) % 6 + 6 - min (u + 1) 6 + j) % 6 = (x + 6 - u + (j + (u + 1 - min (u + 1) 6))) % 6 := by omega
    have ne : (x + 6 - u + (j + (u + 1 - min (u + 1) 6))) % 6 ≠ x := by omega
    obtain ⟨z1, z2⟩ := a6 _ hj0
    rw [ei, b2 _ (by omega) (by omega) (by omega) (by omega) (by omega), b2 _ (by omega) (by omega) (by omega) (by omega) (by omega), b2 _ (by omega) (by omega) (by omega) (by omega) (by omega)]
    exact ⟨z1.cong (fun _ _ => rfl) (fun _ _ => rfl) (fun _ _ => rfl) (d6 j hlt), ok_cong hnp hna (d6 j hlt) z2⟩
theorem go_undo (R : RC c m) : ∃ v c1 m1, mX10_undo c = some (v, c1) ∧ mX11_undo m = some (v, m1) ∧ RC c1 m1 ∧ (c1 22 9 = 0 ∨ c1 = c ∧ m1 = m) := by
  obtain ⟨RT, RWW, K, u, x, hu, hx, a3, a4, a5, a6⟩ := id R
  unfold mX10_undo mX11_undo
  rw [a3, a4]
  by_cases h0 : u = 0
  · subst h0
    exact ⟨-2, c, m, rfl, rfl, R, Or.inr ⟨rfl, rfl⟩⟩
  have hne : ¬ nI u = 0 := by rw [li_0, nz_eq (by omega) (by omega)]; exact h0
  rw [if_neg hne, if_neg hne, li_1, pk_sub (by omega), mlet_s]
  have hnp := RWW.np; have hna := RWW.na
  have cl : ∃ c1, bdh (mX6_forget c) (fun h1 => bdh (mX1_bringBack h1) (fun h2 => some ((h2 66 2), h2))) = some (nI (u - 1), c1) ∧ (∀ k, k ≠ 66 → k ≠ 22 → k ≠ 12 → k ≠ 13 → k ≠ 14 → c1 k = c k) ∧ c1 22 9 = 0 ∧ c1 66 2 = nI (u - 1) ∧ c1 66 1 = nI ((x + 5) % 6) ∧ (∀ k, k < 24 → c1 12 k = c (69 + 4 * ((x + 5) % 6)) k) ∧ (∀ k, k < 4 → c1 13 k = c (70 + 4 * ((x + 5) % 6)) k) ∧ (∀ k, k < 4 → c1 14 k = c (71 + 4 * ((x + 5) % 6)) k) := by
    unfold mX6_forget mX1_bringBack
    rw [mlet_s, bdh_s, wr_cell _ _ _ (by decide), a5, li_6, nI_add, li_1, pk_sub (by omega), pk_rem (by omega) (by omega) (by omega)]
    unfold gNz
    rw [if_neg (by decide)]
    simp (disch := decide) only [mlet_s, wr_same, wr_slot, wr_cell, a4]
    rw [pk_sub (by omega), show x + 6 - 1 = x + 5 from by omega]
    generalize hy : (x + 5) % 6 = y
    have hy6 : y < 6 := by omega
    rw [gIn_nI hy6 (by omega), cl_n (by omega)]
    generalize hg : wr (wr (wr c 22 9 0) 66 1 (nI y)) 66 2 (nI (u - 1)) = g
    have g1 : ∀ k, k ≠ 66 → k ≠ 22 → g k = c k := fun k k1 k2 => by rw [← hg, wr_cell _ _ _ k1, wr_cell _ _ _ k1, wr_cell _ _ _ k2]
    have g2 : g 22 9 = 0 := by rw [← hg, wr_cell _ _ _ (by decide), wr_cell _ _ _ (by decide), wr_same]
    have g3 : g 66 1 = nI y := by rw [← hg, wr_slot _ _ _ (by decide), wr_same]
    have g4 : g 66 2 = nI (u - 1) := by rw [← hg, wr_same]
    unfold mX8_copyFrom_11_g67
    simp only [li_0]
    rw [gCp_ok (by omega) (by omega) (by omega) (by omega), mlet_s, gCp_ok (by omega) (by omega) (by omega) (by omega), mlet_s, gCp_ok (by omega) (by omega) (by omega) (by omega), mlet_s, bdh_s, bdh_s]
    simp (disch := omega) only [cl_n]
    generalize hq : va_up _ 14 _ = g5
    have f1 : ∀ k, k ≠ 12 → k ≠ 13 → k ≠ 14 → g5 k = g k := fun k k1 k2 k3 => by rw [← hq, va_up_ne _ _ k3, va_up_ne _ _ k2, va_up_ne _ _ k1]
    refine ⟨g5, ?_, fun k k1 k2 k3 k4 k5 => ?_, ?_, ?_, ?_, fun k hk => ?_, fun k hk => ?_, fun k hk => ?_⟩
    · rw [f1 66 (by decide) (by decide) (by decide), g4]
    · rw [f1 k k3 k4 k5, g1 k k1 k2]
    · rw [f1 22 (by decide) (by decide) (by decide), g2]; rfl
    · rw [f1 66 (by decide) (by decide) (by decide), g4]
    · rw [f1 66 (by decide) (by decide) (by decide), g3]
    · rw [← hq, va_up_ne _ _ (by omega), va_up_ne _ _ (by omega), va_up_self, va_cpy, if_pos (by omega), g1 _ (by omega) (by omega)]
      exact congrArg _ (by omega)
    · rw [← hq, va_up_ne _ _ (by omega), va_up_self, va_cpy, if_pos (by omega), va_up_ne _ _ (by omega), g1 _ (by omega) (by omega)]
      exact congrArg _ (by omega)
    · rw [← hq, va_up_self, va_cpy, if_pos (by omega), va_up_ne _ _ (by omega), va_up_ne _ _ (by omega), g1 _ (by omega) (by omega)]
      exact congrArg _ (by omega)
  obtain ⟨c1, b1, b2, b3, b4, b5, b7, b8, b9⟩ := cl
  have ml : ∃ m1, mX11_undo_22 FU (nI 0) (wr m 0 19 (nI (u - 1))) = some (nI (u - 1), m1) ∧ (∀ k, k ≠ 0 → k ≠ 15 → m1 k = m k) ∧ (∀ j, j ≠ 19 → m1 0 j = m 0 j) ∧ m1 0 19 = nI (u - 1) ∧ ∀ k, k < 32 → m1 15 k = m 16 (32 * (u - 1) + k) := by
    refine lo_up (fun n i x => mX11_undo_22 n (nI i) x) (fun z => ∃ m1, z = some (nI (u - 1), m1) ∧ (∀ k, k ≠ 0 → k ≠ 15 → m1 k = m k) ∧ (∀ j, j ≠ 19 → m1 0 j = m 0 j) ∧ m1 0 19 = nI (u - 1) ∧ ∀ k, k < 32 → m1 15 k = m 16 (32 * (u - 1) + k)) (fun i y => (∀ k, k ≠ 0 → k ≠ 15 → y k = m k) ∧ (∀ j, j ≠ 19 → y 0 j = m 0 j) ∧ y 0 19 = nI (u - 1) ∧ ∀ k, k < i → y 15 k = m 16 (32 * (u - 1) + k)) 32 (fun n y hP => ?_) (fun n i y hi hP => ?_) FU 0 _ (by omega) (fu_lt (by omega)) ⟨fun k k0 _ => wr_cell _ _ _ k0, fun j hj => wr_slot _ _ _ hj, wr_same _ _ _ _, fun k hk => by omega⟩
    · obtain ⟨p1, p2, p3, p4⟩ := hP
      refine ⟨y, ?_, p1, p2, p3, p4⟩
      show mX11_undo_22 (n + 1) _ _ = _
      rw [mX11_undo_22, if_pos (by decide), p3]
    · obtain ⟨p1, p2, p3, p4⟩ := hP
      refine ⟨wr y 15 i (m 16 (32 * (u - 1) + i)), ?_, fun k k0 k1 => ?_, fun j hj => ?_, ?_, fun k hk => ?_⟩
      · show mX11_undo_22 (n + 1) _ _ = mX11_undo_22 n _ _
        rw [mX11_undo_22, li_32, if_neg (nI_ge hi (by omega)), p3, pk_mul, nI_add, gIn_nI (by omega) (by omega), gIn_nI hi (by omega), mlet_s, cl_n (by omega), cl_n (by omega), p1 16 (by decide) (by decide), ad_1]
      · rw [wr_cell _ _ _ k1, p1 k k0 k1]
      · rw [wr_cell _ _ _ (by decide), p2 j hj]
      · rw [wr_cell _ _ _ (by decide), p3]
      · by_cases hki : k = i
        · rw [hki, wr_same]
        · rw [wr_slot _ _ _ hki, p4 k (by omega)]
  obtain ⟨m1, d1, d2, d3, d4, d5⟩ := ml
  have hS : SM m m1 := ⟨⟨d2 2 (by decide) (by decide), d2 3 (by decide) (by decide), d2 4 (by decide) (by decide), d2 5 (by decide) (by decide)⟩, ⟨d2 10 (by decide) (by decide), d2 11 (by decide) (by decide), d2 12 (by decide) (by decide), d2 13 (by decide) (by decide), d2 14 (by decide) (by decide)⟩, d3 16 (by decide)⟩
  have hb : ∀ k, k < 66 ∨ 66 < k → k ≠ 22 → k ≠ 12 → k ≠ 13 → k ≠ 14 → c1 k = c k := fun k h1 h2 => b2 k (by omega) h2
  have hC : SC c c1 := ⟨fun k h1 h2 => hb k (by omega) (by omega) (by omega) (by omega) (by omega), fun k h1 h2 => hb k (by omega) (by omega) (by omega) (by omega) (by omega), by rw [hb 4 (by omega) (by omega) (by omega) (by omega) (by omega)]⟩
  obtain ⟨z1, z2⟩ := a6 (u - 1) (by omega)
  have ei : (x + 6 - u + (u - 1)) % 6 = (x + 5) % 6 := by omega
  rw [ei] at z1
  refine ⟨nI (u - 1), c1, m1, b1, d1, ⟨RT.fr (hb 1 (by omega) (by omega) (by omega) (by omega) (by omega)) (hb 2 (by omega) (by omega) (by omega) (by omega) (by omega)) (d3 0 (by decide)) (d2 1 (by decide) (by decide)), RWW.fr hC hS (z1.cong b7 b8 b9 d5), ?_, u - 1, (x + 5) % 6, by omega, by omega, d4, b4, b5, fun j hj => ?_⟩, Or.inl b3⟩
  · rw [hS.ok]
    exact ok_cong hnp hna d5 z2
  · have ej : ((x + 5) % 6 + 6 - (u - 1) + j) % 6 = (x + 6 - u + j) % 6 := by omega
    rw [ej, hS.st, hS.ok, d2 16 (by decide) (by decide), hb _ (by omega) (by omega) (by omega) (by omega) (by omega), hb _ (by omega) (by omega) (by omega) (by omega) (by omega), hb _ (by omega) (by omega) (by omega) (by omega) (by omega)]
    exact a6 j (by omega)
end EV
