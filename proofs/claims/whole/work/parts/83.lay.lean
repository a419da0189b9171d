/-! PURE LAYER 23: lay -/
def LI (ns ng : Nat) (c m : Mm) (t : Nat) : Prop := RSet 49 55 60 c m ∧ RPas c m ∧ (∀ p, p < q_np m → q_fi m p ≤ t) ∧ q_ns m = ns ∧ q_ng m = ng
def FLy (c c' : Mm) : Prop := (∀ k, (k < 4 ∨ 10 < k) → c' k = c k) ∧ ∀ s, s ≠ 6 → c' 4 s = c 4 s
def GLy (m m' : Mm) : Prop := (∀ k, k ≠ 0 → (k < 10 ∨ 14 < k) → m' k = m k) ∧ ∀ s, s ≠ 16 → m' 0 s = m 0 s
theorem FLy.tr {a b d : Mm} (h : FLy a b) (g : FLy b d) : FLy a d := ⟨fun k hk => (g.1 k hk).trans (h.1 k hk), fun s hs => (g.2 s hs).trans (h.2 s hs)⟩
theorem GLy.tr {a b d : Mm} (h : GLy a b) (g : GLy b d) : GLy a d := ⟨fun k k1 k2 => (g.1 k k1 k2).trans (h.1 k k1 k2), fun s hs => (g.2 s hs).trans (h.2 s hs)⟩
theorem FLy.rfl' (c : Mm) : FLy c c := ⟨fun _ _ => rfl, fun _ _ => rfl⟩
theorem GLy.rfl' (m : Mm) : GLy m m := ⟨fun _ _ _ => rfl, fun _ _ => rfl⟩
section EV
variable {c m c' m' x y : Mm} {ns ng t : Nat}
theorem app_j (h : LI ns ng c m t) {i j q : Nat} {k7 : Int32 → Mm → Option Mm} {k15 : Int32 → Int32 → Mm → Option Mm} (hi : i < ns) (hj : j < ng) (ht : t ≤ 59) : ∃ c1 m1, mX5_append c (nI i) (nI j) (nI t) = some c1 ∧ mX11_lays_84 k7 k15 (nI t) (nI q) (nI i) (nI j) 1 m = k15 (nI t) (nI (q + 1)) m1 ∧ LI ns ng c1 m1 t ∧ FLy c c1 ∧ GLy m m1 := by
  obtain ⟨RS, RP, hfi, hns, hng⟩ := id h
  have h0 := RP.1
  have e46 := RP.2.2.1
  have e016 := RP.2.1
  unfold mX5_append mX11_lays_84 mX11_lays_237
  rw [if_neg (by decide : ¬ (1 : Int32) = 0), e46, e016, li_24, ad_1]
  by_cases hn : q_np m < 24
  case neg =>
    rw [if_neg (by rw [nz_lt (by omega) (by omega)]; exact hn), if_pos (nI_le (by omega) (by omega))]
    exact ⟨c, m, rfl, rfl, h, FLy.rfl' c, GLy.rfl' m⟩
  rw [if_pos (by rw [nz_lt (by omega) (by omega)]; exact hn), if_neg (nI_ge hn (by omega)), mlet_s, gIn_nI hn (by omega), mlet_s, gIn_nI hn (by omega), mlet_s, cl_n (by omega)]
  generalize hp : q_np m = p at *
  generalize hy0 : wr (wr c 5 p (nI t)) 6 p (nI t) = y0
  have f0 : ∀ k, k ≠ 5 → k ≠ 6 → y0 k = c k := fun k k1 k2 => by rw [← hy0, wr_cell _ _ _ k2, wr_cell _ _ _ k1]
  have f5 : y0 5 = upd (c 5) p (nI t) := by rw [← hy0, wr_cell _ _ _ (by decide), wr_row]
  have f6 : y0 6 = upd (c 6) p (nI t) := by rw [← hy0, wr_row, wr_cell _ _ _ (by decide)]
  have R0 : RSet 49 55 60 y0 m := RS.fd (fun k k1 k2 => f0 k (by omega) (by omega)) ⟨rfl, rfl, rfl, rfl⟩
  obtain ⟨E, y1, a1, a2, a3, a4, a5, a6, a7⟩ := run_j R0 (i := i) (j := j) (t := t) (p := p) (q := q) (k7 := k7) (k15 := k15) (by omega) (by omega) hn FU t y0 (Nat.le_refl _) ht (fu_lt (by omega)) (by rw [f6, upd_eq]) (fun _ _ => rfl)
  rw [a3, a4]
  have R1 : RSet 49 55 60 y1 m := R0.fd (fun k k1 k2 => a6 k (by omega)) ⟨rfl, rfl, rfl, rfl⟩
  obtain ⟨c1, b1, b2, b3, b4, b5, b6, b7, b8, b9⟩ := app_c R1 (i := i) (j := j) (t := t) (p := p) (E := E) (by omega) (by omega) hn a1 a2 (by rw [a6 5 (by decide), f5, upd_eq]) a5 (by rw [a6 4 (by decide), f0 4 (by decide) (by decide), e46])
  obtain ⟨m1, d1, d2, d3, d4, d5, d6, d7, d8, d9, d10⟩ := app_m RS (i := i) (j := j) (t := t) (p := p) (E := E) (q := q) (k7 := k7) (k15 := k15) (by omega) hn a1 a2 e016
  have FLc : FLy c c1 := ⟨fun k hk => by rw [b2 k (by omega) (by omega) (by omega) (by omega) (by omega), a6 k (by omega), f0 k (by omega) (by omega)], fun s hs => by rw [b3 s hs, a6 4 (by decide), f0 4 (by decide) (by decide)]⟩
  have GLm : GLy m m1 := ⟨fun k k1 k2 => d2 k k1 (by omega) (by omega) (by omega) (by omega) (by omega), d3⟩
  have S5 : SM5 m m1 := ⟨GLm.1 2 (by decide) (by decide), GLm.1 3 (by decide) (by decide), GLm.1 4 (by decide) (by decide), GLm.1 5 (by decide) (by decide)⟩
  have hb := (RS.2.2.2.2.2.2.1 i (by omega)).2.2.2.1
  have hvb := vv_b (b := q_sa m i 2) (t := t) (E := E) (n := E - t + 1) hb a2 (by omega)
  have hv1 := vv_1 (b := q_sa m i 2) (t := t) (E := E) (n := E - t + 1) (by omega)
  have hns4 := RS.1.1
  have hng3 := RS.1.2.1
  have np1 : q_np m1 = p + 1 := by unfold q_np; rw [d4, cl_n (by omega)]
  have u1 : ∀ s, s ≠ p → q_fi m1 s = q_fi m s := fun s hs => by unfold q_fi; rw [(d5 s hs).1]
  have u2 : ∀ s, s ≠ p → q_la m1 s = q_la m s := fun s hs => by unfold q_la; rw [(d5 s hs).2.1]
  have u3 : ∀ s, s ≠ p → q_wh m1 s = q_wh m s := fun s hs => by unfold q_wh; rw [(d5 s hs).2.2.1]
  have u4 : ∀ s, s ≠ p → q_we m1 s = q_we m s := fun s hs => by unfold q_we; rw [(d5 s hs).2.2.2.1]
  have u5 : ∀ s, s ≠ p → q_vo m1 s = q_vo m s := fun s hs => by unfold q_vo; rw [(d5 s hs).2.2.2.2]
  have w1 : q_fi m1 p = t := by unfold q_fi; rw [d6, cl_n (by omega)]
  have w2 : q_la m1 p = E := by unfold q_la; rw [d7, cl_n (by omega)]
  have w3 : q_wh m1 p = i := by unfold q_wh; rw [d8, cl_n (by omega)]
  have w4 : q_we m1 p = j := by unfold q_we; rw [d9, cl_n (by omega)]
  have w5 : q_vo m1 p = q_vv (q_sa m i 2) t E (E - t + 1) := by unfold q_vo; rw [d10, cl_n (by omega)]
  obtain ⟨P1, P2, P3, P4, P5, P6, P7⟩ := RP
  rw [hp] at P4 P5 P6 P7
  have c5 : ∀ s, s ≠ p → c1 5 s = c 5 s := fun s hs => by rw [b2 5 (by decide) (by decide) (by decide) (by decide) (by decide), a6 5 (by decide), f5, upd_ne _ _ hs]
  have c5' : c1 5 p = nI t := by rw [b2 5 (by decide) (by decide) (by decide) (by decide) (by decide), a6 5 (by decide), f5, upd_eq]
  have c6 : ∀ s, s ≠ p → c1 6 s = c 6 s := fun s hs => by rw [b2 6 (by decide) (by decide) (by decide) (by decide) (by decide), a7 s hs, f6, upd_ne _ _ hs]
  have c6' : c1 6 p = nI E := by rw [b2 6 (by decide) (by decide) (by decide) (by decide) (by decide), a5]
  have cr : ∀ s, s ≠ p → c1 7 s = c 7 s ∧ c1 8 s = c 8 s ∧ c1 9 s = c 9 s ∧ c1 10 s = c 10 s := fun s hs => by
    obtain ⟨z1, z2, z3, z4⟩ := b5 s hs
    rw [z1, z2, z3, z4, a6 7 (by decide), a6 8 (by decide), a6 9 (by decide), a6 10 (by decide), f0 7 (by decide) (by decide), f0 8 (by decide) (by decide), f0 9 (by decide) (by decide), f0 10 (by decide) (by decide)]
    exact ⟨rfl, rfl, rfl, rfl⟩
  refine ⟨c1, m1, b1, d1, ⟨RS.fd (fun k k1 k2 => FLc.1 k (by omega)) S5, ⟨?_, ?_, ?_, ?_, ?_, ?_, ?_⟩, ?_, ?_, ?_⟩, FLc, GLm⟩
  · rw [np1]; omega
  · rw [np1]; exact d4
  · rw [np1]; exact b4
  · intro s hs
    rw [np1] at hs
    by_cases e : s = p
    · subst e; rw [w1, w2, w3, w4, w5]; exact ⟨d6, d7, d8, d9, d10⟩
    · obtain ⟨z1, z2, z3, z4, z5⟩ := d5 s e
      rw [u1 s e, u2 s e, u3 s e, u4 s e, u5 s e, z1, z2, z3, z4, z5]
      exact P4 s (by omega)
  · intro s hs
    rw [np1] at hs
    rw [S5.q.2.2.2.1]
    by_cases e : s = p
    · subst e; rw [w1, w2, w3, w4, w5]; exact ⟨c5', c6', b6, b7, b8, b9⟩
    · obtain ⟨z1, z2, z3, z4⟩ := cr s e
      rw [u1 s e, u2 s e, u3 s e, u4 s e, u5 s e, c5 s e, c6 s e, z1, z2, z3, z4]
      exact P5 s (by omega)
  · intro s hs
    rw [np1] at hs
    rw [S5.q.1, S5.q.2.1]
    by_cases e : s = p
    · subst e; rw [w1, w2, w3, w4, w5]; exact ⟨a1, a2, by omega, by omega, hv1, hvb⟩
    · rw [u1 s e, u2 s e, u3 s e, u4 s e, u5 s e]
      exact P6 s (by omega)
  · intro s r hsr hr
    rw [np1] at hr
    by_cases e : r = p
    · subst e
      rw [w1]
      by_cases e2 : s = r
      · subst e2; rw [w1]; exact Nat.le_refl _
      · rw [u1 s e2]; exact hfi s (by omega)
    · rw [u1 r e, u1 s (by omega)]
      exact P7 s r hsr (by omega)
  · intro s hs
    rw [np1] at hs
    by_cases e : s = p
    · subst e; rw [w1]; exact Nat.le_refl _
    · rw [u1 s e]; exact hfi s (by omega)
  · rw [S5.q.1]; exact hns
  · rw [S5.q.2.1]; exact hng
theorem cell_j (h : LI ns ng c m t) {i j n u : Nat} {kc7 : Int32 → Mm → Option Mm} {kc15 : Int32 → Int32 → Mm → Option Mm} {km7 : Int32 → Mm → Option Mm} (hi : i < ns) (hj : j < ng) (ht : t ≤ 59) : ∃ c1 m1, mX5_find_29 kc7 kc15 (n + 1) (nI t) (nI i) (nI j) c = mX5_find_29 kc7 kc15 n (nI t) (nI i) (nI (j + 1)) c1 ∧ mX11_lays_15 km7 (u + 1) (nI t) (nI (i * ng + j)) m = mX11_lays_15 km7 u (nI t) (nI (i * ng + (j + 1))) m1 ∧ LI ns ng c1 m1 t ∧ FLy c c1 ∧ GLy m m1 := by
  obtain ⟨RS, RP, hfi, hns, hng⟩ := id h
  have hns4 := RS.1.1
  have hng3 := RS.1.2.1
  have hq : i * ng + j < ns * ng := by
    calc i * ng + j < i * ng + ng := by omega
      _ = (i + 1) * ng := by rw [Nat.add_mul, Nat.one_mul]
      _ ≤ ns * ng := Nat.mul_le_mul_right _ hi
  have hqb : ns * ng ≤ 12 := by
    calc ns * ng ≤ 4 * 3 := Nat.mul_le_mul (by omega) (by omega)
      _ = 12 := rfl
  have hdiv : (i * ng + j) / ng = i := Nat.div_eq_of_lt_le (by omega) (by rw [Nat.add_mul, Nat.one_mul]; omega)
  have hmod : (i * ng + j) % ng = j := by
    have := Nat.div_add_mod (i * ng + j) ng
    rw [hdiv, Nat.mul_comm] at this
    omega
  have g0 : ∀ {α : Type} (X : Option α), gIn (0 : Int32) 3 X = X := fun X => rfl
  have g1 : ∀ {α : Type} (X : Option α), gIn (1 : Int32) 3 X = X := fun X => rfl
  have hc : mX5_find_29 kc7 kc15 (n + 1) (nI t) (nI i) (nI j) c = if (q_se m i j t && (decide (t = 0) || !q_se m i j (t - 1))) = true then bdh (mX5_append c (nI i) (nI j) (nI t)) (fun h1 => mX5_find_29 kc7 kc15 n (nI t) (nI i) (nI (j + 1)) h1) else mX5_find_29 kc7 kc15 n (nI t) (nI i) (nI (j + 1)) c := by
    rw [mX5_find_29, RS.2.2.1.2.1, hng, if_neg (nI_ge hj (by omega)), sees_d RS (by omega) (by omega) ht, bd1_s]
    unfold mX5_find_69 mX5_find_78
    rw [ad_1]
    simp only [bI_if]
    cases q_se m i j t with
    | false => rfl
    | true =>
      rw [if_pos rfl, Bool.true_and]
      by_cases h0 : t = 0
      · subst h0
        rw [if_pos (show nI 0 = (0 : Int32) from rfl), if_pos (by rfl)]
      · rw [if_neg (by rw [li_0, nz_eq (by omega) (by omega)]; exact h0), li_1, pk_sub (by omega), sees_d RS (by omega) (by omega) (by omega), bd1_s, decide_eq_false h0, Bool.false_or]
        simp only [bI_if]
        cases q_se m i j (t - 1) <;> rfl
  have hm : mX11_lays_15 km7 (u + 1) (nI t) (nI (i * ng + j)) m = if (q_se m i j t && (decide (t = 0) || !q_se m i j (t - 1))) = true then mX11_lays_84 km7 (mX11_lays_15 km7 u) (nI t) (nI (i * ng + j)) (nI i) (nI j) 1 m else mX11_lays_15 km7 u (nI t) (nI (i * ng + j + 1)) m := by
    rw [mX11_lays_15]
    simp only [g0, g1, cl_0, cl_1]
    rw [RS.2.1.1, RS.2.1.2.1, hns, hng, pk_mul, if_neg (nI_ge hq (by omega)), pk_div (by omega) (by omega) (by omega), hdiv]
    unfold gNz
    have nz : ¬ nI ng = (0 : Int32) := by rw [li_0, nz_eq (by omega) (by omega)]; omega
    rw [if_neg nz, mlet_s, if_neg nz, show nI (i * ng + j) - nI i * nI ng = nI j from by
      rw [pk_mul, pk_sub (by omega)]; exact congrArg _ (by omega), mlet_s, sees_e RS (by omega) (by omega) ht, bd1_s]
    unfold mX11_lays_83 mX11_lays_79
    have z84 : mX11_lays_84 km7 (mX11_lays_15 km7 u) (nI t) (nI (i * ng + j)) (nI i) (nI j) 0 m = mX11_lays_15 km7 u (nI t) (nI (i * ng + j + 1)) m := by
      unfold mX11_lays_84 mX11_lays_237
      rw [if_pos rfl, ad_1]
    rw [z84]
    simp only [bI_if]
    cases q_se m i j t with
    | false => rfl
    | true =>
      rw [if_pos rfl, Bool.true_and]
      by_cases h0 : t = 0
      · subst h0
        rw [if_pos (show nI 0 = (0 : Int32) from rfl), if_pos (by rfl)]
      · rw [if_neg (by rw [li_0, nz_eq (by omega) (by omega)]; exact h0), li_1, pk_sub (by omega), sees_e RS (by omega) (by omega) (by omega), bd1_s, decide_eq_false h0, Bool.false_or]
        simp only [bI_if]
        cases q_se m i j (t - 1) <;> rfl
  rw [hc, hm]
  by_cases hb : (q_se m i j t && (decide (t = 0) || !q_se m i j (t - 1))) = true
  · rw [if_pos hb, if_pos hb]
    obtain ⟨c1, m1, a1, a2, a3, a4, a5⟩ := app_j h (q := i * ng + j) (k7 := km7) (k15 := mX11_lays_15 km7 u) hi hj ht
    rw [a1, a2, bdh_s]
    exact ⟨c1, m1, rfl, rfl, a3, a4, a5⟩
  · rw [if_neg hb, if_neg hb]
    exact ⟨c, m, rfl, rfl, h, FLy.rfl' c, GLy.rfl' m⟩
theorem row_j {i t : Nat} {kc7 : Int32 → Mm → Option Mm} {kc15 : Int32 → Int32 → Mm → Option Mm} {km7 : Int32 → Mm → Option Mm} (hi : i < ns) (ht : t ≤ 59) : ∀ (d j : Nat) (c m : Mm) (n u : Nat), j + d = ng → d < n → LI ns ng c m t → ∃ c1 m1, mX5_find_29 kc7 kc15 n (nI t) (nI i) (nI j) c = kc15 (nI t) (nI (i + 1)) c1 ∧ mX11_lays_15 km7 (u + d) (nI t) (nI (i * ng + j)) m = mX11_lays_15 km7 u (nI t) (nI ((i + 1) * ng)) m1 ∧ LI ns ng c1 m1 t ∧ FLy c c1 ∧ GLy m m1 := by
  intro d
  induction d with
  | zero =>
    intro j c m n u hj hn h
    obtain ⟨n, rfl⟩ : ∃ k, n = k + 1 := ⟨n - 1, by omega⟩
    have hng3 := h.1.1.2.1
    have hng := h.2.2.2.2
    refine ⟨c, m, ?_, ?_, h, FLy.rfl' c, GLy.rfl' m⟩
    · rw [mX5_find_29, h.1.2.2.1.2.1, hng, if_pos (nI_le (by omega) (by omega)), ad_1]
    · rw [Nat.add_zero, show i * ng + j = (i + 1) * ng from by rw [Nat.add_mul, Nat.one_mul]; omega]
  | succ d ih =>
    intro j c m n u hj hn h
    obtain ⟨n, rfl⟩ : ∃ k, n = k + 1 := ⟨n - 1, by omega⟩
    obtain ⟨c1, m1, a1, a2, a3, a4, a5⟩ := cell_j h (i := i) (j := j) (n := n) (u := u + d) (kc7 := kc7) (kc15 := kc15) (km7 := km7) hi (by omega) ht
    obtain ⟨c2, m2, b1, b2, b3, b4, b5⟩ := ih (j + 1) c1 m1 n u (by omega) (by omega) a3
    exact ⟨c2, m2, a1.trans b1, a2.trans b2, b3, a4.tr b4, a5.tr b5⟩
theorem slot_j {t : Nat} {kc7 km7 : Int32 → Mm → Option Mm} (ht : t ≤ 59) : ∀ (d i : Nat) (c m : Mm) (n u : Nat), i + d = ns → d < n → d * ng < u → LI ns ng c m t → ∃ c1 m1, mX5_find_15 kc7 n (nI t) (nI i) c = kc7 (nI (t + 1)) c1 ∧ mX11_lays_15 km7 u (nI t) (nI (i * ng)) m = km7 (nI (t + 1)) m1 ∧ LI ns ng c1 m1 t ∧ FLy c c1 ∧ GLy m m1 := by
  have g0 : ∀ {α : Type} (X : Option α), gIn (0 : Int32) 3 X = X := fun X => rfl
  have g1 : ∀ {α : Type} (X : Option α), gIn (1 : Int32) 3 X = X := fun X => rfl
  intro d
  induction d with
  | zero =>
    intro i c m n u hi hn hu h
    obtain ⟨n, rfl⟩ : ∃ k, n = k + 1 := ⟨n - 1, by omega⟩
    obtain ⟨u, rfl⟩ : ∃ k, u = k + 1 := ⟨u - 1, by omega⟩
    have hns4 := h.1.1.1
    have hng3 := h.1.1.2.1
    have hns := h.2.2.2.1
    have hng := h.2.2.2.2
    have hqb : ns * ng ≤ 12 := by
      calc ns * ng ≤ 4 * 3 := Nat.mul_le_mul (by omega) (by omega)
        _ = 12 := rfl
    have : i = ns := by omega
    subst this
    refine ⟨c, m, ?_, ?_, h, FLy.rfl' c, GLy.rfl' m⟩
    · rw [mX5_find_15, h.1.2.2.1.1, hns, if_pos (nI_le (Nat.le_refl _) (by omega)), ad_1]
    · rw [mX11_lays_15]
      simp only [g0, g1, cl_0, cl_1]
      rw [h.1.2.1.1, h.1.2.1.2.1, hns, hng, pk_mul, if_pos (nI_le (Nat.le_refl _) (by omega)), ad_1]
  | succ d ih =>
    intro i c m n u hi hn hu h
    obtain ⟨n, rfl⟩ : ∃ k, n = k + 1 := ⟨n - 1, by omega⟩
    have hns4 := h.1.1.1
    have hng3 := h.1.1.2.1
    have hns := h.2.2.2.1
    rw [Nat.add_mul, Nat.one_mul] at hu
    obtain ⟨c1, m1, a1, a2, a3, a4, a5⟩ := row_j (ns := ns) (ng := ng) (i := i) (t := t) (kc7 := kc7) (kc15 := mX5_find_15 kc7 n) (km7 := km7) (by omega) ht ng 0 c m FU (u - ng) (by omega) (fu_lt (by have := h.2.2.2.2; omega)) h
    rw [show u - ng + ng = u from by omega, Nat.add_zero] at a2
    obtain ⟨c2, m2, b1, b2, b3, b4, b5⟩ := ih (i + 1) c1 m1 n (u - ng) (by omega) (by omega) (by omega) a3
    refine ⟨c2, m2, ?_, a2.trans b2, b3, a4.tr b4, a5.tr b5⟩
    rw [mX5_find_15, h.1.2.2.1.1, hns, if_neg (nI_ge (by omega) (by omega))]
    exact a1.trans b1
theorem all_j : ∀ (d t : Nat) (c m : Mm) (n : Nat), t + d = 60 → d < n → LI ns ng c m t → ∃ c1 m1, mX5_find_7 n (nI t) c = some c1 ∧ mX11_lays_7 n (nI t) m = mX11_lays_251 FU 0 m1 ∧ RSet 49 55 60 c1 m1 ∧ RPas c1 m1 ∧ FLy c c1 ∧ GLy m m1 := by
  intro d
  induction d with
  | zero =>
    intro t c m n ht hn h
    obtain ⟨n, rfl⟩ : ∃ k, n = k + 1 := ⟨n - 1, by omega⟩
    refine ⟨c, m, ?_, ?_, h.1, h.2.1, FLy.rfl' c, GLy.rfl' m⟩
    · rw [mX5_find_7, li_60, if_pos (nI_le (by omega) (by omega))]
    · rw [mX11_lays_7, li_60, if_pos (nI_le (by omega) (by omega))]
  | succ d ih =>
    intro t c m n ht hn h
    obtain ⟨n, rfl⟩ : ∃ k, n = k + 1 := ⟨n - 1, by omega⟩
    have hns4 := h.1.1.1
    have hng3 := h.1.1.2.1
    have hns := h.2.2.2.1
    have hng := h.2.2.2.2
    have hqb : ns * ng ≤ 12 := by
      calc ns * ng ≤ 4 * 3 := Nat.mul_le_mul (by omega) (by omega)
        _ = 12 := rfl
    obtain ⟨c1, m1, a1, a2, a3, a4, a5⟩ := slot_j (ns := ns) (ng := ng) (t := t) (kc7 := mX5_find_7 n) (km7 := mX11_lays_7 n) (by omega) ns 0 c m FU FU (by omega) (fu_lt (by omega)) (fu_lt (by omega)) h
    rw [Nat.zero_mul] at a2
    obtain ⟨b1, b2, b3, b4, b5⟩ := a3
    obtain ⟨c2, m2, d1, d2, d3, d4, d5, d6⟩ := ih (t + 1) c1 m1 n (by omega) (by omega) ⟨b1, b2, fun p hp => by have := b3 p hp; omega, b4, b5⟩
    refine ⟨c2, m2, ?_, ?_, d3, d4, a4.tr d5, a5.tr d6⟩
    · rw [mX5_find_7, li_60, if_neg (nI_ge (by omega) (by omega))]
      exact a1.trans d1
    · rw [mX11_lays_7, li_60, if_neg (nI_ge (by omega) (by omega))]
      exact a2.trans d2
theorem find_j (R : RSet 49 55 60 c m) : ∃ c1 m1, mX5_find c = some c1 ∧ mX11_lays m = mX11_lays_251 FU 0 m1 ∧ RSet 49 55 60 c1 m1 ∧ RPas c1 m1 ∧ FLy c c1 ∧ GLy m m1 := by
  unfold mX5_find mX11_lays
  rw [mlet_s, mlet_s]
  have F0 : FLy c (wr c 4 6 0) := ⟨fun k hk => wr_cell _ _ _ (by omega), fun s hs => wr_slot _ _ _ hs⟩
  have G0 : GLy m (wr m 0 16 0) := ⟨fun k k1 _ => wr_cell _ _ _ k1, fun s hs => wr_slot _ _ _ hs⟩
  have S5 : SM5 m (wr m 0 16 0) := ⟨wr_cell _ _ _ (by decide), wr_cell _ _ _ (by decide), wr_cell _ _ _ (by decide), wr_cell _ _ _ (by decide)⟩
  have np0 : q_np (wr m 0 16 0) = 0 := by unfold q_np; rw [wr_same]; rfl
  obtain ⟨c1, m1, a1, a2, a3, a4, a5, a6⟩ := all_j (ns := q_ns m) (ng := q_ng m) 60 0 (wr c 4 6 0) (wr m 0 16 0) FU (by omega) (fu_lt (by omega)) ⟨R.fd (fun k k1 k2 => F0.1 k (by omega)) S5, ⟨by rw [np0]; omega, by rw [np0, wr_same]; rfl, by rw [np0, wr_same]; rfl, fun p hp => by rw [np0] at hp; omega, fun p hp => by rw [np0] at hp; omega, fun p hp => by rw [np0] at hp; omega, fun p q _ hq => by rw [np0] at hq; omega⟩, fun p hp => by rw [np0] at hp; omega, S5.q.1, S5.q.2.1⟩
  exact ⟨c1, m1, a1, a2, a3, a4, F0.tr a5, G0.tr a6⟩
theorem lays_e (m : Mm) : ∃ m', mX11_lays_251 FU 0 m = some m' ∧ (∀ k, k ≠ 0 → k ≠ 15 → m' k = m k) ∧ (∀ s, s ≠ 19 → m' 0 s = m 0 s) ∧ m' 0 19 = 0 ∧ (∀ p, p < 24 → m' 15 p = -4) ∧ ∀ a, a < 4 → m' 15 (24 + 2 * a) = nI 1 ∧ m' 15 (24 + 2 * a + 1) = nI 0 := by
  refine lo_up (fun n i y => mX11_lays_251 n (nI i) y) (fun z => ∃ m', z = some m' ∧ (∀ k, k ≠ 0 → k ≠ 15 → m' k = m k) ∧ (∀ s, s ≠ 19 → m' 0 s = m 0 s) ∧ m' 0 19 = 0 ∧ (∀ p, p < 24 → m' 15 p = -4) ∧ ∀ a, a < 4 → m' 15 (24 + 2 * a) = nI 1 ∧ m' 15 (24 + 2 * a + 1) = nI 0) (fun i y => (∀ k, k ≠ 15 → y k = m k) ∧ ∀ p, p < i → y 15 p = -4) 24 (fun n y hP => ?_) (fun n i y hi hP => ?_) FU 0 m (by omega) (fu_lt (by omega)) ⟨fun _ _ => rfl, fun p hp => by omega⟩
  · show ∃ m', mX11_lays_251 (n + 1) (nI 24) y = some m' ∧ _
    rw [mX11_lays_251, li_24, if_pos (nI_le (Nat.le_refl _) (by omega))]
    refine lo_up (fun n a z => mX11_lays_273 n (nI a) z) (fun z => ∃ m', z = some m' ∧ (∀ k, k ≠ 0 → k ≠ 15 → m' k = m k) ∧ (∀ s, s ≠ 19 → m' 0 s = m 0 s) ∧ m' 0 19 = 0 ∧ (∀ p, p < 24 → m' 15 p = -4) ∧ ∀ a, a < 4 → m' 15 (24 + 2 * a) = nI 1 ∧ m' 15 (24 + 2 * a + 1) = nI 0) (fun i z => (∀ k, k ≠ 15 → z k = m k) ∧ (∀ p, p < 24 → z 15 p = -4) ∧ ∀ a, a < i → z 15 (24 + 2 * a) = nI 1 ∧ z 15 (24 + 2 * a + 1) = nI 0) 4 (fun n z hZ => ?_) (fun n i z hi hZ => ?_) FU 0 y (by omega) (fu_lt (by omega)) ⟨hP.1, hP.2, fun a ha => by omega⟩
    · obtain ⟨z1, z2, z3⟩ := hZ
      refine ⟨wr z 0 19 0, ?_, fun k k1 k2 => by rw [wr_cell _ _ _ k1, z1 k k2], fun s hs => by rw [wr_slot _ _ _ hs, z1 0 (by decide)], wr_same _ _ _ _, fun p hp => by rw [wr_cell _ _ _ (by decide), z2 p hp], fun a ha => by rw [wr_cell _ _ _ (by decide)]; exact z3 a ha⟩
      show mX11_lays_273 (n + 1) _ _ = _
      rw [mX11_lays_273, if_pos (by decide), mlet_s]
    · obtain ⟨z1, z2, z3⟩ := hZ
      refine ⟨wr (wr z 15 (24 + 2 * i) (nI 1)) 15 (24 + 2 * i + 1) (nI 0), ?_, fun k hk => by rw [wr_cell _ _ _ hk, wr_cell _ _ _ hk, z1 k hk], fun p hp => by rw [wr_slot _ _ _ (by omega), wr_slot _ _ _ (by omega), z2 p hp], fun a ha => ?_⟩
      · show mX11_lays_273 (n + 1) _ _ = mX11_lays_273 n _ _
        rw [mX11_lays_273, show (4 : Int32) = nI 4 from rfl, if_neg (nI_ge hi (by omega)), mu_2, ad_24, gIn_nI (by omega) (by omega), mlet_s, ad_1, gIn_nI (by omega) (by omega), mlet_s, cl_n (by omega), cl_n (by omega), ad_1]
        rfl
      · by_cases e : a = i
        · subst e
          rw [wr_slot _ _ _ (by omega), wr_same, wr_same]; exact ⟨rfl, rfl⟩
        · rw [wr_slot _ _ _ (by omega), wr_slot _ _ _ (by omega), wr_slot _ _ _ (by omega), wr_slot _ _ _ (by omega)]
          exact z3 a (by omega)
  · refine ⟨wr y 15 i (-4), ?_, fun k hk => by rw [wr_cell _ _ _ hk, hP.1 k hk], fun p hp => ?_⟩
    · show mX11_lays_251 (n + 1) _ _ = mX11_lays_251 n _ _
      rw [mX11_lays_251, li_24, if_neg (nI_ge hi (by omega)), gIn_nI (by omega) (by omega), cl_n (by omega), mlet_s, ad_1]
    · by_cases e : p = i
      · rw [e, wr_same]
      · rw [wr_slot _ _ _ e, hP.2 p (by omega)]
/-- what is read is laid, on both sides -/
theorem lay2_j (R : RSet 49 55 60 c m) (hx : ∃ x, x < 6 ∧ c 66 1 = nI x) : ∃ c5 m2, bdh (mX5_find c) (fun h2 => bdh (mX8_clear h2) (fun h3 => bdh (mX1_clear h3) (fun h4 => mX6_forget h4))) = some c5 ∧ mX11_lays m = some m2 ∧ c5 4 6 = m2 0 16 ∧ (RW (fun k => c5 (sg k)) m2 ∧ q_ok m2 (m2 15) (m2 15) ∧ RHis (fun k => c5 (sg k)) m2) ∧ c5 22 9 = 0 ∧ c5 1 = c 1 ∧ c5 2 = c 2 ∧ m2 0 0 = m 0 0 ∧ m2 1 = m 1 := by
  obtain ⟨c1, m1, a1, a2, a3, a4, a5, a6⟩ := find_j R
  obtain ⟨m2, b1, b2, b3, b4, b5, b6⟩ := lays_e m1
  obtain ⟨c2, d1, d2, d3⟩ := fill_12 c1 (-1)
  obtain ⟨c3, e1, e2, e3⟩ := fill_13 c2 1
  obtain ⟨c4, f1, f2, f3⟩ := fill_14 c3 0
  have hcl : mX8_clear c1 = some c4 := by
    unfold mX8_clear
    rw [d1, bdh_s, e1, bdh_s, f1, bdh_s]
  rw [a1, bdh_s, hcl, bdh_s]
  unfold mX1_clear mX6_forget
  rw [mlet_s, bdh_s, mlet_s]
  generalize hc5 : wr (wr c4 66 2 0) 22 9 0 = c5
  have g1 : ∀ k, k ≠ 12 → k ≠ 13 → k ≠ 14 → k ≠ 66 → k ≠ 22 → c5 k = c1 k := fun k k1 k2 k3 k4 k5 => by rw [← hc5, wr_cell _ _ _ k5, wr_cell _ _ _ k4, f2 k k3, e2 k k2, d2 k k1]
  have g12 : ∀ p, p < 24 → c5 12 p = -1 := fun p hp => by rw [← hc5, wr_cell _ _ _ (by decide), wr_cell _ _ _ (by decide), f2 12 (by decide), e2 12 (by decide), d3 p hp]
  have g13 : ∀ p, p < 4 → c5 13 p = nI 1 := fun p hp => by rw [← hc5, wr_cell _ _ _ (by decide), wr_cell _ _ _ (by decide), f2 13 (by decide), e3 p hp]; rfl
  have g14 : ∀ p, p < 4 → c5 14 p = nI 0 := fun p hp => by rw [← hc5, wr_cell _ _ _ (by decide), wr_cell _ _ _ (by decide), f3 p hp]; rfl
  have g66 : c5 66 1 = c 66 1 := by rw [← hc5, wr_cell _ _ _ (by decide), wr_slot _ _ _ (by decide), f2 66 (by decide), e2 66 (by decide), d2 66 (by decide), a5.1 66 (by omega)]
  have g662 : c5 66 2 = nI 0 := by rw [← hc5, wr_cell _ _ _ (by decide), wr_same]; rfl
  have S : SM m1 m2 := ⟨⟨b2 2 (by decide) (by decide), b2 3 (by decide) (by decide), b2 4 (by decide) (by decide), b2 5 (by decide) (by decide)⟩, ⟨b2 10 (by decide) (by decide), b2 11 (by decide) (by decide), b2 12 (by decide) (by decide), b2 13 (by decide) (by decide), b2 14 (by decide) (by decide)⟩, b3 16 (by decide)⟩
  have sg1 : ∀ k, k < 30 → sg k = k := fun k hk => by unfold sg; rw [if_neg (by omega), if_neg (by omega)]
  have sg2 : ∀ k, 30 ≤ k → k < 48 → sg k = k + 18 := fun k h1 h2 => by unfold sg; rw [if_pos ⟨h1, h2⟩]
  have sg3 : ∀ k, 66 ≤ k → sg k = k := fun k hk => by unfold sg; rw [if_neg (by omega), if_neg (by omega)]
  have hof : ∀ a, a < 4 → q_of (m2 15) a = 1 := fun a ha => by unfold q_of; rw [(b6 a ha).1, cl_n (by omega)]
  have hot : ∀ a, a < 4 → q_ot (m2 15) a = 0 := fun a ha => by unfold q_ot; rw [(b6 a ha).2, cl_n (by omega)]
  have RS2 : RSet 31 37 42 (fun k => c5 (sg k)) m2 := by
    have R5 : RSet 49 55 60 c5 m2 := a3.fd (fun k k1 k2 => g1 k (by omega) (by omega) (by omega) (by omega) (by omega)) ⟨S.1.1, S.1.2.1, S.1.2.2.1, S.1.2.2.2⟩
    obtain ⟨⟨s1, s2, s3⟩, s4, s5, s6, s7, s8, s9, s10, s11⟩ := R5
    refine ⟨⟨s1, s2, s3⟩, s4, ?_, fun i hi j hj => ?_, fun i hi j hj => ?_, fun i hi j hj => ?_, s9, s10, s11⟩
    · show c5 (sg 31) 3 = _ ∧ c5 (sg 37) 3 = _ ∧ c5 (sg 42) 3 = _
      exact s5
    · refine ⟨(s6 i hi j hj).1, ?_⟩
      show c5 (sg (31 + 2 + i)) j = _
      rw [sg2 _ (by omega) (by omega), show 31 + 2 + i + 18 = 49 + 2 + i from by omega]
      exact (s6 i hi j hj).2
    · refine ⟨(s7 i hi j hj).1, ?_⟩
      show c5 (sg (37 + 2 + i)) j = _
      rw [sg2 _ (by omega) (by omega), show 37 + 2 + i + 18 = 55 + 2 + i from by omega]
      exact (s7 i hi j hj).2
    · refine ⟨(s8 i hi j hj).1, ?_⟩
      show c5 (sg (42 + 2 + i)) j = _
      rw [sg2 _ (by omega) (by omega), show 42 + 2 + i + 18 = 60 + 2 + i from by omega]
      exact (s8 i hi j hj).2
  have RP2 : RPas (fun k => c5 (sg k)) m2 := by
    have h5 : RPas c5 m2 := a4.fr (c := c1) ⟨fun k k1 k2 => g1 k (by omega) (by omega) (by omega) (by omega) (by omega), fun k k1 k2 => g1 k (by omega) (by omega) (by omega) (by omega) (by omega), by rw [g1 4 (by omega) (by omega) (by omega) (by omega) (by omega)]⟩ S
    unfold RPas at h5 ⊢
    exact h5
  refine ⟨c5, m2, rfl, by rw [a2, b1], ?_, ⟨⟨RS2, RP2, ⟨fun p hp => Or.inl ⟨b5 p hp, ?_⟩, fun a ha => ?_, fun a ha => ?_⟩⟩, ?_, ?_⟩, by rw [← hc5, wr_same], by rw [g1 1 (by omega) (by omega) (by omega) (by omega) (by omega), a5.1 1 (by omega)], by rw [g1 2 (by omega) (by omega) (by omega) (by omega) (by omega), a5.1 2 (by omega)], by rw [b3 0 (by decide), a6.2 0 (by decide)], by rw [b2 1 (by decide) (by decide), a6.1 1 (by decide) (by omega)]⟩
  · rw [g1 4 (by omega) (by omega) (by omega) (by omega) (by omega), a4.2.2.1, b3 16 (by decide), a4.2.1]
  · show c5 (sg 12) p = -1
    rw [sg1 12 (by omega), g12 p hp]
  · rw [hof a ha, hot a ha]; exact ⟨(b6 a ha).1, (b6 a ha).2, by omega, by omega⟩
  · rw [hof a ha, hot a ha]
    refine ⟨1, 0, ?_, ?_, by omega, by omega, by omega⟩
    · show c5 (sg 13) a = _
      rw [sg1 13 (by omega), g13 a ha]
    · show c5 (sg 14) a = _
      rw [sg1 14 (by omega), g14 a ha]
  · intro p hp a e ha
    have h24 := RP2.1
    have h4 := RS2.1.2.2
    rw [b5 p (by omega)] at e
    exact absurd e.symm (by rw [nz_m4 (by omega)]; exact id)
  · obtain ⟨x, hx1, hx2⟩ := hx
    refine ⟨0, x, by omega, hx1, b4, ?_, ?_, fun j hj => by omega⟩
    · show c5 (sg 66) 2 = _
      rw [sg3 66 (by omega), g662]
    · show c5 (sg 66) 1 = _
      rw [sg3 66 (by omega), g66, hx2]
end EV
