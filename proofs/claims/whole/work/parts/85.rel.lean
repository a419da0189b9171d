/-! PURE LAYER 25: the relation; every call keeps it; it holds at first -/
def Rel (c m : Mm) : Prop := RC c m ∧ RPl c m
section EV
variable {c m c' m' x y : Mm}
theorem RPl.z (h : c 22 9 = 0) : RPl c m := Or.inl h
theorem Rel.fr (R : Rel c m) (hc : ∀ k, (1 ≤ k ∧ k ≤ 14 ∨ 31 ≤ k ∧ k ≤ 47 ∨ 66 ≤ k ∨ k = 22 ∨ k = 29) → c' k = c k) (hm : ∀ k, (1 ≤ k ∧ k ≤ 5 ∨ 10 ≤ k ∧ k ≤ 16) → m' k = m k) (h0 : ∀ j, (j = 0 ∨ j = 16 ∨ j = 19) → m' 0 j = m 0 j) : Rel c' m' := by
  have hS : SM m m' := ⟨⟨hm 2 (by omega), hm 3 (by omega), hm 4 (by omega), hm 5 (by omega)⟩, ⟨hm 10 (by omega), hm 11 (by omega), hm 12 (by omega), hm 13 (by omega), hm 14 (by omega)⟩, h0 16 (by omega)⟩
  exact ⟨R.1.fr (fun k hk => hc k (by omega)) hm h0, R.2.fr hS (hm 15 (by omega)) (hc 22 (by omega)) (hc 29 (by omega))⟩
theorem Rel.tx (R : Rel c m) (hT : RTxt c' m') (hc : ∀ k, k ≠ 1 → k ≠ 2 → c' k = c k) (hm : ∀ k, k ≠ 0 → k ≠ 1 → m' k = m k) (h0 : ∀ j, j ≠ 0 → m' 0 j = m 0 j) : Rel c' m' := by
  have hS : SM m m' := ⟨⟨hm 2 (by decide) (by decide), hm 3 (by decide) (by decide), hm 4 (by decide) (by decide), hm 5 (by decide) (by decide)⟩, ⟨hm 10 (by decide) (by decide), hm 11 (by decide) (by decide), hm 12 (by decide) (by decide), hm 13 (by decide) (by decide), hm 14 (by decide) (by decide)⟩, h0 16 (by decide)⟩
  have hC : SC c c' := ⟨fun k h1 h2 => hc k (by omega) (by omega), fun k h1 h2 => hc k (by omega) (by omega), by rw [hc 4 (by decide) (by decide)]⟩
  have e15 := hm 15 (by decide) (by decide)
  refine ⟨⟨hT, R.1.2.1.fr0 hC hS (hc 12 (by decide) (by decide)) (hc 13 (by decide) (by decide)) (hc 14 (by decide) (by decide)) e15, by rw [hS.ok, e15]; exact R.1.2.2.1, R.1.2.2.2.fr (fun k hk => hc k (by omega) (by omega)) hS (hm 16 (by decide) (by decide)) (h0 19 (by decide))⟩, R.2.fr hS e15 (hc 22 (by decide) (by decide)) (hc 29 (by decide) (by decide))⟩
theorem Rel.d (R : Rel c m) (h1 : FCd c c') (h2 : FMd m m') : Rel c' m' := R.fr (fun k hk => h1 k (by omega)) (fun k hk => h2.1 k (by omega) (by omega)) (fun j hj => h2.2 j (by omega))
theorem Rel.g (R : Rel c m) (h : RC c' m' ∧ (c' 22 9 = 0 ∨ c' = c ∧ m' = m)) : Rel c' m' := by
  obtain ⟨h1, h2 | ⟨h2, h3⟩⟩ := h
  · exact ⟨h1, RPl.z h2⟩
  · subst h2; subst h3; exact R
end EV
theorem steps_ok : StepsOK Rel := by
  refine ⟨?_, ?_, ?_, ?_, ?_, ?_, ?_, ?_, ?_, ?_, ?_, ?_, ?_, ?_, ?_, ?_, ?_, ?_, ?_, ?_, ?_⟩
  · intro hc hm a R
    obtain ⟨v, c1, m1, a1, a2, a3, a4, a5, a6⟩ := tx_write a R.1.1
    exact ⟨v, c1, m1, a1, a2, R.tx a3 a4 a5 a6⟩
  · intro hc hm R
    obtain ⟨v, c1, m1, a1, a2, a3, a4, a5, a6⟩ := tx_wipe R.1.1
    exact ⟨v, c1, m1, a1, a2, R.tx a3 a4 a5 a6⟩
  · intro hc hm R
    obtain ⟨v, c1, m1, a1, a2, a3, a4⟩ := go_fault R.1
    exact ⟨v, c1, m1, a1, a2, R.d a3 a4⟩
  · intro hc hm R
    obtain ⟨v, c1, m1, a1, a2, a3⟩ := go_lay R.1
    refine ⟨v, c1, m1, a1, a2, ?_⟩
    rcases a3 with ⟨h1, h2⟩ | ⟨h1, h2⟩
    · exact R.d h1 h2
    · exact ⟨h1, RPl.z h2⟩
  · intro hc hm a b R
    obtain ⟨v, h1, h2⟩ := go_sat R.1.2.1 a b
    exact ⟨v, h1, h2, R⟩
  · intro hc hm a b R
    obtain ⟨v, h1, h2⟩ := go_antenna R.1.2.1 a b
    exact ⟨v, h1, h2, R⟩
  · intro hc hm a b d R
    obtain ⟨v, h1, h2⟩ := go_seen R.1.2.1 a b d
    exact ⟨v, h1, h2, R⟩
  · intro hc hm a b R
    obtain ⟨v, h1, h2⟩ := go_pass R.1.2.1 a b
    exact ⟨v, h1, h2, R⟩
  · intro hc hm a b R
    obtain ⟨v, h1, h2⟩ := go_rate R.1.2.1 a b
    exact ⟨v, h1, h2, R⟩
  · intro hc hm a b R
    obtain ⟨v, c1, m1, h1, h2, h3⟩ := go_give R.1 a b
    exact ⟨v, c1, m1, h1, h2, R.g h3⟩
  · intro hc hm a b R
    obtain ⟨v, h1, h2⟩ := go_why R.1.2.1 a b
    exact ⟨v, h1, h2, R⟩
  · intro hc hm a R
    obtain ⟨v, c1, m1, h1, h2, h3⟩ := go_take R.1 a
    exact ⟨v, c1, m1, h1, h2, R.g h3⟩
  · intro hc hm a b d R
    obtain ⟨v, c1, m1, h1, h2, h3⟩ := go_out R.1 a b d
    exact ⟨v, c1, m1, h1, h2, R.g h3⟩
  · intro hc hm R
    obtain ⟨v, c1, m1, h1, h2, h3⟩ := go_undo R.1
    exact ⟨v, c1, m1, h1, h2, R.g h3⟩
  · intro hc hm a b R
    obtain ⟨v, c1, m1, h1, h2, h3, h4⟩ := go_best R.1 a b
    exact ⟨v, c1, m1, h1, h2, R.fr (fun k hk => h3 k (by omega) (by omega) (by omega) (by omega)) (fun k hk => h4 k (by omega) (by omega) (by omega)) (fun j _ => by rw [h4 0 (by decide) (by decide) (by decide)])⟩
  · intro hc hm a b d e R
    obtain ⟨v, c1, m1, h1, h2, h3, h4⟩ := go_plan R.1 R.2 a b d e
    exact ⟨v, c1, m1, h1, h2, h3, h4⟩
  · intro hc hm a b d R
    obtain ⟨v, c1, m1, h1, h2, h3, h4⟩ := go_adopt R.1 R.2 a b d
    exact ⟨v, c1, m1, h1, h2, h3, h4⟩
  · intro hc hm a R
    obtain ⟨v, h1, h2⟩ := go_bound R.1.2.1 a
    exact ⟨v, h1, h2, R⟩
  · intro hc hm a b d R
    obtain ⟨v, c1, m1, h1, h2, h3, h4⟩ := go_store R.1 a b d
    exact ⟨v, c1, m1, h1, h2, R.fr (fun k hk => h3 k (by omega) (by omega)) (fun k hk => h4 k (by omega) (by omega)) (fun j _ => by rw [h4 0 (by decide) (by decide)])⟩
  · intro hc hm a R
    obtain ⟨v, c1, m1, h1, h2, h3, h4⟩ := go_over R.1 a
    exact ⟨v, c1, m1, h1, h2, R.fr (fun k hk => h3 k (by omega) (by omega)) (fun k hk => h4 k (by omega) (by omega)) (fun j _ => by rw [h4 0 (by decide) (by decide)])⟩
  · intro hc hm a R
    obtain ⟨v, c1, m1, h1, h2, h3, h4⟩ := go_count R.1 a
    exact ⟨v, c1, m1, h1, h2, R.fr (fun k hk => h3 k (by omega) (by omega)) (fun k hk => h4 k (by omega) (by omega)) (fun j _ => by rw [h4 0 (by decide) (by decide)])⟩
/-! at first -/
def sN (h : Mm) (i : Nat) (a b c d e : Int32) : Mm := wr (wr (wr (wr (wr h 2 (5 * i) a) 2 (5 * i + 1) b) 2 (5 * i + 2) c) 2 (5 * i + 3) d) 2 (5 * i + 4) e
theorem satN {h : Mm} {i : Nat} {a b c d e : Int32} (hi : i < 4) : mX11_satNow h (nI i) a b c d e = some (sN h i a b c d e) := by
  unfold mX11_satNow
  rw [mu_5, ad_1, ad_2, ad_3, ad_4]
  simp (disch := omega) only [gIn_nI, cl_n, mlet_s]
  rfl
def M24 : Mm := wr (wr (wr (wr (wr (wr (wr (wr (wr (wr (wr (sN (sN (sN Zm 0 0 20 0 30 1) 1 7 25 1 40 2) 2 13 18 1 20 1) 3 1 6) 3 2 9) 3 3 8) 4 1 2) 4 2 1) 4 6 1) 4 7 1) 4 8 2) 5 0 3) 5 1 2) 5 2 3
theorem tail_M : mX11_tail Zm = bdh (mX11_lays M24) (fun h26 => some h26) := by
  have g1 : ∀ {α : Type} (X : Option α), gIn (1 : Int32) 6 X = X := fun X => rfl
  have g2 : ∀ {α : Type} (X : Option α), gIn (2 : Int32) 6 X = X := fun X => rfl
  have g3 : ∀ {α : Type} (X : Option α), gIn (3 : Int32) 6 X = X := fun X => rfl
  have g4 : ∀ {α : Type} (X : Option α), gIn (1 : Int32) 12 X = X := fun X => rfl
  have g5 : ∀ {α : Type} (X : Option α), gIn (2 : Int32) 12 X = X := fun X => rfl
  have g6 : ∀ {α : Type} (X : Option α), gIn (6 : Int32) 12 X = X := fun X => rfl
  have g7 : ∀ {α : Type} (X : Option α), gIn (7 : Int32) 12 X = X := fun X => rfl
  have g8 : ∀ {α : Type} (X : Option α), gIn (8 : Int32) 12 X = X := fun X => rfl
  have g9 : ∀ {α : Type} (X : Option α), gIn (0 : Int32) 3 X = X := fun X => rfl
  have g10 : ∀ {α : Type} (X : Option α), gIn (1 : Int32) 3 X = X := fun X => rfl
  have g11 : ∀ {α : Type} (X : Option α), gIn (2 : Int32) 3 X = X := fun X => rfl
  have k0 : (0 : Int32).toNatClampNeg = 0 := rfl
  have k1 : (1 : Int32).toNatClampNeg = 1 := rfl
  have k2 : (2 : Int32).toNatClampNeg = 2 := rfl
  have k3 : (3 : Int32).toNatClampNeg = 3 := rfl
  have k6 : (6 : Int32).toNatClampNeg = 6 := rfl
  have k7 : (7 : Int32).toNatClampNeg = 7 := rfl
  have k8 : (8 : Int32).toNatClampNeg = 8 := rfl
  have s0 : mX11_satNow Zm 0 0 20 0 30 1 = some (sN Zm 0 0 20 0 30 1) := satN (i := 0) (by omega)
  have s1 : ∀ h, mX11_satNow h 1 7 25 1 40 2 = some (sN h 1 7 25 1 40 2) := fun h => satN (i := 1) (by omega)
  have s2 : ∀ h, mX11_satNow h 2 13 18 1 20 1 = some (sN h 2 13 18 1 20 1) := fun h => satN (i := 2) (by omega)
  unfold mX11_tail
  simp only [s0, s1, s2, bdh_s, g1, g2, g3, g4, g5, g6, g7, g8, g9, g10, g11, k0, k1, k2, k3, k6, k7, k8, mlet_s]
  rfl
theorem M24_s : ∀ s, s < 15 → M24 2 s = nI (v_s s) := fun s hs => of_decide_eq_true (al_t (f := fun s => decide (M24 2 s = nI (v_s s))) (n := 15) (by decide +kernel) s hs)
theorem M24_g : ∀ s, s < 4 → M24 3 s = nI (v_g s) := fun s hs => of_decide_eq_true (al_t (f := fun s => decide (M24 3 s = nI (v_g s))) (n := 4) (by decide +kernel) s hs)
theorem M24_a : ∀ s, s < 9 → M24 4 s = nI (v_a s) := fun s hs => of_decide_eq_true (al_t (f := fun s => decide (M24 4 s = nI (v_a s))) (n := 9) (by decide +kernel) s hs)
theorem M24_n : M24 5 0 = nI 3 ∧ M24 5 1 = nI 2 ∧ M24 5 2 = nI 3 ∧ M24 0 0 = nI 0 := by decide +kernel
theorem start_set {h1 : Mm} {v : Int32} (h : ckC1 v h1 = true) : v = -4 ∧ h1 66 1 = nI 0 ∧ RSet 49 55 60 h1 M24 := by
  unfold ckC1 at h
  simp only [Bool.and_eq_true, decide_eq_true_eq] at h
  obtain ⟨a1, a2, a3, a4, a5, a6, a7, a8⟩ := h
  refine ⟨a1, a2, rd_set (m := fun k => M24 (k - 4)) (us := 3) (ug := 2) (ua := 3) ⟨⟨by omega, by omega, by omega⟩, ⟨M24_n.1, M24_n.2.1, M24_n.2.2.1⟩, ⟨a3, a4, a5⟩, fun i hi => ⟨fun j => v_s (5 * i + j), fun j hj => ⟨M24_s _ (by omega), ?_⟩, ?_⟩, fun i hi => ⟨fun j => v_g (2 * i + j), fun j hj => ⟨M24_g _ (by omega), ?_⟩, ?_⟩, fun i hi => ⟨fun j => v_a (3 * i + j), fun j hj => ⟨M24_a _ (by omega), ?_⟩, ?_⟩⟩ (fun _ _ => rfl) (fun _ _ => rfl) (fun _ _ => rfl) (fun _ _ => rfl)⟩
  · have := of_decide_eq_true (al_t a6 (5 * i + j) (by omega))
    rw [show (5 * i + j) / 5 = i from by omega, show (5 * i + j) % 5 = j from by omega] at this
    exact this
  · rcases (show i = 0 ∨ i = 1 ∨ i = 2 by omega) with e | e | e <;> subst e <;> decide
  · have := of_decide_eq_true (al_t a7 (2 * i + j) (by omega))
    rw [show (2 * i + j) / 2 = i from by omega, show (2 * i + j) % 2 = j from by omega] at this
    exact this
  · rcases (show i = 0 ∨ i = 1 by omega) with e | e <;> subst e <;> decide
  · have := of_decide_eq_true (al_t a8 (3 * i + j) (by omega))
    rw [show (3 * i + j) / 3 = i from by omega, show (3 * i + j) % 3 = j from by omega] at this
    exact this
  · rcases (show i = 0 ∨ i = 1 ∨ i = 2 by omega) with e | e | e <;> subst e <;> decide
theorem init_rel : ∃ hc0 hm0, initC = some hc0 ∧ mX11_tail Zm = some hm0 ∧ Rel hc0 hm0 := by
  obtain ⟨h, v, h1, e1, e2, e3⟩ := ckC_ex
  obtain ⟨a1, a2, RS⟩ := start_set e3
  obtain ⟨c5, m6, g1, g2, g3, ⟨g4, g5, g6⟩, g7, g8, g9, g10, g11⟩ := lay2_j RS ⟨0, by omega, a2⟩
  have hall : bdh (mX5_find h1) (fun h2 => bdh (mX8_clear h2) (fun h3 => bdh (mX1_clear h3) (fun h4 => bdh (mX6_forget h4) (fun h5 => mX3_clear (fun k => h5 (sg k)))))) = some (wr (fun k => c5 (sg k)) 1 1 0) := by
    have : bdh (bdh (mX5_find h1) (fun h2 => bdh (mX8_clear h2) (fun h3 => bdh (mX1_clear h3) (fun h4 => mX6_forget h4)))) (fun h5 => mX3_clear (fun k => h5 (sg k))) = some (wr (fun k => c5 (sg k)) 1 1 0) := by rw [g1, bdh_s]; rfl
    simp only [bdh_a] at this
    exact this
  have hf : ∀ k, k ≠ 1 → wr (fun k => c5 (sg k)) 1 1 0 k = c5 (sg k) := fun k hk => wr_cell _ _ _ hk
  refine ⟨wr (fun k => c5 (sg k)) 1 1 0, m6, ?_, ?_, ⟨⟨0, by omega, by rw [wr_same]; rfl, by rw [g10]; exact M24_n.2.2.2, fun i hi => by omega⟩, ?_, g5, ?_⟩, RPl.z ?_⟩
  · unfold initC
    rw [e1, bdh_s, e2, bd2_s, if_pos a1, hall]
  · rw [tail_M, g2, bdh_s]
  · exact g4.fr0 (c := fun k => c5 (sg k)) ⟨fun k h1 h2 => hf k (by omega), fun k h1 h2 => hf k (by omega), by rw [hf 4 (by decide)]⟩ (SM.rfl' m6) (hf 12 (by decide)) (hf 13 (by decide)) (hf 14 (by decide)) rfl
  · exact g6.fr (c := fun k => c5 (sg k)) (fun k hk => hf k (by omega)) (SM.rfl' m6) rfl rfl
  · rw [hf 22 (by decide)]
    exact g7
