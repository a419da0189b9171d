/-! PURE LAYER 19: the text -/
def TC (n : Nat) (T : Nat → Nat) (c : Mm) : Prop := n ≤ 200 ∧ c 1 1 = nI n ∧ (∀ i, i < n → c 2 i = nI (T i)) ∧ (∀ i, n ≤ i → T i = 0) ∧ ∀ i, T i ≤ 126
def TM (n : Nat) (T : Nat → Nat) (h : Mm) : Prop := n ≤ 200 ∧ h 0 0 = nI n ∧ (∀ i, i < n → h 1 i = nI (T i)) ∧ (∀ i, n ≤ i → T i = 0) ∧ ∀ i, T i ≤ 126
def t_fg (k : Nat) : Bool := decide (48 ≤ k ∧ k ≤ 57)
def t_nf (T : Nat → Nat) (p : Nat) : Nat := if t_fg (T p) = true then (if t_fg (T (p + 1)) = true then 2 else 1) else 0
def t_nv (T : Nat → Nat) (p : Nat) : Nat := if t_fg (T p) = true then (if t_fg (T (p + 1)) = true then 10 * (T p - 48) + T (p + 1) - 48 else T p - 48) else 0
/-- where the j-th number of an item stands -/
def t_pj (T : Nat → Nat) (p : Nat) : Nat → Nat
  | 0 => p
  | j + 1 => t_pj T p j + t_nf T (t_pj T p j) + 1
def t_ej (T : Nat → Nat) (p j : Nat) : Nat := t_pj T p j + t_nf T (t_pj T p j)
theorem nf_2 (T : Nat → Nat) (p : Nat) : t_nf T p ≤ 2 := by unfold t_nf; split <;> (try split) <;> omega
theorem nv_99 (T : Nat → Nat) (p : Nat) : t_nv T p ≤ 99 := by
  unfold t_nv
  by_cases h1 : t_fg (T p) = true
  · rw [if_pos h1]
    have := of_decide_eq_true h1
    by_cases h2 : t_fg (T (p + 1)) = true
    · rw [if_pos h2]
      have := of_decide_eq_true h2
      omega
    · rw [if_neg h2]; omega
  · rw [if_neg h1]; omega
theorem pj_b (T : Nat → Nat) (p : Nat) : ∀ j, t_pj T p j ≤ p + 3 * j
  | 0 => Nat.le_refl _
  | j + 1 => by
    have := pj_b T p j
    have := nf_2 T (t_pj T p j)
    rw [t_pj]
    omega
theorem pj_ge (T : Nat → Nat) (p : Nat) : ∀ j, p + j ≤ t_pj T p j
  | 0 => Nat.le_refl _
  | j + 1 => by
    have := pj_ge T p j
    rw [t_pj]
    omega
/-- a number stands there, within its limits -/
def t_A (T : Nat → Nat) (p : Nat) (lo hi : Nat → Int) (j : Nat) : Prop := 0 < t_nf T (t_pj T p j) ∧ lo j ≤ (t_nv T (t_pj T p j) : Int) ∧ (t_nv T (t_pj T p j) : Int) ≤ hi j
section EV
variable {c m c' m' h : Mm} {n : Nat} {T : Nat → Nat}
theorem TC.fr (H : TC n T c) (h1 : c' 1 = c 1) (h2 : c' 2 = c 2) : TC n T c' := by unfold TC; rw [h1, h2]; exact H
theorem TM.fr (H : TM n T m) (h1 : m' 0 0 = m 0 0) (h2 : m' 1 = m 1) : TM n T m' := by unfold TM; rw [h1, h2]; exact H
theorem letter_c (H : TC n T c) {p : Nat} (hp : p < 100000) : mX3_letterAt c (nI p) = some (nI (T p)) := by
  obtain ⟨a1, a2, a3, a4, a5⟩ := H
  unfold mX3_letterAt
  rw [if_neg (nI_pos (by omega)), a2]
  by_cases h : p < n
  · have := a5 p
    rw [if_neg (nI_ge h (by omega)), gIn_nI (by omega) (by omega), cl_n (by omega), a3 p h]
    unfold gCh
    rw [if_pos (nar_id (by rw [nI_toInt (by omega)]; omega) (by rw [nI_toInt (by omega)]; omega))]
  · rw [if_pos (nI_le (by omega) (by omega)), a4 p (by omega)]; rfl
theorem byte_m (H : TM n T m) {p : Nat} (hp : p < 100000) : mX11_byteAt m (nI p) = some (nI (T p)) := by
  obtain ⟨a1, a2, a3, a4, a5⟩ := H
  unfold mX11_byteAt
  rw [a2]
  by_cases h : p < n
  · rw [if_neg (nI_ge h (by omega)), gIn_nI (by omega) (by omega), cl_n (by omega), a3 p h]
  · rw [if_pos (nI_le (by omega) (by omega)), a4 p (by omega)]; rfl
theorem fg_c {k : Nat} (hk : k ≤ 126) : mX3_isFigure c (nI k) = some (bI (t_fg k)) := by
  unfold mX3_isFigure t_fg
  rw [show (48 : Int32) = nI 48 from rfl, show (57 : Int32) = nI 57 from rfl]
  simp (disch := omega) only [nz_lt]
  repeat' split
  all_goals first
    | (rw [decide_eq_true (by omega)]; rfl)
    | (rw [decide_eq_false (by omega)]; rfl)
    | (exfalso; omega)
theorem fg_m {k : Nat} (hk : k ≤ 126) : mX11_in m (nI k).toInt64 48 57 = some (bI (t_fg k)) := by
  rw [in_i m (nI k) 48 57 (a := 48) (b := 57) (by decide) (by decide), nI_toInt (by omega)]
  unfold t_fg
  exact congrArg (fun b => some (bI b)) (decide_eq_decide.mpr (by omega))
theorem figs_c (H : TC n T c) {p : Nat} (hp : p < 10000) : mX3_figuresAt c (nI p) = some (nI (t_nf T p)) := by
  have h1 := H.2.2.2.2 p
  have h2 := H.2.2.2.2 (p + 1)
  unfold mX3_figuresAt t_nf
  rw [letter_c H (by omega), bd1_s, fg_c h1, bd1_s, ad_1, letter_c H (by omega), bd1_s, fg_c h2, bd1_s]
  simp only [bI_if]
  cases t_fg (T p) <;> cases t_fg (T (p + 1)) <;> rfl
theorem mu_10 (a : Nat) : (10 : Int32) * nI a = nI (10 * a) := pk_mul 10 a
theorem su_48 {a : Nat} (h : 48 ≤ a) : nI a - (48 : Int32) = nI (a - 48) := pk_sub h
theorem numb_c (H : TC n T c) {p : Nat} (hp : p < 10000) : mX3_numberAt c (nI p) (nI (t_nf T p)) = some (nI (t_nv T p)) := by
  have h1 := H.2.2.2.2 p
  have h2 := H.2.2.2.2 (p + 1)
  unfold mX3_numberAt
  show mX3_numberAt_5 c (99997 + 1 + 1 + 1) _ _ (nI 0) _ = _
  unfold t_nf t_nv
  by_cases f1 : t_fg (T p) = true
  · rw [if_pos f1, if_pos f1]
    have g1 := of_decide_eq_true f1
    by_cases f2 : t_fg (T (p + 1)) = true
    · rw [if_pos f2, if_pos f2]
      have g2 := of_decide_eq_true f2
      rw [mX3_numberAt_5, nI_add, if_neg (nI_ge (by omega) (by omega)), letter_c H (by omega), bd1_s, mu_10, nI_add, su_48 (by omega), mlet_s, ad_1, mX3_numberAt_5, nI_add, if_neg (nI_ge (by omega) (by omega)), letter_c H (by omega), bd1_s, mu_10, nI_add, su_48 (by omega), mlet_s, ad_1, mX3_numberAt_5, nI_add, if_pos (nI_le (by omega) (by omega))]
      exact congrArg (fun z => some (nI z)) (by omega)
    · rw [if_neg f2, if_neg f2]
      rw [mX3_numberAt_5, nI_add, if_neg (nI_ge (by omega) (by omega)), letter_c H (by omega), bd1_s, mu_10, nI_add, su_48 (by omega), mlet_s, ad_1, mX3_numberAt_5, nI_add, if_pos (nI_le (by omega) (by omega))]
      exact congrArg (fun z => some (nI z)) (by omega)
  · rw [if_neg f1, if_neg f1, mX3_numberAt_5, nI_add, if_pos (nI_le (by omega) (by omega))]
/-! the class: the numbers of an item -/
theorem alw_49 {j v : Nat} (hj : j < 5) (hv : v < 1000) : mX2_allows_49 c (nI j) (nI v) = some (bI (decide ((rom0 j).toInt ≤ (v : Int) ∧ (v : Int) ≤ (rom1 j).toInt))) := by
  unfold mX2_allows_49
  rw [gIn_nI hj (by omega), gIn_nI hj (by omega), cl_n (by omega)]
  simp only [i32_lt, nI_toInt (show v < 2147483648 by omega)]
  repeat' split
  all_goals first
    | (rw [decide_eq_true (by omega)]; rfl)
    | (rw [decide_eq_false (by omega)]; rfl)
    | (exfalso; omega)
theorem rdn_49 (H : TC n T c) {p u : Nat} (hp : p ≤ 1000) (hu : u < 4) : ∃ c', (∀ k, k ≠ 51 + u → c' k = c k) ∧ ((mX7_readNumbers_1_49_g50 u c (nI p) = some (nI (t_pj T p 5), c') ∧ (∀ j, j < 5 → t_A T p (fun j => (rom0 j).toInt) (fun j => (rom1 j).toInt) j ∧ T (t_ej T p j) = if j + 1 = 5 then 59 else 44) ∧ ∀ j, j < 5 → c' (51 + u) j = nI (t_nv T (t_pj T p j))) ∨ (mX7_readNumbers_1_49_g50 u c (nI p) = some (-4, c') ∧ ¬ ∀ j, j < 5 → t_A T p (fun j => (rom0 j).toInt) (fun j => (rom1 j).toInt) j ∧ T (t_ej T p j) = if j + 1 = 5 then 59 else 44)) := by
  unfold mX7_readNumbers_1_49_g50
  have key : ∀ fu j y, j ≤ 5 → 5 - j < fu → (∀ k, k ≠ 51 + u → y k = c k) → (∀ i, i < j → t_A T p (fun j => (rom0 j).toInt) (fun j => (rom1 j).toInt) i ∧ T (t_ej T p i) = if i + 1 = 5 then 59 else 44) → (∀ i, i < j → y (51 + u) i = nI (t_nv T (t_pj T p i))) → ∃ c', (∀ k, k ≠ 51 + u → c' k = c k) ∧ ((mX7_readNumbers_1_49_g50_6 u fu (nI (t_pj T p j)) (nI j) y = some (nI (t_pj T p 5), c') ∧ (∀ j, j < 5 → t_A T p (fun j => (rom0 j).toInt) (fun j => (rom1 j).toInt) j ∧ T (t_ej T p j) = if j + 1 = 5 then 59 else 44) ∧ ∀ j, j < 5 → c' (51 + u) j = nI (t_nv T (t_pj T p j))) ∨ (mX7_readNumbers_1_49_g50_6 u fu (nI (t_pj T p j)) (nI j) y = some (-4, c') ∧ ¬ ∀ j, j < 5 → t_A T p (fun j => (rom0 j).toInt) (fun j => (rom1 j).toInt) j ∧ T (t_ej T p j) = if j + 1 = 5 then 59 else 44)) := by
    intro fu
    induction fu with
    | zero => intro j y _ hf; omega
    | succ fu ih =>
      intro j y hj hf hy hA hv
      by_cases ej : j = 5
      · subst ej
        refine ⟨y, hy, Or.inl ⟨?_, hA, hv⟩⟩
        rw [mX7_readNumbers_1_49_g50_6, if_pos (nI_le (Nat.le_refl _) (by omega))]
      · have hj3 : j < 5 := by omega
        have hb := pj_b T p j
        have hnf := nf_2 T (t_pj T p j)
        have hnv := nv_99 T (t_pj T p j)
        have Hy : TC n T y := H.fr (hy 1 (by omega)) (hy 2 (by omega))
        rw [mX7_readNumbers_1_49_g50_6, if_neg (nI_ge hj3 (by omega)), figs_c Hy (by omega), bd1_s, numb_c Hy (by omega), bd1_s, gIn_nI (by omega) (by omega), cl_n (by omega), mlet_s, nI_add, mlet_s, show nI 5 - (1 : Int32) = nI (5 - 1) from by decide]
        generalize hy1 : wr y (51 + u) j (nI (t_nv T (t_pj T p j))) = y1
        have f1 : ∀ k, k ≠ 51 + u → y1 k = c k := fun k hk => by rw [← hy1, wr_cell _ _ _ hk, hy k hk]
        have f2 : ∀ i, i < j + 1 → y1 (51 + u) i = nI (t_nv T (t_pj T p i)) := fun i hi => by
          by_cases e : i = j
          · rw [e, ← hy1, wr_same]
          · rw [← hy1, wr_slot _ _ _ e, hv i (by omega)]
        have H1 : TC n T y1 := H.fr (f1 1 (by omega)) (f1 2 (by omega))
        have hsg : ∀ sg : Nat, (if j + 1 = 5 then 59 else 44) = sg → sg < 100 → ∃ c', (∀ k, k ≠ 51 + u → c' k = c k) ∧ ((mX7_readNumbers_1_49_g50_56 u (mX7_readNumbers_1_49_g50_6 u fu) (nI (t_pj T p j + t_nf T (t_pj T p j))) (nI j) (nI (t_nf T (t_pj T p j))) (nI sg) y1 = some (nI (t_pj T p 5), c') ∧ (∀ j, j < 5 → t_A T p (fun j => (rom0 j).toInt) (fun j => (rom1 j).toInt) j ∧ T (t_ej T p j) = if j + 1 = 5 then 59 else 44) ∧ ∀ j, j < 5 → c' (51 + u) j = nI (t_nv T (t_pj T p j))) ∨ (mX7_readNumbers_1_49_g50_56 u (mX7_readNumbers_1_49_g50_6 u fu) (nI (t_pj T p j + t_nf T (t_pj T p j))) (nI j) (nI (t_nf T (t_pj T p j))) (nI sg) y1 = some (-4, c') ∧ ¬ ∀ j, j < 5 → t_A T p (fun j => (rom0 j).toInt) (fun j => (rom1 j).toInt) j ∧ T (t_ej T p j) = if j + 1 = 5 then 59 else 44)) := by
          intro sg esg hsg
          unfold mX7_readNumbers_1_49_g50_56
          have hT := H.2.2.2.2 (t_pj T p j + t_nf T (t_pj T p j))
          rw [gIn_nI (by omega) (by omega), cl_n (by omega), f2 j (by omega), alw_49 hj3 (by omega), bd1_s, letter_c H1 (by omega), bd1_s, ad_1, ad_1]
          simp only [bI_if]
          by_cases z1 : t_nf T (t_pj T p j) = 0
          · rw [if_pos (by rw [z1]; rfl)]
            refine ⟨y1, f1, Or.inr ⟨rfl, fun z => ?_⟩⟩
            have := (z j hj3).1.1
            omega
          rw [if_neg (by rw [li_0, nz_eq (by omega) (by omega)]; exact z1)]
          by_cases z2 : (rom0 j).toInt ≤ (t_nv T (t_pj T p j) : Int) ∧ (t_nv T (t_pj T p j) : Int) ≤ (rom1 j).toInt
          case neg =>
            rw [decide_eq_false z2, if_neg (by decide)]
            refine ⟨y1, f1, Or.inr ⟨rfl, fun z => z2 (z j hj3).1.2⟩⟩
          rw [decide_eq_true z2, if_pos rfl]
          by_cases z3 : T (t_pj T p j + t_nf T (t_pj T p j)) = sg
          case neg =>
            rw [if_neg (by rw [nz_eq (by omega) (by omega)]; exact z3)]
            refine ⟨y1, f1, Or.inr ⟨rfl, fun z => z3 ?_⟩⟩
            have := (z j hj3).2
            rw [esg] at this
            exact this
          rw [if_pos (by rw [z3])]
          exact ih (j + 1) y1 (by omega) (by omega) f1 (fun i hi => by
            by_cases e : i = j
            · subst e
              exact ⟨⟨by omega, z2⟩, by rw [esg]; exact z3⟩
            · exact hA i (by omega)) f2
        by_cases hl : 5 - 1 ≤ j
        · rw [if_pos (nI_le hl (by omega))]
          exact hsg 59 (by rw [if_pos (by omega)]) (by omega)
        · rw [if_neg (nI_ge (by omega) (by omega))]
          exact hsg 44 (by rw [if_neg (by omega)]) (by omega)
  exact key FU 0 c (by omega) (fu_lt (by omega)) (fun _ _ => rfl) (fun i hi => by omega) (fun i hi => by omega)
theorem alw_55 {j v : Nat} (hj : j < 2) (hv : v < 1000) : mX2_allows_55 c (nI j) (nI v) = some (bI (decide ((rom2 j).toInt ≤ (v : Int) ∧ (v : Int) ≤ (rom3 j).toInt))) := by
  unfold mX2_allows_55
  rw [gIn_nI hj (by omega), gIn_nI hj (by omega), cl_n (by omega)]
  simp only [i32_lt, nI_toInt (show v < 2147483648 by omega)]
  repeat' split
  all_goals first
    | (rw [decide_eq_true (by omega)]; rfl)
    | (rw [decide_eq_false (by omega)]; rfl)
    | (exfalso; omega)
theorem rdn_55 (H : TC n T c) {p u : Nat} (hp : p ≤ 1000) (hu : u < 3) : ∃ c', (∀ k, k ≠ 57 + u → c' k = c k) ∧ ((mX7_readNumbers_1_55_g56 u c (nI p) = some (nI (t_pj T p 2), c') ∧ (∀ j, j < 2 → t_A T p (fun j => (rom2 j).toInt) (fun j => (rom3 j).toInt) j ∧ T (t_ej T p j) = if j + 1 = 2 then 59 else 44) ∧ ∀ j, j < 2 → c' (57 + u) j = nI (t_nv T (t_pj T p j))) ∨ (mX7_readNumbers_1_55_g56 u c (nI p) = some (-4, c') ∧ ¬ ∀ j, j < 2 → t_A T p (fun j => (rom2 j).toInt) (fun j => (rom3 j).toInt) j ∧ T (t_ej T p j) = if j + 1 = 2 then 59 else 44)) := by
  unfold mX7_readNumbers_1_55_g56
  have key : ∀ fu j y, j ≤ 2 → 2 - j < fu → (∀ k, k ≠ 57 + u → y k = c k) → (∀ i, i < j → t_A T p (fun j => (rom2 j).toInt) (fun j => (rom3 j).toInt) i ∧ T (t_ej T p i) = if i + 1 = 2 then 59 else 44) → (∀ i, i < j → y (57 + u) i = nI (t_nv T (t_pj T p i))) → ∃ c', (∀ k, k ≠ 57 + u → c' k = c k) ∧ ((mX7_readNumbers_1_55_g56_6 u fu (nI (t_pj T p j)) (nI j) y = some (nI (t_pj T p 2), c') ∧ (∀ j, j < 2 → t_A T p (fun j => (rom2 j).toInt) (fun j => (rom3 j).toInt) j ∧ T (t_ej T p j) = if j + 1 = 2 then 59 else 44) ∧ ∀ j, j < 2 → c' (57 + u) j = nI (t_nv T (t_pj T p j))) ∨ (mX7_readNumbers_1_55_g56_6 u fu (nI (t_pj T p j)) (nI j) y = some (-4, c') ∧ ¬ ∀ j, j < 2 → t_A T p (fun j => (rom2 j).toInt) (fun j => (rom3 j).toInt) j ∧ T (t_ej T p j) = if j + 1 = 2 then 59 else 44)) := by
    intro fu
    induction fu with
    | zero => intro j y _ hf; omega
    | succ fu ih =>
      intro j y hj hf hy hA hv
      by_cases ej : j = 2
      · subst ej
        refine ⟨y, hy, Or.inl ⟨?_, hA, hv⟩⟩
        rw [mX7_readNumbers_1_55_g56_6, if_pos (nI_le (Nat.le_refl _) (by omega))]
      · have hj3 : j < 2 := by omega
        have hb := pj_b T p j
        have hnf := nf_2 T (t_pj T p j)
        have hnv := nv_99 T (t_pj T p j)
        have Hy : TC n T y := H.fr (hy 1 (by omega)) (hy 2 (by omega))
        rw [mX7_readNumbers_1_55_g56_6, if_neg (nI_ge hj3 (by omega)), figs_c Hy (by omega), bd1_s, numb_c Hy (by omega), bd1_s, gIn_nI (by omega) (by omega), cl_n (by omega), mlet_s, nI_add, mlet_s, show nI 2 - (1 : Int32) = nI (2 - 1) from by decide]
        generalize hy1 : wr y (57 + u) j (nI (t_nv T (t_pj T p j))) = y1
        have f1 : ∀ k, k ≠ 57 + u → y1 k = c k := fun k hk => by rw [← hy1, wr_cell _ _ _ hk, hy k hk]
        have f2 : ∀ i, i < j + 1 → y1 (57 + u) i = nI (t_nv T (t_pj T p i)) := fun i hi => by
          by_cases e : i = j
          · rw [e, ← hy1, wr_same]
          · rw [← hy1, wr_slot _ _ _ e, hv i (by omega)]
        have H1 : TC n T y1 := H.fr (f1 1 (by omega)) (f1 2 (by omega))
        have hsg : ∀ sg : Nat, (if j + 1 = 2 then 59 else 44) = sg → sg < 100 → ∃ c', (∀ k, k ≠ 57 + u → c' k = c k) ∧ ((mX7_readNumbers_1_55_g56_56 u (mX7_readNumbers_1_55_g56_6 u fu) (nI (t_pj T p j + t_nf T (t_pj T p j))) (nI j) (nI (t_nf T (t_pj T p j))) (nI sg) y1 = some (nI (t_pj T p 2), c') ∧ (∀ j, j < 2 → t_A T p (fun j => (rom2 j).toInt) (fun j => (rom3 j).toInt) j ∧ T (t_ej T p j) = if j + 1 = 2 then 59 else 44) ∧ ∀ j, j < 2 → c' (57 + u) j = nI (t_nv T (t_pj T p j))) ∨ (mX7_readNumbers_1_55_g56_56 u (mX7_readNumbers_1_55_g56_6 u fu) (nI (t_pj T p j + t_nf T (t_pj T p j))) (nI j) (nI (t_nf T (t_pj T p j))) (nI sg) y1 = some (-4, c') ∧ ¬ ∀ j, j < 2 → t_A T p (fun j => (rom2 j).toInt) (fun j => (rom3 j).toInt) j ∧ T (t_ej T p j) = if j + 1 = 2 then 59 else 44)) := by
          intro sg esg hsg
          unfold mX7_readNumbers_1_55_g56_56
          have hT := H.2.2.2.2 (t_pj T p j + t_nf T (t_pj T p j))
          rw [gIn_nI (by omega) (by omega), cl_n (by omega), f2 j (by omega), alw_55 hj3 (by omega), bd1_s, letter_c H1 (by omega), bd1_s, ad_1, ad_1]
          simp only [bI_if]
          by_cases z1 : t_nf T (t_pj T p j) = 0
          · rw [if_pos (by rw [z1]; rfl)]
            refine ⟨y1, f1, Or.inr ⟨rfl, fun z => ?_⟩⟩
            have := (z j hj3).1.1
            omega
          rw [if_neg (by rw [li_0, nz_eq (by omega) (by omega)]; exact z1)]
          by_cases z2 : (rom2 j).toInt ≤ (t_nv T (t_pj T p j) : Int) ∧ (t_nv T (t_pj T p j) : Int) ≤ (rom3 j).toInt
          case neg =>
            rw [decide_eq_false z2, if_neg (by decide)]
            refine ⟨y1, f1, Or.inr ⟨rfl, fun z => z2 (z j hj3).1.2⟩⟩
          rw [decide_eq_true z2, if_pos rfl]
          by_cases z3 : T (t_pj T p j + t_nf T (t_pj T p j)) = sg
          case neg =>
            rw [if_neg (by rw [nz_eq (by omega) (by omega)]; exact z3)]
            refine ⟨y1, f1, Or.inr ⟨rfl, fun z => z3 ?_⟩⟩
            have := (z j hj3).2
            rw [esg] at this
            exact this
          rw [if_pos (by rw [z3])]
          exact ih (j + 1) y1 (by omega) (by omega) f1 (fun i hi => by
            by_cases e : i = j
            · subst e
              exact ⟨⟨by omega, z2⟩, by rw [esg]; exact z3⟩
            · exact hA i (by omega)) f2
        by_cases hl : 2 - 1 ≤ j
        · rw [if_pos (nI_le hl (by omega))]
          exact hsg 59 (by rw [if_pos (by omega)]) (by omega)
        · rw [if_neg (nI_ge (by omega) (by omega))]
          exact hsg 44 (by rw [if_neg (by omega)]) (by omega)
  exact key FU 0 c (by omega) (fu_lt (by omega)) (fun _ _ => rfl) (fun i hi => by omega) (fun i hi => by omega)
theorem alw_60 {j v : Nat} (hj : j < 3) (hv : v < 1000) : mX2_allows_60 c (nI j) (nI v) = some (bI (decide ((rom4 j).toInt ≤ (v : Int) ∧ (v : Int) ≤ (rom5 j).toInt))) := by
  unfold mX2_allows_60
  rw [gIn_nI hj (by omega), gIn_nI hj (by omega), cl_n (by omega)]
  simp only [i32_lt, nI_toInt (show v < 2147483648 by omega)]
  repeat' split
  all_goals first
    | (rw [decide_eq_true (by omega)]; rfl)
    | (rw [decide_eq_false (by omega)]; rfl)
    | (exfalso; omega)
theorem rdn_60 (H : TC n T c) {p u : Nat} (hp : p ≤ 1000) (hu : u < 4) : ∃ c', (∀ k, k ≠ 62 + u → c' k = c k) ∧ ((mX7_readNumbers_1_60_g61 u c (nI p) = some (nI (t_pj T p 3), c') ∧ (∀ j, j < 3 → t_A T p (fun j => (rom4 j).toInt) (fun j => (rom5 j).toInt) j ∧ T (t_ej T p j) = if j + 1 = 3 then 59 else 44) ∧ ∀ j, j < 3 → c' (62 + u) j = nI (t_nv T (t_pj T p j))) ∨ (mX7_readNumbers_1_60_g61 u c (nI p) = some (-4, c') ∧ ¬ ∀ j, j < 3 → t_A T p (fun j => (rom4 j).toInt) (fun j => (rom5 j).toInt) j ∧ T (t_ej T p j) = if j + 1 = 3 then 59 else 44)) := by
  unfold mX7_readNumbers_1_60_g61
  have key : ∀ fu j y, j ≤ 3 → 3 - j < fu → (∀ k, k ≠ 62 + u → y k = c k) → (∀ i, i < j → t_A T p (fun j => (rom4 j).toInt) (fun j => (rom5 j).toInt) i ∧ T (t_ej T p i) = if i + 1 = 3 then 59 else 44) → (∀ i, i < j → y (62 + u) i = nI (t_nv T (t_pj T p i))) → ∃ c', (∀ k, k ≠ 62 + u → c' k = c k) ∧ ((mX7_readNumbers_1_60_g61_6 u fu (nI (t_pj T p j)) (nI j) y = some (nI (t_pj T p 3), c') ∧ (∀ j, j < 3 → t_A T p (fun j => (rom4 j).toInt) (fun j => (rom5 j).toInt) j ∧ T (t_ej T p j) = if j + 1 = 3 then 59 else 44) ∧ ∀ j, j < 3 → c' (62 + u) j = nI (t_nv T (t_pj T p j))) ∨ (mX7_readNumbers_1_60_g61_6 u fu (nI (t_pj T p j)) (nI j) y = some (-4, c') ∧ ¬ ∀ j, j < 3 → t_A T p (fun j => (rom4 j).toInt) (fun j => (rom5 j).toInt) j ∧ T (t_ej T p j) = if j + 1 = 3 then 59 else 44)) := by
    intro fu
    induction fu with
    | zero => intro j y _ hf; omega
    | succ fu ih =>
      intro j y hj hf hy hA hv
      by_cases ej : j = 3
      · subst ej
        refine ⟨y, hy, Or.inl ⟨?_, hA, hv⟩⟩
        rw [mX7_readNumbers_1_60_g61_6, if_pos (nI_le (Nat.le_refl _) (by omega))]
      · have hj3 : j < 3 := by omega
        have hb := pj_b T p j
        have hnf := nf_2 T (t_pj T p j)
        have hnv := nv_99 T (t_pj T p j)
        have Hy : TC n T y := H.fr (hy 1 (by omega)) (hy 2 (by omega))
        rw [mX7_readNumbers_1_60_g61_6, if_neg (nI_ge hj3 (by omega)), figs_c Hy (by omega), bd1_s, numb_c Hy (by omega), bd1_s, gIn_nI (by omega) (by omega), cl_n (by omega), mlet_s, nI_add, mlet_s, show nI 3 - (1 : Int32) = nI (3 - 1) from by decide]
        generalize hy1 : wr y (62 + u) j (nI (t_nv T (t_pj T p j))) = y1
        have f1 : ∀ k, k ≠ 62 + u → y1 k = c k := fun k hk => by rw [← hy1, wr_cell _ _ _ hk, hy k hk]
        have f2 : ∀ i, i < j + 1 → y1 (62 + u) i = nI (t_nv T (t_pj T p i)) := fun i hi => by
          by_cases e : i = j
          · rw [e, ← hy1, wr_same]
          · rw [← hy1, wr_slot _ _ _ e, hv i (by omega)]
        have H1 : TC n T y1 := H.fr (f1 1 (by omega)) (f1 2 (by omega))
        have hsg : ∀ sg : Nat, (if j + 1 = 3 then 59 else 44) = sg → sg < 100 → ∃ c', (∀ k, k ≠ 62 + u → c' k = c k) ∧ ((mX7_readNumbers_1_60_g61_56 u (mX7_readNumbers_1_60_g61_6 u fu) (nI (t_pj T p j + t_nf T (t_pj T p j))) (nI j) (nI (t_nf T (t_pj T p j))) (nI sg) y1 = some (nI (t_pj T p 3), c') ∧ (∀ j, j < 3 → t_A T p (fun j => (rom4 j).toInt) (fun j => (rom5 j).toInt) j ∧ T (t_ej T p j) = if j + 1 = 3 then 59 else 44) ∧ ∀ j, j < 3 → c' (62 + u) j = nI (t_nv T (t_pj T p j))) ∨ (mX7_readNumbers_1_60_g61_56 u (mX7_readNumbers_1_60_g61_6 u fu) (nI (t_pj T p j + t_nf T (t_pj T p j))) (nI j) (nI (t_nf T (t_pj T p j))) (nI sg) y1 = some (-4, c') ∧ ¬ ∀ j, j < 3 → t_A T p (fun j => (rom4 j).toInt) (fun j => (rom5 j).toInt) j ∧ T (t_ej T p j) = if j + 1 = 3 then 59 else 44)) := by
          intro sg esg hsg
          unfold mX7_readNumbers_1_60_g61_56
          have hT := H.2.2.2.2 (t_pj T p j + t_nf T (t_pj T p j))
          rw [gIn_nI (by omega) (by omega), cl_n (by omega), f2 j (by omega), alw_60 hj3 (by omega), bd1_s, letter_c H1 (by omega), bd1_s, ad_1, ad_1]
          simp only [bI_if]
          by_cases z1 : t_nf T (t_pj T p j) = 0
          · rw [if_pos (by rw [z1]; rfl)]
            refine ⟨y1, f1, Or.inr ⟨rfl, fun z => ?_⟩⟩
            have := (z j hj3).1.1
            omega
          rw [if_neg (by rw [li_0, nz_eq (by omega) (by omega)]; exact z1)]
          by_cases z2 : (rom4 j).toInt ≤ (t_nv T (t_pj T p j) : Int) ∧ (t_nv T (t_pj T p j) : Int) ≤ (rom5 j).toInt
          case neg =>
            rw [decide_eq_false z2, if_neg (by decide)]
            refine ⟨y1, f1, Or.inr ⟨rfl, fun z => z2 (z j hj3).1.2⟩⟩
          rw [decide_eq_true z2, if_pos rfl]
          by_cases z3 : T (t_pj T p j + t_nf T (t_pj T p j)) = sg
          case neg =>
            rw [if_neg (by rw [nz_eq (by omega) (by omega)]; exact z3)]
            refine ⟨y1, f1, Or.inr ⟨rfl, fun z => z3 ?_⟩⟩
            have := (z j hj3).2
            rw [esg] at this
            exact this
          rw [if_pos (by rw [z3])]
          exact ih (j + 1) y1 (by omega) (by omega) f1 (fun i hi => by
            by_cases e : i = j
            · subst e
              exact ⟨⟨by omega, z2⟩, by rw [esg]; exact z3⟩
            · exact hA i (by omega)) f2
        by_cases hl : 3 - 1 ≤ j
        · rw [if_pos (nI_le hl (by omega))]
          exact hsg 59 (by rw [if_pos (by omega)]) (by omega)
        · rw [if_neg (nI_ge (by omega) (by omega))]
          exact hsg 44 (by rw [if_neg (by omega)]) (by omega)
  exact key FU 0 c (by omega) (fu_lt (by omega)) (fun _ _ => rfl) (fun i hi => by omega) (fun i hi => by omega)
/-! the reference: a number -/
theorem nm_6 (H : TM n T m) {p at_ : Nat} {lo hi : Int32} (hs : m 0 2 = nI p) (hp : p < 1000) (ha : at_ < 20) : ∃ m' b, mX11_number_0_6_28 lo hi (nI at_) m = some (bI b, m') ∧ m' 0 2 = nI (p + t_nf T p) ∧ m' 6 at_ = nI (t_nv T p) ∧ ((∀ k, k ≠ 0 → k ≠ 6 → m' k = m k) ∧ (∀ j, j ≠ 2 → m' 0 j = m 0 j) ∧ ∀ j, j ≠ at_ → m' 6 j = m 6 j) ∧ (b = true ↔ 0 < t_nf T p ∧ lo.toInt ≤ (t_nv T p : Int) ∧ (t_nv T p : Int) ≤ hi.toInt) := by
  have h1 := H.2.2.2.2 p
  have h2 := H.2.2.2.2 (p + 1)
  have e96 : ∀ (y : Mm) (v k : Nat), v < 1000 → k < 3 → mX11_number_0_6_96 lo hi (nI at_) (nI v) (nI k) y = some (bI (decide (0 < k) && decide (lo.toInt ≤ (v : Int) ∧ (v : Int) ≤ hi.toInt)), wr y 6 at_ (nI v)) := by
    intro y v k hv hk
    unfold mX11_number_0_6_96
    rw [gIn_nI ha (by omega), cl_n (by omega), mlet_s, in_eq, Int32.toInt_toInt64, Int32.toInt_toInt64, Int32.toInt_toInt64, nI_toInt (by omega), bd1_s]
    simp only [bI_if]
    by_cases hk0 : k = 0
    · rw [hk0, if_pos (by decide), decide_eq_false (by omega)]; rfl
    · rw [if_neg (by rw [li_0, nz_le (by omega) (by omega)]; omega), decide_eq_true (show 0 < k by omega), Bool.true_and]
      cases decide (lo.toInt ≤ (v : Int) ∧ (v : Int) ≤ hi.toInt) <;> rfl
  have iff1 : ∀ (k : Nat) (v : Nat), (decide (0 < k) && decide (lo.toInt ≤ (v : Int) ∧ (v : Int) ≤ hi.toInt)) = true ↔ 0 < k ∧ lo.toInt ≤ (v : Int) ∧ (v : Int) ≤ hi.toInt := fun k v => by
    rw [Bool.and_eq_true, decide_eq_true_eq, decide_eq_true_eq]
  unfold mX11_number_0_6_28
  show ∃ m' b, mX11_number_0_6_34 (99997 + 1 + 1 + 1) lo hi (nI at_) (nI 0) (nI 0) m = _ ∧ _
  unfold t_nf t_nv
  by_cases f1 : t_fg (T p) = true
  · rw [if_pos f1, if_pos f1]
    have g1 := of_decide_eq_true f1
    have m1 : ∀ j, j ≠ 2 → wr m 0 2 (nI (p + 1)) 0 j = m 0 j := fun j hj => wr_slot _ _ _ hj
    have H1 : TM n T (wr m 0 2 (nI (p + 1))) := H.fr (m1 0 (by decide)) (wr_cell _ _ _ (by decide))
    rw [mX11_number_0_6_34, if_neg (by decide), hs, byte_m H (by omega), bd1_s, fg_m h1, bd1_s, f1, if_neg (by decide), bd1_s, mu_10, nI_add, su_48 (by omega), mlet_s, ad_1, mlet_s, ad_1, mX11_number_0_6_34, if_neg (by decide), wr_same, byte_m H1 (by omega), bd1_s, fg_m h2, bd1_s]
    by_cases f2 : t_fg (T (p + 1)) = true
    · rw [if_pos f2, if_pos f2, f2, if_neg (by decide)]
      have g2 := of_decide_eq_true f2
      rw [bd1_s, mu_10, nI_add, su_48 (by omega), mlet_s, ad_1, mlet_s, ad_1, mX11_number_0_6_34, if_pos (by decide), show 10 * (10 * 0 + T p - 48) + T (p + 1) - 48 = 10 * (T p - 48) + T (p + 1) - 48 from by omega, e96 _ _ _ (by omega) (by omega)]
      refine ⟨_, _, rfl, ?_, wr_same _ _ _ _, ⟨fun k k1 k2 => ?_, fun j hj => ?_, fun j hj => ?_⟩, iff1 _ _⟩
      · rw [wr_cell _ _ _ (by decide), wr_same]
      · rw [wr_cell _ _ _ k2, wr_cell _ _ _ k1, wr_cell _ _ _ k1]
      · rw [wr_cell _ _ _ (by decide), wr_slot _ _ _ hj, wr_slot _ _ _ hj]
      · rw [wr_slot _ _ _ hj, wr_cell _ _ _ (by decide), wr_cell _ _ _ (by decide)]
    · rw [if_neg f2, if_neg f2, show t_fg (T (p + 1)) = false from by simpa using f2, if_pos (show bI false = 0 from rfl), show 10 * 0 + T p - 48 = T p - 48 from by omega, e96 _ _ _ (by omega) (by omega)]
      refine ⟨_, _, rfl, ?_, wr_same _ _ _ _, ⟨fun k k1 k2 => ?_, fun j hj => ?_, fun j hj => ?_⟩, iff1 _ _⟩
      · rw [wr_cell _ _ _ (by decide), wr_same]
      · rw [wr_cell _ _ _ k2, wr_cell _ _ _ k1]
      · rw [wr_cell _ _ _ (by decide), wr_slot _ _ _ hj]
      · rw [wr_slot _ _ _ hj, wr_cell _ _ _ (by decide)]
  · rw [if_neg f1, if_neg f1, mX11_number_0_6_34, if_neg (by decide), hs, byte_m H (by omega), bd1_s, fg_m h1, bd1_s, show t_fg (T p) = false from by simpa using f1, if_pos (show bI false = 0 from rfl), e96 _ _ _ (by omega) (by omega)]
    refine ⟨_, _, rfl, ?_, wr_same _ _ _ _, ⟨fun k k1 k2 => ?_, fun j hj => ?_, fun j hj => ?_⟩, iff1 _ _⟩
    · rw [wr_cell _ _ _ (by decide), hs]; rfl
    · rw [wr_cell _ _ _ k2]
    · rw [wr_cell _ _ _ (by decide)]
    · rw [wr_slot _ _ _ hj]
/-- numbers behind commas, one after the other -/
def rx_6 (lo hi : Nat → Int32) (base : Nat) : Nat → Nat → Mm → Option (Int32 × Mm)
  | 0, _, h => some (1, h)
  | d + 1, j, h => bd2 (mX11_number_0_6 h 44 (lo j) (hi j) (nI (base + j))) (fun v h' => if v = 0 then some (0, h') else rx_6 lo hi base d (j + 1) h')
theorem rx_ok_6 {lo hi : Nat → Int32} {base p L : Nat} (hL : base + L ≤ 20) (hL5 : L ≤ 5) (hp : p ≤ 300) : ∀ (d j : Nat) (m : Mm), TM n T m → j + 1 + d = L → m 0 2 = nI (t_ej T p j) → ∃ m' b, rx_6 lo hi base d (j + 1) m = some (bI b, m') ∧ ((∀ k, k ≠ 0 → k ≠ 6 → m' k = m k) ∧ (∀ s, s ≠ 2 → m' 0 s = m 0 s) ∧ ∀ s, (s < base + (j + 1) ∨ base + L ≤ s) → m' 6 s = m 6 s) ∧ (b = true ↔ ∀ i, j < i → i < L → T (t_ej T p (i - 1)) = 44 ∧ t_A T p (fun k => (lo k).toInt) (fun k => (hi k).toInt) i) ∧ (b = true → m' 0 2 = nI (t_ej T p (L - 1)) ∧ ∀ i, j < i → i < L → m' 6 (base + i) = nI (t_nv T (t_pj T p i))) := by
  intro d
  induction d with
  | zero =>
    intro j m H hd hs
    refine ⟨m, true, rfl, ⟨fun _ _ _ => rfl, fun _ _ => rfl, fun _ _ => rfl⟩, ⟨fun _ i h1 h2 => by omega, fun _ => rfl⟩, fun _ => ⟨by rw [hs, show L - 1 = j from by omega], fun i h1 h2 => by omega⟩⟩
  | succ d ih =>
    intro j m H hd hs
    have hb := pj_b T p j
    have hnf := nf_2 T (t_pj T p j)
    have he : t_ej T p j = t_pj T p j + t_nf T (t_pj T p j) := rfl
    have hT := H.2.2.2.2 (t_ej T p j)
    rw [rx_6]
    unfold mX11_number_0_6
    rw [if_neg (by decide), hs, byte_m H (by omega), bd1_s, show (44 : Int32) = nI 44 from rfl]
    by_cases hc : T (t_ej T p j) = 44
    case neg =>
      rw [if_neg (by rw [nz_eq (by omega) (by omega)]; exact hc), bd2_s, if_pos rfl]
      refine ⟨m, false, rfl, ⟨fun _ _ _ => rfl, fun _ _ => rfl, fun _ _ => rfl⟩, ⟨fun z => (by cases z), fun z => ?_⟩, fun z => (by cases z)⟩
      exact absurd (by have := (z (j + 1) (by omega) (by omega)).1; rw [Nat.add_sub_cancel] at this; exact this) hc
    rw [if_pos (by rw [hc]), ad_1, mlet_s]
    have H1 : TM n T (wr m 0 2 (nI (t_ej T p j + 1))) := H.fr (wr_slot _ _ _ (by decide)) (wr_cell _ _ _ (by decide))
    obtain ⟨m1, b, a1, a2, a3, ⟨a4, a5, a6⟩, a7⟩ := nm_6 H1 (p := t_ej T p j + 1) (at_ := base + (j + 1)) (lo := lo (j + 1)) (hi := hi (j + 1)) (wr_same _ _ _ _) (by omega) (by omega)
    have hpj : t_ej T p j + 1 = t_pj T p (j + 1) := rfl
    rw [hpj] at a2 a3 a7
    rw [hpj] at a1 a4 a5 a6
    rw [hpj, a1, bd2_s]
    have f4 : ∀ k, k ≠ 0 → k ≠ 6 → m1 k = m k := fun k k1 k2 => by rw [a4 k k1 k2, wr_cell _ _ _ k1]
    have f5 : ∀ s, s ≠ 2 → m1 0 s = m 0 s := fun s hs => by rw [a5 s hs, wr_slot _ _ _ hs]
    have f6 : ∀ s, s ≠ base + (j + 1) → m1 6 s = m 6 s := fun s hs => by rw [a6 s hs, wr_cell _ _ _ (by decide)]
    have hA : b = true ↔ t_A T p (fun k => (lo k).toInt) (fun k => (hi k).toInt) (j + 1) := a7
    cases b with
    | false =>
      rw [if_pos (show bI false = 0 from rfl)]
      refine ⟨m1, false, rfl, ⟨f4, f5, fun s hs => f6 s (by omega)⟩, ⟨fun z => (by cases z), fun z => ?_⟩, fun z => (by cases z)⟩
      exact absurd (hA.mpr (z (j + 1) (by omega) (by omega)).2) (by decide)
    | true =>
      rw [if_neg (by decide)]
      obtain ⟨m2, b2, c1, ⟨c2, c3, c4⟩, c5, c6⟩ := ih (j + 1) m1 (H.fr (f5 0 (by decide)) (f4 1 (by decide) (by decide))) (by omega) a2
      refine ⟨m2, b2, c1, ⟨fun k k1 k2 => by rw [c2 k k1 k2, f4 k k1 k2], fun s hs => by rw [c3 s hs, f5 s hs], fun s hs => by rw [c4 s (by omega), f6 s (by omega)]⟩, ?_, fun z => ⟨(c6 z).1, fun i h1 h2 => ?_⟩⟩
      · rw [c5]
        constructor
        · intro z i h1 h2
          by_cases e : i = j + 1
          · subst e
            exact ⟨by rw [Nat.add_sub_cancel]; exact hc, hA.mp rfl⟩
          · exact z i (by omega) h2
        · intro z i h1 h2
          exact z i (by omega) h2
      · by_cases e : i = j + 1
        · subst e
          rw [c4 _ (by omega), a3]
        · exact (c6 z).2 i (by omega) h2
theorem nm_7 (H : TM n T m) {p at_ : Nat} {lo hi : Int32} (hs : m 0 2 = nI p) (hp : p < 1000) (ha : at_ < 6) : ∃ m' b, mX11_number_0_7_28 lo hi (nI at_) m = some (bI b, m') ∧ m' 0 2 = nI (p + t_nf T p) ∧ m' 7 at_ = nI (t_nv T p) ∧ ((∀ k, k ≠ 0 → k ≠ 7 → m' k = m k) ∧ (∀ j, j ≠ 2 → m' 0 j = m 0 j) ∧ ∀ j, j ≠ at_ → m' 7 j = m 7 j) ∧ (b = true ↔ 0 < t_nf T p ∧ lo.toInt ≤ (t_nv T p : Int) ∧ (t_nv T p : Int) ≤ hi.toInt) := by
  have h1 := H.2.2.2.2 p
  have h2 := H.2.2.2.2 (p + 1)
  have e96 : ∀ (y : Mm) (v k : Nat), v < 1000 → k < 3 → mX11_number_0_7_96 lo hi (nI at_) (nI v) (nI k) y = some (bI (decide (0 < k) && decide (lo.toInt ≤ (v : Int) ∧ (v : Int) ≤ hi.toInt)), wr y 7 at_ (nI v)) := by
    intro y v k hv hk
    unfold mX11_number_0_7_96
    rw [gIn_nI ha (by omega), cl_n (by omega), mlet_s, in_eq, Int32.toInt_toInt64, Int32.toInt_toInt64, Int32.toInt_toInt64, nI_toInt (by omega), bd1_s]
    simp only [bI_if]
    by_cases hk0 : k = 0
    · rw [hk0, if_pos (by decide), decide_eq_false (by omega)]; rfl
    · rw [if_neg (by rw [li_0, nz_le (by omega) (by omega)]; omega), decide_eq_true (show 0 < k by omega), Bool.true_and]
      cases decide (lo.toInt ≤ (v : Int) ∧ (v : Int) ≤ hi.toInt) <;> rfl
  have iff1 : ∀ (k : Nat) (v : Nat), (decide (0 < k) && decide (lo.toInt ≤ (v : Int) ∧ (v : Int) ≤ hi.toInt)) = true ↔ 0 < k ∧ lo.toInt ≤ (v : Int) ∧ (v : Int) ≤ hi.toInt := fun k v => by
    rw [Bool.and_eq_true, decide_eq_true_eq, decide_eq_true_eq]
  unfold mX11_number_0_7_28
  show ∃ m' b, mX11_number_0_7_34 (99997 + 1 + 1 + 1) lo hi (nI at_) (nI 0) (nI 0) m = _ ∧ _
  unfold t_nf t_nv
  by_cases f1 : t_fg (T p) = true
  · rw [if_pos f1, if_pos f1]
    have g1 := of_decide_eq_true f1
    have m1 : ∀ j, j ≠ 2 → wr m 0 2 (nI (p + 1)) 0 j = m 0 j := fun j hj => wr_slot _ _ _ hj
    have H1 : TM n T (wr m 0 2 (nI (p + 1))) := H.fr (m1 0 (by decide)) (wr_cell _ _ _ (by decide))
    rw [mX11_number_0_7_34, if_neg (by decide), hs, byte_m H (by omega), bd1_s, fg_m h1, bd1_s, f1, if_neg (by decide), bd1_s, mu_10, nI_add, su_48 (by omega), mlet_s, ad_1, mlet_s, ad_1, mX11_number_0_7_34, if_neg (by decide), wr_same, byte_m H1 (by omega), bd1_s, fg_m h2, bd1_s]
    by_cases f2 : t_fg (T (p + 1)) = true
    · rw [if_pos f2, if_pos f2, f2, if_neg (by decide)]
      have g2 := of_decide_eq_true f2
      rw [bd1_s, mu_10, nI_add, su_48 (by omega), mlet_s, ad_1, mlet_s, ad_1, mX11_number_0_7_34, if_pos (by decide), show 10 * (10 * 0 + T p - 48) + T (p + 1) - 48 = 10 * (T p - 48) + T (p + 1) - 48 from by omega, e96 _ _ _ (by omega) (by omega)]
      refine ⟨_, _, rfl, ?_, wr_same _ _ _ _, ⟨fun k k1 k2 => ?_, fun j hj => ?_, fun j hj => ?_⟩, iff1 _ _⟩
      · rw [wr_cell _ _ _ (by decide), wr_same]
      · rw [wr_cell _ _ _ k2, wr_cell _ _ _ k1, wr_cell _ _ _ k1]
      · rw [wr_cell _ _ _ (by decide), wr_slot _ _ _ hj, wr_slot _ _ _ hj]
      · rw [wr_slot _ _ _ hj, wr_cell _ _ _ (by decide), wr_cell _ _ _ (by decide)]
    · rw [if_neg f2, if_neg f2, show t_fg (T (p + 1)) = false from by simpa using f2, if_pos (show bI false = 0 from rfl), show 10 * 0 + T p - 48 = T p - 48 from by omega, e96 _ _ _ (by omega) (by omega)]
      refine ⟨_, _, rfl, ?_, wr_same _ _ _ _, ⟨fun k k1 k2 => ?_, fun j hj => ?_, fun j hj => ?_⟩, iff1 _ _⟩
      · rw [wr_cell _ _ _ (by decide), wr_same]
      · rw [wr_cell _ _ _ k2, wr_cell _ _ _ k1]
      · rw [wr_cell _ _ _ (by decide), wr_slot _ _ _ hj]
      · rw [wr_slot _ _ _ hj, wr_cell _ _ _ (by decide)]
  · rw [if_neg f1, if_neg f1, mX11_number_0_7_34, if_neg (by decide), hs, byte_m H (by omega), bd1_s, fg_m h1, bd1_s, show t_fg (T p) = false from by simpa using f1, if_pos (show bI false = 0 from rfl), e96 _ _ _ (by omega) (by omega)]
    refine ⟨_, _, rfl, ?_, wr_same _ _ _ _, ⟨fun k k1 k2 => ?_, fun j hj => ?_, fun j hj => ?_⟩, iff1 _ _⟩
    · rw [wr_cell _ _ _ (by decide), hs]; rfl
    · rw [wr_cell _ _ _ k2]
    · rw [wr_cell _ _ _ (by decide)]
    · rw [wr_slot _ _ _ hj]
/-- numbers behind commas, one after the other -/
def rx_7 (lo hi : Nat → Int32) (base : Nat) : Nat → Nat → Mm → Option (Int32 × Mm)
  | 0, _, h => some (1, h)
  | d + 1, j, h => bd2 (mX11_number_0_7 h 44 (lo j) (hi j) (nI (base + j))) (fun v h' => if v = 0 then some (0, h') else rx_7 lo hi base d (j + 1) h')
theorem rx_ok_7 {lo hi : Nat → Int32} {base p L : Nat} (hL : base + L ≤ 6) (hL5 : L ≤ 5) (hp : p ≤ 300) : ∀ (d j : Nat) (m : Mm), TM n T m → j + 1 + d = L → m 0 2 = nI (t_ej T p j) → ∃ m' b, rx_7 lo hi base d (j + 1) m = some (bI b, m') ∧ ((∀ k, k ≠ 0 → k ≠ 7 → m' k = m k) ∧ (∀ s, s ≠ 2 → m' 0 s = m 0 s) ∧ ∀ s, (s < base + (j + 1) ∨ base + L ≤ s) → m' 7 s = m 7 s) ∧ (b = true ↔ ∀ i, j < i → i < L → T (t_ej T p (i - 1)) = 44 ∧ t_A T p (fun k => (lo k).toInt) (fun k => (hi k).toInt) i) ∧ (b = true → m' 0 2 = nI (t_ej T p (L - 1)) ∧ ∀ i, j < i → i < L → m' 7 (base + i) = nI (t_nv T (t_pj T p i))) := by
  intro d
  induction d with
  | zero =>
    intro j m H hd hs
    refine ⟨m, true, rfl, ⟨fun _ _ _ => rfl, fun _ _ => rfl, fun _ _ => rfl⟩, ⟨fun _ i h1 h2 => by omega, fun _ => rfl⟩, fun _ => ⟨by rw [hs, show L - 1 = j from by omega], fun i h1 h2 => by omega⟩⟩
  | succ d ih =>
    intro j m H hd hs
    have hb := pj_b T p j
    have hnf := nf_2 T (t_pj T p j)
    have he : t_ej T p j = t_pj T p j + t_nf T (t_pj T p j) := rfl
    have hT := H.2.2.2.2 (t_ej T p j)
    rw [rx_7]
    unfold mX11_number_0_7
    rw [if_neg (by decide), hs, byte_m H (by omega), bd1_s, show (44 : Int32) = nI 44 from rfl]
    by_cases hc : T (t_ej T p j) = 44
    case neg =>
      rw [if_neg (by rw [nz_eq (by omega) (by omega)]; exact hc), bd2_s, if_pos rfl]
      refine ⟨m, false, rfl, ⟨fun _ _ _ => rfl, fun _ _ => rfl, fun _ _ => rfl⟩, ⟨fun z => (by cases z), fun z => ?_⟩, fun z => (by cases z)⟩
      exact absurd (by have := (z (j + 1) (by omega) (by omega)).1; rw [Nat.add_sub_cancel] at this; exact this) hc
    rw [if_pos (by rw [hc]), ad_1, mlet_s]
    have H1 : TM n T (wr m 0 2 (nI (t_ej T p j + 1))) := H.fr (wr_slot _ _ _ (by decide)) (wr_cell _ _ _ (by decide))
    obtain ⟨m1, b, a1, a2, a3, ⟨a4, a5, a6⟩, a7⟩ := nm_7 H1 (p := t_ej T p j + 1) (at_ := base + (j + 1)) (lo := lo (j + 1)) (hi := hi (j + 1)) (wr_same _ _ _ _) (by omega) (by omega)
    have hpj : t_ej T p j + 1 = t_pj T p (j + 1) := rfl
    rw [hpj] at a2 a3 a7
    rw [hpj] at a1 a4 a5 a6
    rw [hpj, a1, bd2_s]
    have f4 : ∀ k, k ≠ 0 → k ≠ 7 → m1 k = m k := fun k k1 k2 => by rw [a4 k k1 k2, wr_cell _ _ _ k1]
    have f5 : ∀ s, s ≠ 2 → m1 0 s = m 0 s := fun s hs => by rw [a5 s hs, wr_slot _ _ _ hs]
    have f6 : ∀ s, s ≠ base + (j + 1) → m1 7 s = m 7 s := fun s hs => by rw [a6 s hs, wr_cell _ _ _ (by decide)]
    have hA : b = true ↔ t_A T p (fun k => (lo k).toInt) (fun k => (hi k).toInt) (j + 1) := a7
    cases b with
    | false =>
      rw [if_pos (show bI false = 0 from rfl)]
      refine ⟨m1, false, rfl, ⟨f4, f5, fun s hs => f6 s (by omega)⟩, ⟨fun z => (by cases z), fun z => ?_⟩, fun z => (by cases z)⟩
      exact absurd (hA.mpr (z (j + 1) (by omega) (by omega)).2) (by decide)
    | true =>
      rw [if_neg (by decide)]
      obtain ⟨m2, b2, c1, ⟨c2, c3, c4⟩, c5, c6⟩ := ih (j + 1) m1 (H.fr (f5 0 (by decide)) (f4 1 (by decide) (by decide))) (by omega) a2
      refine ⟨m2, b2, c1, ⟨fun k k1 k2 => by rw [c2 k k1 k2, f4 k k1 k2], fun s hs => by rw [c3 s hs, f5 s hs], fun s hs => by rw [c4 s (by omega), f6 s (by omega)]⟩, ?_, fun z => ⟨(c6 z).1, fun i h1 h2 => ?_⟩⟩
      · rw [c5]
        constructor
        · intro z i h1 h2
          by_cases e : i = j + 1
          · subst e
            exact ⟨by rw [Nat.add_sub_cancel]; exact hc, hA.mp rfl⟩
          · exact z i (by omega) h2
        · intro z i h1 h2
          exact z i (by omega) h2
      · by_cases e : i = j + 1
        · subst e
          rw [c4 _ (by omega), a3]
        · exact (c6 z).2 i (by omega) h2
theorem nm_8 (H : TM n T m) {p at_ : Nat} {lo hi : Int32} (hs : m 0 2 = nI p) (hp : p < 1000) (ha : at_ < 12) : ∃ m' b, mX11_number_0_8_28 lo hi (nI at_) m = some (bI b, m') ∧ m' 0 2 = nI (p + t_nf T p) ∧ m' 8 at_ = nI (t_nv T p) ∧ ((∀ k, k ≠ 0 → k ≠ 8 → m' k = m k) ∧ (∀ j, j ≠ 2 → m' 0 j = m 0 j) ∧ ∀ j, j ≠ at_ → m' 8 j = m 8 j) ∧ (b = true ↔ 0 < t_nf T p ∧ lo.toInt ≤ (t_nv T p : Int) ∧ (t_nv T p : Int) ≤ hi.toInt) := by
  have h1 := H.2.2.2.2 p
  have h2 := H.2.2.2.2 (p + 1)
  have e96 : ∀ (y : Mm) (v k : Nat), v < 1000 → k < 3 → mX11_number_0_8_96 lo hi (nI at_) (nI v) (nI k) y = some (bI (decide (0 < k) && decide (lo.toInt ≤ (v : Int) ∧ (v : Int) ≤ hi.toInt)), wr y 8 at_ (nI v)) := by
    intro y v k hv hk
    unfold mX11_number_0_8_96
    rw [gIn_nI ha (by omega), cl_n (by omega), mlet_s, in_eq, Int32.toInt_toInt64, Int32.toInt_toInt64, Int32.toInt_toInt64, nI_toInt (by omega), bd1_s]
    simp only [bI_if]
    by_cases hk0 : k = 0
    · rw [hk0, if_pos (by decide), decide_eq_false (by omega)]; rfl
    · rw [if_neg (by rw [li_0, nz_le (by omega) (by omega)]; omega), decide_eq_true (show 0 < k by omega), Bool.true_and]
      cases decide (lo.toInt ≤ (v : Int) ∧ (v : Int) ≤ hi.toInt) <;> rfl
  have iff1 : ∀ (k : Nat) (v : Nat), (decide (0 < k) && decide (lo.toInt ≤ (v : Int) ∧ (v : Int) ≤ hi.toInt)) = true ↔ 0 < k ∧ lo.toInt ≤ (v : Int) ∧ (v : Int) ≤ hi.toInt := fun k v => by
    rw [Bool.and_eq_true, decide_eq_true_eq, decide_eq_true_eq]
  unfold mX11_number_0_8_28
  show ∃ m' b, mX11_number_0_8_34 (99997 + 1 + 1 + 1) lo hi (nI at_) (nI 0) (nI 0) m = _ ∧ _
  unfold t_nf t_nv
  by_cases f1 : t_fg (T p) = true
  · rw [if_pos f1, if_pos f1]
    have g1 := of_decide_eq_true f1
    have m1 : ∀ j, j ≠ 2 → wr m 0 2 (nI (p + 1)) 0 j = m 0 j := fun j hj => wr_slot _ _ _ hj
    have H1 : TM n T (wr m 0 2 (nI (p + 1))) := H.fr (m1 0 (by decide)) (wr_cell _ _ _ (by decide))
    rw [mX11_number_0_8_34, if_neg (by decide), hs, byte_m H (by omega), bd1_s, fg_m h1, bd1_s, f1, if_neg (by decide), bd1_s, mu_10, nI_add, su_48 (by omega), mlet_s, ad_1, mlet_s, ad_1, mX11_number_0_8_34, if_neg (by decide), wr_same, byte_m H1 (by omega), bd1_s, fg_m h2, bd1_s]
    by_cases f2 : t_fg (T (p + 1)) = true
    · rw [if_pos f2, if_pos f2, f2, if_neg (by decide)]
      have g2 := of_decide_eq_true f2
      rw [bd1_s, mu_10, nI_add, su_48 (by omega), mlet_s, ad_1, mlet_s, ad_1, mX11_number_0_8_34, if_pos (by decide), show 10 * (10 * 0 + T p - 48) + T (p + 1) - 48 = 10 * (T p - 48) + T (p + 1) - 48 from by omega, e96 _ _ _ (by omega) (by omega)]
      refine ⟨_, _, rfl, ?_, wr_same _ _ _ _, ⟨fun k k1 k2 => ?_, fun j hj => ?_, fun j hj => ?_⟩, iff1 _ _⟩
      · rw [wr_cell _ _ _ (by decide), wr_same]
      · rw [wr_cell _ _ _ k2, wr_cell _ _ _ k1, wr_cell _ _ _ k1]
      · rw [wr_cell _ _ _ (by decide), wr_slot _ _ _ hj, wr_slot _ _ _ hj]
      · rw [wr_slot _ _ _ hj, wr_cell _ _ _ (by decide), wr_cell _ _ _ (by decide)]
    · rw [if_neg f2, if_neg f2, show t_fg (T (p + 1)) = false from by simpa using f2, if_pos (show bI false = 0 from rfl), show 10 * 0 + T p - 48 = T p - 48 from by omega, e96 _ _ _ (by omega) (by omega)]
      refine ⟨_, _, rfl, ?_, wr_same _ _ _ _, ⟨fun k k1 k2 => ?_, fun j hj => ?_, fun j hj => ?_⟩, iff1 _ _⟩
      · rw [wr_cell _ _ _ (by decide), wr_same]
      · rw [wr_cell _ _ _ k2, wr_cell _ _ _ k1]
      · rw [wr_cell _ _ _ (by decide), wr_slot _ _ _ hj]
      · rw [wr_slot _ _ _ hj, wr_cell _ _ _ (by decide)]
  · rw [if_neg f1, if_neg f1, mX11_number_0_8_34, if_neg (by decide), hs, byte_m H (by omega), bd1_s, fg_m h1, bd1_s, show t_fg (T p) = false from by simpa using f1, if_pos (show bI false = 0 from rfl), e96 _ _ _ (by omega) (by omega)]
    refine ⟨_, _, rfl, ?_, wr_same _ _ _ _, ⟨fun k k1 k2 => ?_, fun j hj => ?_, fun j hj => ?_⟩, iff1 _ _⟩
    · rw [wr_cell _ _ _ (by decide), hs]; rfl
    · rw [wr_cell _ _ _ k2]
    · rw [wr_cell _ _ _ (by decide)]
    · rw [wr_slot _ _ _ hj]
/-- numbers behind commas, one after the other -/
def rx_8 (lo hi : Nat → Int32) (base : Nat) : Nat → Nat → Mm → Option (Int32 × Mm)
  | 0, _, h => some (1, h)
  | d + 1, j, h => bd2 (mX11_number_0_8 h 44 (lo j) (hi j) (nI (base + j))) (fun v h' => if v = 0 then some (0, h') else rx_8 lo hi base d (j + 1) h')
theorem rx_ok_8 {lo hi : Nat → Int32} {base p L : Nat} (hL : base + L ≤ 12) (hL5 : L ≤ 5) (hp : p ≤ 300) : ∀ (d j : Nat) (m : Mm), TM n T m → j + 1 + d = L → m 0 2 = nI (t_ej T p j) → ∃ m' b, rx_8 lo hi base d (j + 1) m = some (bI b, m') ∧ ((∀ k, k ≠ 0 → k ≠ 8 → m' k = m k) ∧ (∀ s, s ≠ 2 → m' 0 s = m 0 s) ∧ ∀ s, (s < base + (j + 1) ∨ base + L ≤ s) → m' 8 s = m 8 s) ∧ (b = true ↔ ∀ i, j < i → i < L → T (t_ej T p (i - 1)) = 44 ∧ t_A T p (fun k => (lo k).toInt) (fun k => (hi k).toInt) i) ∧ (b = true → m' 0 2 = nI (t_ej T p (L - 1)) ∧ ∀ i, j < i → i < L → m' 8 (base + i) = nI (t_nv T (t_pj T p i))) := by
  intro d
  induction d with
  | zero =>
    intro j m H hd hs
    refine ⟨m, true, rfl, ⟨fun _ _ _ => rfl, fun _ _ => rfl, fun _ _ => rfl⟩, ⟨fun _ i h1 h2 => by omega, fun _ => rfl⟩, fun _ => ⟨by rw [hs, show L - 1 = j from by omega], fun i h1 h2 => by omega⟩⟩
  | succ d ih =>
    intro j m H hd hs
    have hb := pj_b T p j
    have hnf := nf_2 T (t_pj T p j)
    have he : t_ej T p j = t_pj T p j + t_nf T (t_pj T p j) := rfl
    have hT := H.2.2.2.2 (t_ej T p j)
    rw [rx_8]
    unfold mX11_number_0_8
    rw [if_neg (by decide), hs, byte_m H (by omega), bd1_s, show (44 : Int32) = nI 44 from rfl]
    by_cases hc : T (t_ej T p j) = 44
    case neg =>
      rw [if_neg (by rw [nz_eq (by omega) (by omega)]; exact hc), bd2_s, if_pos rfl]
      refine ⟨m, false, rfl, ⟨fun _ _ _ => rfl, fun _ _ => rfl, fun _ _ => rfl⟩, ⟨fun z => (by cases z), fun z => ?_⟩, fun z => (by cases z)⟩
      exact absurd (by have := (z (j + 1) (by omega) (by omega)).1; rw [Nat.add_sub_cancel] at this; exact this) hc
    rw [if_pos (by rw [hc]), ad_1, mlet_s]
    have H1 : TM n T (wr m 0 2 (nI (t_ej T p j + 1))) := H.fr (wr_slot _ _ _ (by decide)) (wr_cell _ _ _ (by decide))
    obtain ⟨m1, b, a1, a2, a3, ⟨a4, a5, a6⟩, a7⟩ := nm_8 H1 (p := t_ej T p j + 1) (at_ := base + (j + 1)) (lo := lo (j + 1)) (hi := hi (j + 1)) (wr_same _ _ _ _) (by omega) (by omega)
    have hpj : t_ej T p j + 1 = t_pj T p (j + 1) := rfl
    rw [hpj] at a2 a3 a7
    rw [hpj] at a1 a4 a5 a6
    rw [hpj, a1, bd2_s]
    have f4 : ∀ k, k ≠ 0 → k ≠ 8 → m1 k = m k := fun k k1 k2 => by rw [a4 k k1 k2, wr_cell _ _ _ k1]
    have f5 : ∀ s, s ≠ 2 → m1 0 s = m 0 s := fun s hs => by rw [a5 s hs, wr_slot _ _ _ hs]
    have f6 : ∀ s, s ≠ base + (j + 1) → m1 8 s = m 8 s := fun s hs => by rw [a6 s hs, wr_cell _ _ _ (by decide)]
    have hA : b = true ↔ t_A T p (fun k => (lo k).toInt) (fun k => (hi k).toInt) (j + 1) := a7
    cases b with
    | false =>
      rw [if_pos (show bI false = 0 from rfl)]
      refine ⟨m1, false, rfl, ⟨f4, f5, fun s hs => f6 s (by omega)⟩, ⟨fun z => (by cases z), fun z => ?_⟩, fun z => (by cases z)⟩
      exact absurd (hA.mpr (z (j + 1) (by omega) (by omega)).2) (by decide)
    | true =>
      rw [if_neg (by decide)]
      obtain ⟨m2, b2, c1, ⟨c2, c3, c4⟩, c5, c6⟩ := ih (j + 1) m1 (H.fr (f5 0 (by decide)) (f4 1 (by decide) (by decide))) (by omega) a2
      refine ⟨m2, b2, c1, ⟨fun k k1 k2 => by rw [c2 k k1 k2, f4 k k1 k2], fun s hs => by rw [c3 s hs, f5 s hs], fun s hs => by rw [c4 s (by omega), f6 s (by omega)]⟩, ?_, fun z => ⟨(c6 z).1, fun i h1 h2 => ?_⟩⟩
      · rw [c5]
        constructor
        · intro z i h1 h2
          by_cases e : i = j + 1
          · subst e
            exact ⟨by rw [Nat.add_sub_cancel]; exact hc, hA.mp rfl⟩
          · exact z i (by omega) h2
        · intro z i h1 h2
          exact z i (by omega) h2
      · by_cases e : i = j + 1
        · subst e
          rw [c4 _ (by omega), a3]
        · exact (c6 z).2 i (by omega) h2
end EV
