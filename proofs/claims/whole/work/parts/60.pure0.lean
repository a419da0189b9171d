/-! PURE LAYER 0: small tools -/
def bI (b : Bool) : Int32 := if b then 1 else 0
theorem bI_t : bI true = 1 := rfl
theorem bI_f : bI false = 0 := rfl
theorem bI_01 (b : Bool) : bI b = 0 ∨ bI b = 1 := by cases b; exact Or.inl rfl; exact Or.inr rfl
theorem bI_0 {b : Bool} : bI b = 0 ↔ b = false := by cases b <;> decide
theorem bI_gB {α : Type} (b : Bool) (X : Option α) : gB (bI b) X = X := by cases b <;> rfl
theorem bI_if {α : Type} (b : Bool) (X Y : α) : (if bI b = 0 then X else Y) = (if b = true then Y else X) := by cases b <;> rfl
theorem wr_same (h : Mm) (k i : Nat) (x : Int32) : wr h k i x k i = x := by simp [wr, va_up, upd]
theorem wr_cell (h : Mm) {k k' : Nat} (i : Nat) (x : Int32) (hk : k' ≠ k) : wr h k i x k' = h k' := va_up_ne _ _ hk
theorem wr_slot (h : Mm) (k : Nat) {i j : Nat} (x : Int32) (hj : j ≠ i) : wr h k i x k j = h k j := by simp [wr, va_up, upd, hj]
theorem wr_row (h : Mm) (k i : Nat) (x : Int32) : wr h k i x k = upd (h k) i x := by simp [wr, va_up]
theorem wr_if (h : Mm) (k i k' j : Nat) (x : Int32) : wr h k i x k' j = if k' = k ∧ j = i then x else h k' j := by
  by_cases h1 : k' = k
  · subst h1
    by_cases h2 : j = i
    · subst h2; rw [wr_same, if_pos ⟨rfl, rfl⟩]
    · rw [wr_slot _ _ _ h2, if_neg (fun z => h2 z.2)]
  · rw [wr_cell _ _ _ h1, if_neg (fun z => h1 z.1)]
theorem gIn_nI {α : Type} {k n : Nat} {X : Option α} (h : k < n) (hn : n < 2147483648) : gIn (nI k) n X = X := gIn_ok (vp_in_nI h hn)
theorem bd1_s {α β : Type} (v : α) (k : α → Option β) : bd1 (some v) k = k v := rfl
theorem bdh_s {β : Type} (v : Mm) (k : Mm → Option β) : bdh (some v) k = k v := rfl
theorem bd2_s {β : Type} (v : Int32) (h : Mm) (k : Int32 → Mm → Option β) : bd2 (some (v, h)) k = k v h := rfl
theorem mlet_s {α β : Type} (v : α) (k : α → β) : mlet v k = k v := rfl
theorem bd1_ite {α β : Type} (p : Prop) [Decidable p] (X Y : Option α) (k : α → Option β) : bd1 (if p then X else Y) k = if p then bd1 X k else bd1 Y k := by split <;> rfl
theorem bI_ifn {α : Type} (b : Bool) (X Y : α) : (if bI b = nI 0 then X else Y) = (if b = true then Y else X) := by cases b <;> rfl
theorem cl_n {n : Nat} (h : n < 2147483648) : (nI n).toNatClampNeg = n := nI_clamp h
theorem cl_0 : (0 : Int32).toNatClampNeg = 0 := rfl
theorem cl_1 : (1 : Int32).toNatClampNeg = 1 := rfl
theorem cl_2 : (2 : Int32).toNatClampNeg = 2 := rfl
theorem cl_3 : (3 : Int32).toNatClampNeg = 3 := rfl
theorem nz_lt {a b : Nat} (ha : a < 2147483648) (hb : b < 2147483648) : (nI a < nI b) = (a < b) := propext (nI_ltI ha hb)
theorem nz_le {a b : Nat} (ha : a < 2147483648) (hb : b < 2147483648) : (nI a ≤ nI b) = (a ≤ b) := propext (nI_leI ha hb)
theorem nz_eq {a b : Nat} (ha : a < 2147483648) (hb : b < 2147483648) : (nI a = nI b) = (a = b) := propext (nI_eq ha hb)
theorem nz_neg {a : Nat} (ha : a < 2147483648) : (nI a < 0) = False := eq_false (nI_pos ha)
theorem nz_0le {a : Nat} (ha : a < 2147483648) : ((0 : Int32) ≤ nI a) = True := eq_true (nI_pos' ha)
theorem nz_m4 {a : Nat} (ha : a < 2147483648) : (nI a = -4) = False := eq_false (fun h => by
  have := congrArg Int32.toInt h
  rw [nI_toInt ha] at this
  have e : (-4 : Int32).toInt = -4 := by decide
  omega)
theorem nz_m1 {a : Nat} (ha : a < 2147483648) : (nI a = -1) = False := eq_false (fun h => by
  have := congrArg Int32.toInt h
  rw [nI_toInt ha] at this
  have e : (-1 : Int32).toInt = -1 := by decide
  omega)
/-- literals -/
theorem li_0 : (0 : Int32) = nI 0 := rfl
theorem li_1 : (1 : Int32) = nI 1 := rfl
theorem li_2 : (2 : Int32) = nI 2 := rfl
theorem li_3 : (3 : Int32) = nI 3 := rfl
theorem li_4 : (4 : Int32) = nI 4 := rfl
theorem li_5 : (5 : Int32) = nI 5 := rfl
theorem li_6 : (6 : Int32) = nI 6 := rfl
theorem li_24 : (24 : Int32) = nI 24 := rfl
theorem li_25 : (25 : Int32) = nI 25 := rfl
theorem li_32 : (32 : Int32) = nI 32 := rfl
theorem li_59 : (59 : Int32) = nI 59 := rfl
theorem li_60 : (60 : Int32) = nI 60 := rfl
theorem li_160 : (160 : Int32) = nI 160 := rfl
theorem li_200 : (200 : Int32) = nI 200 := rfl
theorem li_240 : (240 : Int32) = nI 240 := rfl
theorem mu_2 (a : Nat) : (2 : Int32) * nI a = nI (2 * a) := pk_mul 2 a
theorem mu_3 (a : Nat) : (3 : Int32) * nI a = nI (3 * a) := pk_mul 3 a
theorem mu_5 (a : Nat) : (5 : Int32) * nI a = nI (5 * a) := pk_mul 5 a
theorem mu_32 (a : Nat) : (32 : Int32) * nI a = nI (32 * a) := pk_mul 32 a
theorem mu_60 (a : Nat) : (60 : Int32) * nI a = nI (60 * a) := pk_mul 60 a
theorem ad_1 (a : Nat) : nI a + 1 = nI (a + 1) := nI_add a 1
theorem ad_2 (a : Nat) : nI a + 2 = nI (a + 2) := nI_add a 2
theorem ad_3 (a : Nat) : nI a + 3 = nI (a + 3) := nI_add a 3
theorem ad_4 (a : Nat) : nI a + 4 = nI (a + 4) := nI_add a 4
theorem ad_24 (a : Nat) : 24 + nI a = nI (24 + a) := nI_add 24 a
theorem ad_32 (a : Nat) : 32 + nI a = nI (32 + a) := nI_add 32 a
theorem ad_i1 (a : Nat) : 1 + nI a = nI (1 + a) := nI_add 1 a
theorem i32_lt (a b : Int32) : a < b ↔ a.toInt < b.toInt := Int32.lt_iff_toInt_lt
theorem i32_le (a b : Int32) : a ≤ b ↔ a.toInt ≤ b.toInt := Int32.le_iff_toInt_le
/-- a difference of two small numbers -/
theorem su_lt {a b c : Nat} (ha : a < 1073741824) (hb : b < 1073741824) (hc : c < 1073741824) : (nI c < nI a - nI b) = (b + c < a) := propext (by
  rw [i32_lt, pk_sub_toInt ha hb, nI_toInt (by omega)]; omega)
theorem su_le {a b c : Nat} (ha : a < 1073741824) (hb : b < 1073741824) (hc : c < 1073741824) : (nI a - nI b ≤ nI c) = (a ≤ b + c) := propext (by
  rw [i32_le, pk_sub_toInt ha hb, nI_toInt (by omega)]; omega)
theorem lgc_lt (x y : Int64) : lg_cmp x y < 0 ↔ x.toInt < y.toInt := by
  unfold lg_cmp
  simp only [gt_iff_lt, Int64.lt_iff_toInt_lt, ← Int64.toInt_inj]
  by_cases h1 : y.toInt < x.toInt
  · rw [if_pos h1]
    constructor
    · intro h; exact absurd h (by decide)
    · intro h; omega
  · rw [if_neg h1]
    by_cases h2 : x.toInt = y.toInt
    · rw [if_pos h2]
      constructor
      · intro h; exact absurd h (by decide)
      · intro h; omega
    · rw [if_neg h2]
      constructor
      · intro _; omega
      · intro _; decide
theorem lgc_gt (x y : Int64) : 0 < lg_cmp x y ↔ y.toInt < x.toInt := by
  unfold lg_cmp
  simp only [gt_iff_lt, Int64.lt_iff_toInt_lt, ← Int64.toInt_inj]
  by_cases h1 : y.toInt < x.toInt
  · rw [if_pos h1]
    constructor
    · intro _; exact h1
    · intro _; decide
  · rw [if_neg h1]
    by_cases h2 : x.toInt = y.toInt
    · rw [if_pos h2]
      constructor
      · intro h; exact absurd h (by decide)
      · intro h; omega
    · rw [if_neg h2]
      constructor
      · intro h; exact absurd h (by decide)
      · intro h; omega
/-- the reference's 'in' -/
theorem in_eq (h : Mm) (x lo hi : Int64) : mX11_in h x lo hi = some (bI (decide (lo.toInt ≤ x.toInt ∧ x.toInt ≤ hi.toInt))) := by
  unfold mX11_in
  by_cases h1 : x.toInt < lo.toInt
  · rw [if_pos ((lgc_lt x lo).mpr h1), decide_eq_false (by omega)]; rfl
  · rw [if_neg (fun z => h1 ((lgc_lt x lo).mp z))]
    by_cases h2 : hi.toInt < x.toInt
    · rw [if_pos ((lgc_gt x hi).mpr h2), decide_eq_false (by omega)]; rfl
    · rw [if_neg (fun z => h2 ((lgc_gt x hi).mp z)), decide_eq_true (by omega)]; rfl
theorem in_i (h : Mm) (x : Int32) (lo hi : Int64) {a b : Int} (ha : lo.toInt = a) (hb : hi.toInt = b) : mX11_in h x.toInt64 lo hi = some (bI (decide (a ≤ x.toInt ∧ x.toInt ≤ b))) := by
  rw [in_eq, ha, hb, Int32.toInt_toInt64]
/-- in(x, 0, n - 1) -/
theorem in_n (h : Mm) (x : Int32) {n : Nat} (hn : n < 1073741824) : mX11_in h x.toInt64 0 (nI n - 1).toInt64 = some (bI (decide (0 ≤ x.toInt ∧ x.toInt < (n : Int)))) := by
  rw [in_eq, Int32.toInt_toInt64, Int32.toInt_toInt64, show (0 : Int64).toInt = 0 from by decide, show nI n - 1 = nI n - nI 1 from rfl, pk_sub_toInt hn (by omega)]
  congr 2
  exact decide_eq_decide.mpr (by omega)
theorem ch_id {x : Int32} (h0 : 0 ≤ x.toInt) (h1 : x.toInt < 65536) : (x.toUInt32 % 65536).toInt32 = x := by
  obtain ⟨j, hj, rfl⟩ := nI_of (x := x) (by rw [i32_lt, Int32.toInt_zero]; omega)
  rw [nI_toInt hj] at h1
  rw [pk_char, pk_tn (by omega), Nat.mod_eq_of_lt (by omega)]
theorem nar_id {x : Int32} (h0 : 0 ≤ x.toInt) (h1 : x.toInt < 65536) : vp_nar .char x = x := by
  have := ch_id h0 h1
  rw [← this]
  exact pk_vc x
/-- an int: below 0, or a number below n, or not below n -/
theorem ix_3 (x : Int32) {n : Nat} (hn : n < 2147483648) : (x.toInt < 0 ∨ (n : Int) ≤ x.toInt) ∨ ∃ j : Nat, j < n ∧ x = nI j := by
  rcases pk_ix x hn with h | h | h
  · rw [i32_lt] at h
    exact Or.inl (Or.inl h)
  · rw [i32_le, nI_toInt hn] at h
    exact Or.inl (Or.inr h)
  · exact Or.inr h
/-- a loop that counts up to N: what it gives, by what each turn keeps -/
theorem lo_up {α β : Type} (L : Nat → Nat → α → β) (G : β → Prop) (P : Nat → α → Prop) (N : Nat)
    (hs : ∀ n x, P N x → G (L (n + 1) N x))
    (hn : ∀ n i x, i < N → P i x → ∃ x', L (n + 1) i x = L n (i + 1) x' ∧ P (i + 1) x') : ∀ n i x, i ≤ N → N - i < n → P i x → G (L n i x) := by
  intro n
  induction n with
  | zero => intro i x _ h; omega
  | succ n ih =>
    intro i x hi hf hP
    by_cases h : i = N
    · subst h; exact hs n x hP
    · obtain ⟨x', e, hP'⟩ := hn n i x (by omega) hP
      rw [e]
      exact ih (i + 1) x' (by omega) (by omega) hP'
/-- the same, where a turn's outcome is a function -/
def fo {α : Type} (f : Nat → α → α) : Nat → Nat → α → α
  | 0, _, x => x
  | k + 1, i, x => fo f k (i + 1) (f i x)
theorem lo_fo {α β : Type} (L : Nat → Nat → α → β) (K : α → β) (f : Nat → α → α) (N : Nat)
    (hs : ∀ n x, L (n + 1) N x = K x)
    (hn : ∀ n i x, i < N → L (n + 1) i x = L n (i + 1) (f i x)) : ∀ n i x, i ≤ N → N - i < n → L n i x = K (fo f (N - i) i x) := by
  intro n
  induction n with
  | zero => intro i x _ h; omega
  | succ n ih =>
    intro i x hi hf
    by_cases h : i = N
    · subst h; rw [hs, Nat.sub_self]; rfl
    · rw [hn n i x (by omega), ih (i + 1) _ (by omega) (by omega), show N - i = (N - (i + 1)) + 1 from by omega]
      rfl
theorem fo_cong {α : Type} {f g : Nat → α → α} : ∀ (k i : Nat) (x : α), (∀ j y, i ≤ j → j < i + k → f j y = g j y) → fo f k i x = fo g k i x
  | 0, _, _, _ => rfl
  | k + 1, i, x, h => by
    rw [fo, fo, h i x (Nat.le_refl i) (by omega)]
    exact fo_cong k (i + 1) _ (fun j y h1 h2 => h j y (by omega) (by omega))
/-! the letters -/
def RTxt (hc hm : Mm) : Prop := ∃ n : Nat, n ≤ 200 ∧ hc 1 1 = nI n ∧ hm 0 0 = nI n ∧ ∀ i : Nat, i < n → hc 2 i = hm 1 i ∧ 32 ≤ (hm 1 i).toInt ∧ (hm 1 i).toInt ≤ 126
theorem tx_write {hc hm : Mm} (a : Int32) (R : RTxt hc hm) : ∃ (v : Int32) (hc' hm' : Mm), mX10_write hc a = some (v, hc') ∧ mX11_write hm a = some (v, hm') ∧ RTxt hc' hm' ∧ (∀ k, k ≠ 1 → k ≠ 2 → hc' k = hc k) ∧ (∀ k, k ≠ 0 → k ≠ 1 → hm' k = hm k) ∧ ∀ j, j ≠ 0 → hm' 0 j = hm 0 j := by
  obtain ⟨n, hn, h1, h2, hT⟩ := id R
  have e32 : (32 : Int32).toInt = 32 := by decide
  have e126 : (126 : Int32).toInt = 126 := by decide
  unfold mX10_write mX11_write
  rw [in_i hm a 32 126 (a := 32) (b := 126) (by decide) (by decide)]
  simp only [i32_lt a 32, i32_le a 126, e32, e126]
  by_cases c1 : a.toInt < 32
  · rw [if_pos c1, decide_eq_false (by omega)]
    exact ⟨-1, hc, hm, rfl, rfl, R, fun _ _ _ => rfl, fun _ _ _ => rfl, fun _ _ => rfl⟩
  rw [if_neg c1]
  by_cases c2 : a.toInt ≤ 126
  case neg =>
    rw [if_neg c2, decide_eq_false (by omega)]
    exact ⟨-1, hc, hm, rfl, rfl, R, fun _ _ _ => rfl, fun _ _ _ => rfl, fun _ _ => rfl⟩
  rw [if_pos c2, decide_eq_true (by omega), h1, h2]
  by_cases c3 : n = 200
  · subst c3
    rw [if_neg (by decide)]
    exact ⟨-3, hc, hm, rfl, rfl, R, fun _ _ _ => rfl, fun _ _ _ => rfl, fun _ _ => rfl⟩
  have hlt : n < 200 := by omega
  rw [if_pos (show nI n < (200 : Int32) by rw [li_200, nz_lt (by omega) (by omega)]; exact hlt), ch_id (by omega) (by omega)]
  unfold mX3_append
  rw [h1, if_neg (nI_ge hlt (by omega)), gIn_nI hlt (by omega), nI_clamp (by omega), nar_id (by omega) (by omega)]
  simp only [bd1_s, bdh_s, mlet_s, bI_if, if_true]
  rw [if_neg (show ¬ nI n = (200 : Int32) from fun z => c3 ((nI_eq (by omega) (by omega)).mp z)), gIn_nI hlt (by omega)]
  have w1 : wr hc 2 n a 1 1 + 1 = nI (n + 1) := by rw [wr_cell _ _ _ (by decide), h1, ad_1]
  have w2 : wr hm 1 n a 0 0 + 1 = nI (n + 1) := by rw [wr_cell _ _ _ (by decide), h2, ad_1]
  rw [w1, w2]
  refine ⟨nI (n + 1), wr (wr hc 2 n a) 1 1 (nI (n + 1)), wr (wr hm 1 n a) 0 0 (nI (n + 1)), ?_, ?_, ⟨n + 1, hlt, ?_, ?_, fun i hi => ?_⟩, fun k k1 k2 => ?_, fun k k1 k2 => ?_, fun j hj => ?_⟩
  · rw [wr_same]
  · rw [wr_same]
  · rw [wr_same]
  · rw [wr_same]
  · by_cases e : i = n
    · subst e
      simp (disch := omega) only [wr_cell, wr_same]
      exact ⟨trivial, by omega, c2⟩
    · simp (disch := omega) only [wr_cell, wr_slot]
      exact hT i (by omega)
  · rw [wr_cell _ _ _ k1, wr_cell _ _ _ k2]
  · rw [wr_cell _ _ _ k1, wr_cell _ _ _ k2]
  · rw [wr_slot _ _ _ hj, wr_cell _ _ _ (by decide)]
theorem tx_wipe {hc hm : Mm} (R : RTxt hc hm) : ∃ (v : Int32) (hc' hm' : Mm), mX10_wipe hc = some (v, hc') ∧ mX11_wipe hm = some (v, hm') ∧ RTxt hc' hm' ∧ (∀ k, k ≠ 1 → k ≠ 2 → hc' k = hc k) ∧ (∀ k, k ≠ 0 → k ≠ 1 → hm' k = hm k) ∧ ∀ j, j ≠ 0 → hm' 0 j = hm 0 j := by
  obtain ⟨n, hn, h1, h2, hT⟩ := id R
  refine ⟨nI n, wr hc 1 1 0, wr hm 0 0 0, by simp [mX10_wipe, mX3_clear, mlet, bdh, bd1, h1], by simp [mX11_wipe, mlet, h2], ⟨0, by omega, by rw [wr_same]; rfl, by rw [wr_same]; rfl, fun i hi => by omega⟩, fun k k1 _ => wr_cell _ _ _ k1, fun k k1 _ => wr_cell _ _ _ k1, fun j hj => wr_slot _ _ _ hj⟩
