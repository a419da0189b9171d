/-! PURE LAYER 2: masks -/
theorem s_l : ∀ n, n < 32 → ((nI n &&& 31).toBitVec.smod 32).toNat = n := by decide
theorem sh_1 {i : Nat} (hi : i < 31) : (1 : Int32) <<< (nI i &&& 31) = nI (2 ^ i) := by
  have h := pk_shlN (n := 1) (nI i &&& 31) i (s_l i (by omega)) (by
    rw [Nat.one_mul]; exact Nat.pow_lt_pow_right (by omega) (by omega))
  rw [Nat.one_mul] at h
  exact h
theorem sh_n {i n : Nat} (hi : i < 32) (h : n * 2 ^ i < 2 ^ 32) : nI n <<< (nI i &&& 31) = nI (n * 2 ^ i) := pk_shlN (nI i &&& 31) i (s_l i hi) h
theorem sr_n {i n : Nat} (hi : i < 32) (h : n < 2147483648) : nI n >>> (nI i &&& 31) = nI (n / 2 ^ i) := pk_shrN h (nI i &&& 31) i (s_l i hi)
theorem or_bit {n i : Nat} (hi : i < 31) (h : n < 2 ^ i) : nI n ||| ((1 : Int32) <<< (nI i &&& 31)) = nI (n + 2 ^ i) := by
  rw [sh_1 hi, fa_or, Nat.or_comm]
  have := Nat.two_pow_add_eq_or_of_lt h 1
  rw [Nat.mul_one] at this
  rw [← this, Nat.add_comm]
theorem an_1 {n : Nat} (h : n < 2147483648) : nI n &&& 1 = nI (n % 2) := pk_andN (k := 1) (by omega) (by decide)
theorem bit_t {n i : Nat} (hi : i < 31) (h : n < 2147483648) : (((nI n) >>> (nI i &&& 31)) &&& 1 = 0) = (n.testBit i = false) := by
  have h2 : n / 2 ^ i < 2147483648 := Nat.lt_of_le_of_lt (Nat.div_le_self _ _) h
  rw [sr_n (by omega) h, an_1 h2, li_0, nz_eq (by omega) (by omega), Nat.testBit_eq_decide_div_mod_eq, decide_eq_false_iff_not]
  exact propext (by omega)
/-- a mask out of a row of bits -/
def q_mk (f : Nat → Bool) : Nat → Nat
  | 0 => 0
  | n + 1 => q_mk f n + (if f n then 2 ^ n else 0)
theorem mk_lt (f : Nat → Bool) : ∀ n, q_mk f n < 2 ^ n
  | 0 => Nat.one_pos
  | n + 1 => by
    have := mk_lt f n
    rw [q_mk, Nat.pow_succ]
    split <;> omega
theorem mk_bit (f : Nat → Bool) : ∀ n j, (q_mk f n).testBit j = (decide (j < n) && f j)
  | 0, j => by simp [q_mk]
  | n + 1, j => by
    have ih := mk_bit f n j
    have hl := mk_lt f n
    rw [q_mk]
    cases hf : f n with
    | false =>
      simp only [Bool.false_eq_true, if_false, Nat.add_zero]
      rw [ih]
      by_cases hj : j = n
      · subst hj; simp [hf]
      · rw [show decide (j < n + 1) = decide (j < n) from decide_eq_decide.mpr (by omega)]
    | true =>
      simp only [if_true]
      have h2 := Nat.two_pow_add_eq_or_of_lt hl 1
      rw [Nat.mul_one] at h2
      rw [Nat.add_comm, h2, Nat.or_comm, fb_bit_set, ih]
      by_cases hj : j = n
      · subst hj; simp [hf]
      · rw [show decide (j < n + 1) = decide (j < n) from decide_eq_decide.mpr (by omega), decide_eq_false hj, Bool.or_false]
theorem mk_cong {f g : Nat → Bool} : ∀ {n : Nat}, (∀ k, k < n → f k = g k) → q_mk f n = q_mk g n
  | 0, _ => rfl
  | n + 1, h => by rw [q_mk, q_mk, mk_cong (fun k hk => h k (by omega)), h n (by omega)]
theorem mk_of {n M : Nat} (h : M < 2 ^ n) : q_mk M.testBit n = M := by
  apply Nat.eq_of_testBit_eq
  intro j
  rw [mk_bit]
  by_cases hj : j < n
  · rw [decide_eq_true hj, Bool.true_and]
  · rw [decide_eq_false hj, Bool.false_and]
    exact (Nat.testBit_lt_two_pow (Nat.lt_of_lt_of_le h (Nat.pow_le_pow_right (by omega) (by omega)))).symm
/-! the JDK's count of bits -/
theorem pc_and {a b c d : Nat} (hb : b < 256) (hd : d < 256) : (256 * a + b) &&& (256 * c + d) = 256 * (a &&& c) + (b &&& d) := by
  have h1 : ((256 * a + b) &&& (256 * c + d)) / 2 ^ 8 = a &&& c := by
    rw [Nat.and_div_two_pow]
    congr 1 <;> omega
  have h2 : ((256 * a + b) &&& (256 * c + d)) % 2 ^ 8 = b &&& d := by
    rw [Nat.and_mod_two_pow]
    congr 1 <;> omega
  omega
theorem pc_k1 : ∀ e, e < 2 → ∀ z, z < 256 → (128 * e + z / 2) &&& 85 = z / 2 &&& 85 := by decide +kernel
theorem pc_k2 : ∀ e, e < 4 → ∀ z, z < 256 → (64 * e + z / 4) &&& 51 = z / 4 &&& 51 := by decide +kernel
theorem pc_k3 : ∀ e, e < 5 → ∀ z, z < 69 → (z + z / 16 + 16 * e) &&& 15 = (z + z / 16) &&& 15 := by decide +kernel
theorem pc_1 (K y : Nat) {z : Nat} (hz : z < 256) : (256 * y + z) - (((256 * y + z) / 2) &&& (256 * K + 85)) = 256 * (y - ((y / 2) &&& K)) + (z - ((z / 2) &&& 85)) := by
  rw [show (256 * y + z) / 2 = 256 * (y / 2) + (128 * (y % 2) + z / 2) from by omega, pc_and (by omega) (by decide), pc_k1 _ (by omega) _ hz]
  have h1 : y / 2 &&& K ≤ y / 2 := Nat.and_le_left
  have h2 : z / 2 &&& 85 ≤ z / 2 := Nat.and_le_left
  omega
theorem pc_2 (K y : Nat) {z : Nat} (hz : z < 256) : ((256 * y + z) &&& (256 * K + 51)) + (((256 * y + z) / 4) &&& (256 * K + 51)) = 256 * ((y &&& K) + ((y / 4) &&& K)) + ((z &&& 51) + ((z / 4) &&& 51)) := by
  rw [pc_and hz (by decide), show (256 * y + z) / 4 = 256 * (y / 4) + (64 * (y % 4) + z / 4) from by omega, pc_and (by omega) (by decide), pc_k2 _ (by omega) _ hz]
  omega
theorem pc_3 (K y : Nat) {z : Nat} (hz : z < 69) (hy : y % 16 < 5) : (((256 * y + z) + (256 * y + z) / 16) &&& (256 * K + 15)) = 256 * ((y + y / 16) &&& K) + ((z + z / 16) &&& 15) := by
  rw [show (256 * y + z) + (256 * y + z) / 16 = 256 * (y + y / 16) + (z + z / 16 + 16 * (y % 16)) from by omega, pc_and (by omega) (by decide), pc_k3 _ hy _ hz]
/-- a byte's counts -/
def pc_a (z : Nat) : Nat := z - ((z / 2) &&& 85)
def pc_b (z : Nat) : Nat := (z &&& 51) + ((z / 4) &&& 51)
def pc_c (z : Nat) : Nat := (z + z / 16) &&& 15
theorem pc_t1 : ∀ z, z < 256 → pc_a z < 256 ∧ pc_b (pc_a z) < 69 ∧ pc_b (pc_a z) % 16 < 5 ∧ pc_c (pc_b (pc_a z)) = fb_ct z.testBit 8 := by decide +kernel
theorem pc_t2 : ∀ z, z < 256 → z - ((z / 2) &&& 5592405) = pc_a z ∧ z - ((z / 2) &&& 21845) = pc_a z ∧ (z &&& 13107) + ((z / 4) &&& 13107) = pc_b z := by decide +kernel
theorem pc_t3 : ∀ z, z < 69 → (z + z / 16) &&& 3855 = pc_c z := by decide +kernel
theorem ct_byte (y : Nat) {z : Nat} (hz : z < 256) (n : Nat) : fb_ct (256 * y + z).testBit (8 + n) = fb_ct z.testBit 8 + fb_ct y.testBit n := by
  rw [fb_ct_split]
  congr 1
  · refine fb_ct_cong (fun k hk => ?_)
    rw [show 256 * y + z = 2 ^ 8 * y + z from rfl, Nat.testBit_two_pow_mul_add _ (by omega), if_pos hk]
  · refine fb_ct_cong (fun k hk => ?_)
    rw [show 256 * y + z = 2 ^ 8 * y + z from rfl, Nat.testBit_two_pow_mul_add _ (by omega), if_neg (by omega), Nat.add_sub_cancel_left]
theorem bc_eq (h : Mm) {M : Nat} (hM : M < 16777216) : mJ6_bitCount_0f7a4 h (nI M) = some (nI (fb_ct M.testBit 24)) := by
  have e1 : M / 2 &&& 1431655765 ≤ M / 2 := Nat.and_le_left
  unfold mJ6_bitCount_0f7a4
  simp only [mlet_s]
  rw [pk_ushrN (n := M) (by omega) 1 1 (by decide), show (1431655765 : Int32) = nI 1431655765 from rfl, fa_and, Nat.pow_one, pk_sub (by omega)]
  have hu1 : M - (M / 2 &&& 1431655765) < 16777216 := by omega
  obtain ⟨y, a, ha, rfl⟩ : ∃ y a, a < 256 ∧ M = 256 * y + a := ⟨M / 256, M % 256, by omega, by omega⟩
  obtain ⟨w, b, hb, rfl⟩ : ∃ w b, b < 256 ∧ y = 256 * w + b := ⟨y / 256, y % 256, by omega, by omega⟩
  have hw : w < 256 := by omega
  have u1 : 256 * (256 * w + b) + a - ((256 * (256 * w + b) + a) / 2 &&& 1431655765) = 256 * (256 * pc_a w + pc_a b) + pc_a a := by
    rw [show 1431655765 = 256 * 5592405 + 85 from rfl, pc_1 _ _ ha, show 5592405 = 256 * 21845 + 85 from rfl, pc_1 _ _ hb, (pc_t2 w hw).2.1]
    rfl
  rw [u1] at hu1 ⊢
  obtain ⟨a1, a2, a3, a4⟩ := pc_t1 a ha
  obtain ⟨b1, b2, b3, b4⟩ := pc_t1 b hb
  obtain ⟨w1, w2, w3, w4⟩ := pc_t1 w hw
  rw [pk_ushrN (n := 256 * (256 * pc_a w + pc_a b) + pc_a a) (by omega) 2 2 (by decide), show (858993459 : Int32) = nI 858993459 from rfl, fa_and, fa_and, nI_add]
  have u2 : (256 * (256 * pc_a w + pc_a b) + pc_a a &&& 858993459) + ((256 * (256 * pc_a w + pc_a b) + pc_a a) / 2 ^ 2 &&& 858993459) = 256 * (256 * pc_b (pc_a w) + pc_b (pc_a b)) + pc_b (pc_a a) := by
    rw [show 858993459 = 256 * 3355443 + 51 from rfl, show 2 ^ 2 = 4 from rfl, pc_2 _ _ a1, show 3355443 = 256 * 13107 + 51 from rfl, pc_2 _ _ b1, (pc_t2 _ w1).2.2]
    rfl
  rw [u2]
  rw [pk_ushrN (n := 256 * (256 * pc_b (pc_a w) + pc_b (pc_a b)) + pc_b (pc_a a)) (by omega) 4 4 (by decide), show (252645135 : Int32) = nI 252645135 from rfl, nI_add, fa_and]
  have u3 : 256 * (256 * pc_b (pc_a w) + pc_b (pc_a b)) + pc_b (pc_a a) + (256 * (256 * pc_b (pc_a w) + pc_b (pc_a b)) + pc_b (pc_a a)) / 2 ^ 4 &&& 252645135 = 256 * (256 * pc_c (pc_b (pc_a w)) + pc_c (pc_b (pc_a b))) + pc_c (pc_b (pc_a a)) := by
    rw [show 252645135 = 256 * 986895 + 15 from rfl, show 2 ^ 4 = 16 from rfl, pc_3 _ _ a2 (by omega), show 986895 = 256 * 3855 + 15 from rfl, pc_3 _ _ b2 (by omega), pc_t3 _ w2]
    rfl
  rw [u3, a4, b4, w4]
  have q1 := fb_ct_le a.testBit 8
  have q2 := fb_ct_le b.testBit 8
  have q3 := fb_ct_le w.testBit 8
  rw [show (24 : Nat) = 8 + (8 + 8) from rfl, ct_byte _ ha, ct_byte _ hb]
  generalize fb_ct a.testBit 8 = x at *
  generalize fb_ct b.testBit 8 = y at *
  generalize fb_ct w.testBit 8 = z at *
  have d1 : (256 * (256 * z + y) + x) / 2 ^ 8 = 256 * z + y := by omega
  have d2 : (256 * (256 * z + y) + x + (256 * z + y)) / 2 ^ 16 = z := by omega
  rw [pk_ushrN (n := 256 * (256 * z + y) + x) (by omega) 8 8 (by decide), nI_add, d1, pk_ushrN (n := 256 * (256 * z + y) + x + (256 * z + y)) (by omega) 16 16 (by decide), nI_add, d2, pk_andN (k := 6) (by omega) (by decide)]
  congr 2
  omega
/-- of a mask -/
theorem bc_mk (h : Mm) (f : Nat → Bool) {n : Nat} (hn : n ≤ 24) : mJ6_bitCount_0f7a4 h (nI (q_mk f n)) = some (nI (fb_ct f n)) := by
  have hl : q_mk f n < 16777216 := Nat.lt_of_lt_of_le (mk_lt f n) (Nat.pow_le_pow_right (by omega) hn)
  rw [bc_eq h hl]
  have e : fb_ct (q_mk f n).testBit 24 = fb_ct (q_mk f n).testBit n + fb_ct (fun k => (q_mk f n).testBit (n + k)) (24 - n) := by
    rw [← fb_ct_split, Nat.add_sub_cancel' hn]
  have z0 : fb_ct (fun k => (q_mk f n).testBit (n + k)) (24 - n) = 0 := fb_ct_zero.mpr (fun k hk => by rw [mk_bit, decide_eq_false (by omega)]; rfl)
  rw [e, z0, Nat.add_zero]
  exact congrArg (fun z => some (nI z)) (fb_ct_cong (fun k hk => by rw [mk_bit, decide_eq_true hk, Bool.true_and]))
