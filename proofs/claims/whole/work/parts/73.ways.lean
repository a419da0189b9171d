/-! PURE LAYER 13: ways of a window -/
def w_v (d : Nat) : Int32 := if d = 0 then -4 else nI (d - 1)
def w_c (d : Nat) : Int32 := if d = 0 then -1 else nI (d - 1)
def w_cd (b : Nat) (W : Nat → Nat) : Nat → Nat
  | 0 => 0
  | k + 1 => w_cd b W k * b + W k
def WV (b n : Nat) (W : Nat → Nat) : Prop := ∀ k, k < n → W k < b
theorem cd_lt {b n : Nat} {W : Nat → Nat} (h : WV b n W) : w_cd b W n < b ^ n := by
  induction n with
  | zero => exact Nat.one_pos
  | succ n ih =>
    have h1 := ih (fun k hk => h k (by omega))
    have h2 := h n (by omega)
    rw [w_cd, Nat.pow_succ]
    calc w_cd b W n * b + W n < w_cd b W n * b + b := by omega
      _ = (w_cd b W n + 1) * b := by rw [Nat.add_mul, Nat.one_mul]
      _ ≤ b ^ n * b := Nat.mul_le_mul_right b h1
theorem cd_div {b : Nat} {W : Nat → Nat} (j : Nat) : ∀ d, WV b (j + d) W → w_cd b W (j + d) / b ^ d = w_cd b W j
  | 0, _ => by rw [Nat.pow_zero, Nat.div_one]; rfl
  | d + 1, h => by
    have h2 := h (j + d) (by omega)
    rw [← Nat.add_assoc, w_cd, Nat.pow_succ, Nat.mul_comm (b ^ d) b, ← Nat.div_div_eq_div_mul]
    rw [show (w_cd b W (j + d) * b + W (j + d)) / b = w_cd b W (j + d) from by
      rw [Nat.mul_comm, Nat.mul_add_div (by omega), Nat.div_eq_of_lt h2, Nat.add_zero]]
    exact cd_div j d (fun k hk => h k (by omega))
theorem cd_rng {b n j q : Nat} {W : Nat → Nat} (h : WV b n W) (hj : j ≤ n) (h1 : q * b ^ (n - j) ≤ w_cd b W n) (h2 : w_cd b W n < (q + 1) * b ^ (n - j)) : w_cd b W j = q := by
  obtain ⟨d, rfl⟩ : ∃ d, n = j + d := ⟨n - j, by omega⟩
  rw [Nat.add_sub_cancel_left] at h1 h2
  rw [← cd_div j d h]
  exact Nat.div_eq_of_lt_le h1 h2
theorem cd_in {b : Nat} {W V : Nat → Nat} : ∀ {n : Nat}, WV b n W → WV b n V → w_cd b W n = w_cd b V n → ∀ k, k < n → W k = V k
  | 0, _, _, _ => fun k hk => by omega
  | n + 1, h1, h2, e => by
    have a1 := h1 n (by omega)
    have a2 := h2 n (by omega)
    rw [w_cd, w_cd] at e
    have e1 : w_cd b W n = w_cd b V n := by
      have := congrArg (· / b) e
      rw [Nat.mul_comm, Nat.mul_add_div (by omega), Nat.div_eq_of_lt a1, Nat.mul_comm, Nat.mul_add_div (by omega), Nat.div_eq_of_lt a2] at this
      omega
    rw [e1] at e
    intro k hk
    by_cases ek : k = n
    · subst ek; omega
    · exact cd_in (fun k hk => h1 k (by omega)) (fun k hk => h2 k (by omega)) e1 k (by omega)
theorem cd_co {b : Nat} {W V : Nat → Nat} : ∀ {n : Nat}, (∀ k, k < n → W k = V k) → w_cd b W n = w_cd b V n
  | 0, _ => rfl
  | n + 1, h => by rw [w_cd, w_cd, cd_co (fun k hk => h k (by omega)), h n (by omega)]
/-- a code's figures -/
def w_dg (b n x : Nat) : Nat → Nat := fun k => x / b ^ (n - 1 - k) % b
theorem dg_cd {b n x : Nat} (hb : 0 < b) (hx : x < b ^ n) : ∀ j, j ≤ n → w_cd b (w_dg b n x) j = x / b ^ (n - j)
  | 0, _ => by rw [w_cd, Nat.sub_zero, Nat.div_eq_of_lt hx]
  | j + 1, h => by
    rw [w_cd, dg_cd hb hx j (by omega), w_dg, show n - j = (n - 1 - j) + 1 from by omega, Nat.pow_succ, ← Nat.div_div_eq_div_mul, show n - (j + 1) = n - 1 - j from by omega]
    have := Nat.div_add_mod (x / b ^ (n - 1 - j)) b
    rw [Nat.mul_comm] at this
    exact this
theorem dg_wv {b n x : Nat} (hb : 0 < b) : WV b n (w_dg b n x) := fun k _ => Nat.mod_lt _ hb
theorem ct_rev (P : Nat → Bool) : ∀ n, fb_ct (fun j => P (n - 1 - j)) n = fb_ct P n
  | 0 => rfl
  | n + 1 => by
    have e := fb_ct_split (fun j => P (n + 1 - 1 - j)) 1 n
    rw [Nat.add_comm 1 n] at e
    rw [e]
    have e2 : fb_ct (fun k => P (n + 1 - 1 - (1 + k))) n = fb_ct P n := by
      rw [← ct_rev P n]
      exact fb_ct_cong (fun k hk => by rw [show n + 1 - 1 - (1 + k) = n - 1 - k from by omega])
    rw [e2, fb_ct_succ, fb_ct_succ]
    show 0 + _ + _ = _
    rw [show n + 1 - 1 - 0 = n from by omega]
    omega
/-! ways over a state -/
def w_row (m : Mm) (f : Nat) (W : Nat → Nat) : Nat → Int32 := fun p => if f ≤ p ∧ p < f + q_wd m f then w_v (W (p - f)) else m 15 p
def q_o1 (m : Mm) (o r : Nat → Int32) (p : Nat) : Prop := ∀ a, r p = nI a → a < q_na m → q_ft m o p a = true ∧ ∀ q, q < q_np m → q ≠ p → (r q = nI a → q_tg m p q a = true) ∧ (q_co r q = true → q_wh m q = q_wh m p → q_ov m p q = false)
def w_ok (m : Mm) (f : Nat) (W : Nat → Nat) : Prop := ∀ p, f ≤ p → p < f + q_wd m f → q_o1 m (m 15) (w_row m f W) p
def w_tn (m : Mm) (f : Nat) (W : Nat → Nat) (k : Nat) : Bool := (decide (W k ≠ 0)) ^^ (q_co (m 15) (f + k))
def w_mv (m : Mm) (f : Nat) (W : Nat → Nat) (k : Nat) : Bool := decide (W k ≠ 0) && (q_co (m 15) (f + k) && decide (w_v (W k) ≠ m 15 (f + k)))
def w_ch (m : Mm) (f : Nat) (W : Nat → Nat) : Nat → Nat := fb_ct (fun k => decide (w_v (W k) ≠ m 15 (f + k)))
def w_ct (W : Nat → Nat) : Nat → Nat := fb_ct (fun k => decide (W k ≠ 0))
def w_vo (m : Mm) (f : Nat) (W : Nat → Nat) : Nat → Nat := fb_sm (fun k => if W k ≠ 0 then q_vo m (f + k) else 0)
def w_we (m : Mm) (law f : Nat) (W : Nat → Nat) : Int := if law = 0 then -(w_vo m f W (q_wd m f) : Int) else (q_ls m (q_co (w_row m f W)) (q_ns m) : Int)
def w_ky (m : Mm) (law f : Nat) (W : Nat → Nat) : Int := (w_we m law f W * 8 + w_ct W (q_wd m f)) * 8 + w_ch m f W (q_wd m f)
def w_va (m : Mm) (f cc : Nat) (W : Nat → Nat) : Prop := WV (q_na m + 1) (q_wd m f) W ∧ w_ch m f W (q_wd m f) ≤ cc ∧ w_ok m f W
def IsPl (m : Mm) (law f cc : Nat) (W : Nat → Nat) : Prop := w_va m f cc W ∧ ∀ V, w_va m f cc V → w_ky m law f W < w_ky m law f V ∨ w_ky m law f W = w_ky m law f V ∧ w_cd (q_na m + 1) W (q_wd m f) ≤ w_cd (q_na m + 1) V (q_wd m f)
def w_now (m : Mm) (f : Nat) : Nat → Nat := fun k => if q_co (m 15) (f + k) = true then q_ac (m 15) (f + k) + 1 else 0
theorem pl_u {m : Mm} {law f cc : Nat} {W V : Nat → Nat} (h1 : IsPl m law f cc W) (h2 : IsPl m law f cc V) : ∀ k, k < q_wd m f → W k = V k := by
  have a := h1.2 V h2.1
  have b := h2.2 W h1.1
  exact cd_in h1.1.1 h2.1.1 (by omega)
theorem row_co {m : Mm} {f : Nat} {W V : Nat → Nat} (h : ∀ k, k < q_wd m f → W k = V k) : w_row m f W = w_row m f V := by
  funext p
  unfold w_row
  by_cases hp : f ≤ p ∧ p < f + q_wd m f
  · rw [if_pos hp, if_pos hp, h _ (by omega)]
  · rw [if_neg hp, if_neg hp]
theorem ch_co {m : Mm} {f n : Nat} {W V : Nat → Nat} (h : ∀ k, k < n → W k = V k) : w_ch m f W n = w_ch m f V n := fb_ct_cong (fun k hk => by rw [h k hk])
theorem ct_co {n : Nat} {W V : Nat → Nat} (h : ∀ k, k < n → W k = V k) : w_ct W n = w_ct V n := fb_ct_cong (fun k hk => by rw [h k hk])
theorem ky_co {m : Mm} {law f : Nat} {W V : Nat → Nat} (h : ∀ k, k < q_wd m f → W k = V k) : w_ky m law f W = w_ky m law f V := by
  unfold w_ky w_we w_vo
  rw [row_co h, ch_co h, ct_co h, fb_sm_cong (f := fun k => if W k ≠ 0 then q_vo m (f + k) else 0) (g := fun k => if V k ≠ 0 then q_vo m (f + k) else 0) (fun k hk => by rw [h k hk])]
theorem va_co {m : Mm} {f cc : Nat} {W V : Nat → Nat} (h : ∀ k, k < q_wd m f → W k = V k) (hW : w_va m f cc W) : w_va m f cc V := by
  obtain ⟨a1, a2, a3⟩ := hW
  refine ⟨fun k hk => by rw [← h k hk]; exact a1 k hk, by rw [← ch_co h]; exact a2, ?_⟩
  unfold w_ok at *
  rw [← row_co h]
  exact a3
section EV
variable {c m c' m' : Mm}
theorem wv_4 {d : Nat} (hd : d < 1000) : (w_v d = -4) = (d = 0) := by
  unfold w_v
  by_cases h : d = 0
  · rw [if_pos h]; exact propext ⟨fun _ => h, fun _ => rfl⟩
  · rw [if_neg h, nz_m4 (by omega)]; exact propext ⟨fun z => z.elim, fun z => (h z).elim⟩
theorem wv_n {d a : Nat} (hd : d < 1000) (ha : a < 1000) : (w_v d = nI a) = (d = a + 1) := by
  unfold w_v
  by_cases h : d = 0
  · rw [if_pos h]
    exact propext ⟨fun z => absurd z.symm (by rw [nz_m4 (by omega)]; exact id), fun z => by omega⟩
  · rw [if_neg h, nz_eq (by omega) (by omega)]
    exact propext ⟨fun z => by omega, fun z => by omega⟩
theorem wv_s {d : Nat} (hd : d ≠ 0) : w_v d = nI (d - 1) := if_neg hd
theorem wc_s {d : Nat} (hd : d ≠ 0) : w_c d = nI (d - 1) := if_neg hd
theorem row_in {f k : Nat} {W : Nat → Nat} (hk : k < q_wd m f) : w_row m f W (f + k) = w_v (W k) := by
  unfold w_row
  rw [if_pos (by omega), Nat.add_sub_cancel_left]
theorem row_ou {f p : Nat} {W : Nat → Nat} (hp : ¬ (f ≤ p ∧ p < f + q_wd m f)) : w_row m f W p = m 15 p := if_neg hp
theorem ch_sp (R : RW c m) {f n : Nat} {W : Nat → Nat} (hf : f + n ≤ q_np m) (hW : WV (q_na m + 1) n W) : w_ch m f W n = fb_ct (w_tn m f W) n + fb_ct (w_mv m f W) n := by
  have h0 := R.np; have h1 := R.na
  have key : ∀ k, k < n → (decide (w_v (W k) ≠ m 15 (f + k)) = (w_tn m f W k || w_mv m f W k)) ∧ ¬ (w_tn m f W k = true ∧ w_mv m f W k = true) := by
    intro k hk
    have hd := hW k hk
    unfold w_tn w_mv
    rcases co_m4 R (p := f + k) (by omega) with ⟨w1, w2, w3⟩ | ⟨w1, w2, w3, w4⟩
    · rw [w1, w2]
      by_cases h : W k = 0
      · rw [h]; decide
      · rw [decide_eq_true h, decide_eq_true (show w_v (W k) ≠ -4 by rw [ne_eq, wv_4 (by omega)]; exact h)]; decide
    · rw [w1]
      by_cases h : W k = 0
      · rw [h, w3, decide_eq_true (show w_v 0 ≠ nI (q_ac (m 15) (f + k)) by rw [ne_eq, wv_n (by omega) (by omega)]; omega)]; decide
      · rw [decide_eq_true h]
        cases decide (w_v (W k) ≠ m 15 (f + k)) <;> decide
  unfold w_ch
  rw [← fb_ct_or (fun k hk => (key k hk).2)]
  exact fb_ct_cong (fun k hk => (key k hk).1)
theorem now_v (R : RW c m) {f k : Nat} (h : f + k < 24) : w_v (w_now m f k) = m 15 (f + k) ∧ w_now m f k < q_na m + 1 ∧ w_c (w_now m f k) = c 12 (f + k) := by
  unfold w_now
  rcases co_m4 R (p := f + k) h with ⟨w1, w2, w3⟩ | ⟨w1, w2, w3, w4⟩
  · rw [w1, w2, w3]; exact ⟨rfl, by simp, rfl⟩
  · rw [w1, if_pos rfl, w4, wv_s (by omega), wc_s (by omega), Nat.add_sub_cancel]
    exact ⟨w3.symm, by omega, rfl⟩
theorem now_va (R : RW c m) (K : q_ok m (m 15) (m 15)) {f cc : Nat} (hf : f < q_np m) : w_va m f cc (w_now m f) ∧ w_ch m f (w_now m f) (q_wd m f) = 0 ∧ w_row m f (w_now m f) = m 15 := by
  have h0 := R.np
  obtain ⟨d1, d2⟩ := wd_le m f
  have e0 : w_ch m f (w_now m f) (q_wd m f) = 0 := fb_ct_zero.mpr (fun k hk => decide_eq_false (fun z => z (now_v R (by omega)).1))
  have er : w_row m f (w_now m f) = m 15 := by
    funext p
    unfold w_row
    by_cases hp : f ≤ p ∧ p < f + q_wd m f
    · rw [if_pos hp]
      have := (now_v R (f := f) (k := p - f) (by omega)).1
      rw [show f + (p - f) = p from by omega] at this
      exact this
    · rw [if_neg hp]
  refine ⟨⟨fun k hk => (now_v R (by omega)).2.1, by omega, fun p h1 h2 => ?_⟩, e0, er⟩
  rw [er]
  exact K p (by omega)
/-- no change: it is the state as it stands -/
theorem ch_0 (R : RW c m) {f : Nat} {W : Nat → Nat} (hf : f < q_np m) (hW : WV (q_na m + 1) (q_wd m f) W) (h : w_ch m f W (q_wd m f) = 0) : ∀ k, k < q_wd m f → W k = w_now m f k := by
  have h0 := R.np; have h1 := R.na
  obtain ⟨d1, d2⟩ := wd_le m f
  intro k hk
  have := fb_ct_zero.mp h k hk
  have e : w_v (W k) = m 15 (f + k) := Decidable.not_not.mp (of_decide_eq_false this)
  obtain ⟨n1, n2, n3⟩ := now_v R (f := f) (k := k) (by omega)
  rw [← n1] at e
  have hd := hW k hk
  by_cases z : w_now m f k = 0
  · rw [z] at e ⊢
    rw [show w_v 0 = -4 from rfl, wv_4 (by omega)] at e
    exact e
  · rw [wv_s z, wv_n (by omega) (by omega)] at e
    omega
/-- a way of a window keeps all of its state in order -/
theorem w_full (R : RW c m) (K : q_ok m (m 15) (m 15)) {f : Nat} {W : Nat → Nat} (hf : f < q_np m) (hW : WV (q_na m + 1) (q_wd m f) W) (h : w_ok m f W) : q_ok m (m 15) (w_row m f W) := by
  have h0 := R.np; have h1 := R.na
  obtain ⟨d1, d2⟩ := wd_le m f
  intro p hp
  by_cases hin : f ≤ p ∧ p < f + q_wd m f
  · exact h p hin.1 hin.2
  · intro a e ha
    rw [row_ou hin] at e
    obtain ⟨k1, k2⟩ := K p hp a e ha
    refine ⟨k1, fun q hq hne => ?_⟩
    by_cases hq2 : f ≤ q ∧ q < f + q_wd m f
    · have hqq := h q hq2.1 hq2.2
      have erow : w_row m f W q = w_v (W (q - f)) := if_pos hq2
      have hd := hW (q - f) (by omega)
      have hcop : q_co (w_row m f W) p = true := by
        unfold q_co
        rw [row_ou hin, e]
        exact decide_eq_true (by rw [ne_eq, nz_m4 (by omega)]; exact id)
      constructor
      · intro e2
        rw [tg_sym]
        exact ((hqq a e2 ha).2 p hp (Ne.symm hne)).1 (by rw [row_ou hin, e])
      · intro hc hw
        rw [ov_sym]
        have : W (q - f) ≠ 0 := by
          intro z
          unfold q_co at hc
          rw [erow, z] at hc
          exact absurd hc (by decide)
        have e3 : w_row m f W q = nI (W (q - f) - 1) := by rw [erow, wv_s this]
        exact ((hqq _ e3 (by omega)).2 p hp (Ne.symm hne)).2 hcop hw.symm
    · have er : w_row m f W q = m 15 q := row_ou hq2
      have := k2 q hq hne
      unfold q_co at *
      rw [er]
      exact this
theorem ok_no2 {o r : Nat → Int32} (hr : ∀ p, p < q_np m → r p = -4 ∨ ∃ a, a < q_na m ∧ r p = nI a) (K : q_ok m o r) : q_no m (q_co r) := by
  intro p q hpq hq h1 h2 h3
  rcases hr p (by omega) with w1 | ⟨a, w1, w2⟩
  · unfold q_co at h1; rw [w1] at h1; exact absurd h1 (by decide)
  · exact ((K p (by omega) a w2 w1).2 q hq (by omega)).2 h2 h3.symm
theorem row_sh (R : RW c m) {f : Nat} {W : Nat → Nat} (hW : WV (q_na m + 1) (q_wd m f) W) : ∀ p, p < 24 → w_row m f W p = -4 ∨ ∃ a, a < q_na m ∧ w_row m f W p = nI a := by
  intro p hp
  unfold w_row
  by_cases hin : f ≤ p ∧ p < f + q_wd m f
  · rw [if_pos hin]
    have hd := hW (p - f) (by omega)
    by_cases z : W (p - f) = 0
    · rw [z]; exact Or.inl rfl
    · exact Or.inr ⟨W (p - f) - 1, by omega, wv_s z⟩
  · rw [if_neg hin]
    rcases R.now hp with ⟨w1, w2⟩ | ⟨b, w1, w2, w3⟩
    · exact Or.inl w1
    · exact Or.inr ⟨b, w1, w2⟩
theorem we_b (R : RW c m) {law f : Nat} {W : Nat → Nat} (hf : f < q_np m) : -70000 ≤ w_we m law f W ∧ w_we m law f W ≤ 70000 := by
  have h0 := R.np; have h2 := R.ns
  obtain ⟨d1, d2⟩ := wd_le m f
  unfold w_we
  split
  · have hb : w_vo m f W (q_wd m f) ≤ q_wd m f * 10800 := fb_sm_bound (fun k hk => by
      split
      · exact (R.pb (p := f + k) (by omega)).2.2.2.2.2
      · omega)
    have : q_wd m f * 10800 ≤ 6 * 10800 := Nat.mul_le_mul_right _ d1
    omega
  · have hb : q_ls m (q_co (w_row m f W)) (q_ns m) ≤ q_ns m * 1080 := fb_sm_bound (fun k hk => by
      obtain ⟨_, _, _, _, y5, y6, y7⟩ := R.sb hk
      have := (fs_b (2 * q_sa m k 3) (2 * q_sa m k 4) (q_fl m (q_co (w_row m f W)) k) 60).2
      unfold q_en
      omega)
    have : q_ns m * 1080 ≤ 4 * 1080 := Nat.mul_le_mul_right _ h2
    omega
end EV
