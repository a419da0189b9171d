/-! PURE LAYER 12: best -/
/-- B is the first of the greatest among those of P below N; 24: there is none -/
def IsBst (N : Nat) (P : Nat → Prop) (K : Nat → Int) (B : Nat) : Prop := (B = 24 ∧ ∀ q, q < N → ¬ P q) ∨ (B < N ∧ P B ∧ ∀ q, q < N → P q → K q < K B ∨ K q = K B ∧ B ≤ q)
theorem bst_u {N : Nat} {P : Nat → Prop} {K : Nat → Int} {A B : Nat} (hN : N ≤ 24) (h1 : IsBst N P K A) (h2 : IsBst N P K B) : A = B := by
  rcases h1 with ⟨a1, a2⟩ | ⟨a1, a2, a3⟩ <;> rcases h2 with ⟨b1, b2⟩ | ⟨b1, b2, b3⟩
  · omega
  · exact absurd b2 (a2 B b1)
  · exact absurd a2 (b2 A a1)
  · have := a3 B b1 b2
    have := b3 A a1 a2
    omega
theorem bst_c {N : Nat} {P P' : Nat → Prop} {K K' : Nat → Int} {B : Nat} (h : IsBst N P K B) (hP : ∀ q, q < N → (P q ↔ P' q)) (hK : ∀ q, q < N → P q → K q = K' q) : IsBst N P' K' B := by
  rcases h with ⟨a1, a2⟩ | ⟨a1, a2, a3⟩
  · exact Or.inl ⟨a1, fun q hq z => a2 q hq ((hP q hq).mpr z)⟩
  · refine Or.inr ⟨a1, (hP B a1).mp a2, fun q hq z => ?_⟩
    have z' := (hP q hq).mpr z
    rw [← hK q hq z', ← hK B a1 a2]
    exact a3 q hq z'
/-- two numbers of a row in one -/
def kOf (mo ro : Nat → Nat) (q : Nat) : Int := 64 * (mo q : Int) - (ro q : Int)
def m17 (x : Mm) (q : Nat) : Nat := (x 17 q).toNatClampNeg
def m18 (x : Mm) (q : Nat) : Nat := (x 18 q).toNatClampNeg
def m19 (x : Mm) (q : Nat) : Nat := (x 19 q).toNatClampNeg
def q_gp (m : Mm) (a p q : Nat) : Bool := decide (q_la m p + q_an m a 2 < q_fi m q)
def it1 (ne : Nat → Nat) : Nat → Nat → Nat
  | 0, p => p
  | k + 1, p => it1 ne k (ne p)
section EV
variable {c m c' m' : Mm}
theorem bb_m (R : RW c m) {a s : Nat} {x2 : Int32} {G : Nat → Bool} {x : Mm} (ha : a < q_na m) (hs : s ≤ q_np m) (hx : ∀ k, k ≤ 16 → x k = m k)
    (hG : (x2 < 0 ∧ ∀ q, G q = true) ∨ ∃ p, p < q_np m ∧ x2 = nI p ∧ ∀ q, G q = q_gp m a p q)
    (hv : ∀ q, (s ≤ q ∧ q < q_np m ∨ q = 24) → x 17 q = nI (m17 x q) ∧ x 18 q = nI (m18 x q) ∧ m17 x q ≤ 1000000 ∧ m18 x q ≤ 30)
    (h24 : m17 x 24 = 0 ∧ m18 x 24 = 0) (hpos : ∀ q, s ≤ q → q < q_np m → 1 ≤ m17 x q) :
    ∃ B, mX11_bestBehind_8 x FU (nI a) x2 24 (nI s) = some (nI B) ∧ IsBst (q_np m) (fun q => s ≤ q ∧ q_ft m (m 15) q a = true ∧ G q = true) (kOf (m17 x) (m18 x)) B ∧ B ≤ 24 := by
  have h0 := R.np; have h1 := R.na; have h3 := R.ng; have h4 := R.ns
  obtain ⟨Rx, Sx⟩ := R.sm (m' := x) hx
  have e15 : x 15 = m 15 := hx 15 (by decide)
  refine lo_up (fun n i (B : Nat) => mX11_bestBehind_8 x n (nI a) x2 (nI B) (nI i)) (fun z => ∃ B, z = some (nI B) ∧ IsBst (q_np m) (fun q => s ≤ q ∧ q_ft m (m 15) q a = true ∧ G q = true) (kOf (m17 x) (m18 x)) B ∧ B ≤ 24) (fun i B => s ≤ i ∧ IsBst i (fun q => s ≤ q ∧ q_ft m (m 15) q a = true ∧ G q = true) (kOf (m17 x) (m18 x)) B) (q_np m) (fun n B hP => ?_) (fun n i B hi hP => ?_) FU s 24 hs (fu_lt (by omega)) ⟨Nat.le_refl _, Or.inl ⟨rfl, fun q hq z => by omega⟩⟩
  · refine ⟨B, ?_, hP.2, ?_⟩
    · show mX11_bestBehind_8 x (n + 1) _ _ _ _ = _
      rw [mX11_bestBehind_8, hx 0 (by decide), R.mnp, if_pos (nI_le (Nat.le_refl _) (by omega))]
    · rcases hP.2 with ⟨b1, _⟩ | ⟨b1, _⟩ <;> omega
  · obtain ⟨si, hB⟩ := hP
    have hf := fits_m Rx (p := i) (a := a) (by rw [Sx.q.2.2.2.1]; exact hi) (by rw [Sx.q.2.2.1]; exact ha)
    rw [Sx.ft, e15] at hf
    have hB' : s ≤ B ∧ B < q_np m ∨ B = 24 := by
      rcases hB with ⟨b1, _⟩ | ⟨b1, b2, _⟩
      · exact Or.inr b1
      · exact Or.inl ⟨b2.1, by omega⟩
    obtain ⟨v1, v2, v3, v4⟩ := hv B hB'
    obtain ⟨w1, w2, w3, w4⟩ := hv i (Or.inl ⟨si, hi⟩)
    have hpi := hpos i si hi
    have hgap : ∀ (X Y : Option Int32), (if x2 < 0 then X else gIn (nI i) 24 (gIn x2 24 (gIn ((3 : Int32) * nI a + 2) 12 (if x 10 (nI i).toNatClampNeg - x 11 x2.toNatClampNeg ≤ x 4 ((3 : Int32) * nI a + 2).toNatClampNeg then Y else X)))) = if G i = true then X else Y := by
      intro X Y
      rcases hG with ⟨g1, g2⟩ | ⟨p, hp, g1, g2⟩
      · rw [if_pos g1, g2, if_pos rfl]
      · subst g1
        obtain ⟨b1, b2, _⟩ := R.pb hp
        obtain ⟨d1, d2, _⟩ := R.pb hi
        obtain ⟨f1, f2, f3⟩ := R.ab ha
        rw [if_neg (nI_pos (by omega)), mu_3, ad_2, gIn_nI (by omega) (by omega), gIn_nI (by omega) (by omega), gIn_nI (by omega) (by omega), cl_n (by omega), cl_n (by omega), cl_n (by omega), hx 10 (by decide), hx 11 (by decide), hx 4 (by decide), (R.pas hi).1, (R.pas hp).2.1, (R.ant ha (j := 2) (by omega)).1, g2]
        simp (disch := omega) only [su_le]
        unfold q_gp
        by_cases h : q_la m p + q_an m a 2 < q_fi m i
        · rw [decide_eq_true h, if_neg (by omega), if_pos rfl]
        · rw [decide_eq_false h, if_pos (by omega), if_neg (by decide)]
    show ∃ x', mX11_bestBehind_8 x (n + 1) (nI a) x2 (nI B) (nI i) = mX11_bestBehind_8 x n (nI a) x2 (nI x') (nI (i + 1)) ∧ _
    rw [mX11_bestBehind_8, hx 0 (by decide), R.mnp, if_neg (nI_ge hi (by omega)), hf, bd1_s]
    simp only [bI_if]
    rw [hgap]
    have h63 : ∀ b : Bool, mX11_bestBehind_63 x (mX11_bestBehind_8 x n) (nI a) x2 (nI B) (nI i) (bI b) = mX11_bestBehind_8 x n (nI a) x2 (nI (if b = true ∧ kOf (m17 x) (m18 x) B < kOf (m17 x) (m18 x) i then i else B)) (nI (i + 1)) := by
      intro b
      have hB24 : B ≤ 24 := by omega
      unfold mX11_bestBehind_63 mX11_bestBehind_117 mX11_bestBehind_113 mX11_bestBehind_118 mX11_bestBehind_135 mX11_bestBehind_136 kOf
      rw [gIn_nI (by omega) (by omega), gIn_nI (by omega) (by omega), gIn_nI (by omega) (by omega), gIn_nI (by omega) (by omega), gIn_nI (by omega) (by omega), gIn_nI (by omega) (by omega), cl_n (by omega), cl_n (by omega), v1, v2, w1, w2, ad_1]
      simp (disch := omega) only [bI_if, nz_lt, nz_eq, nz_le]
      have i10 : ¬ (1 : Int32) = 0 := by decide
      simp only [i10, if_true, if_false, ite_self]
      generalize m17 x B = mb at *
      generalize m18 x B = rb at *
      generalize m17 x i = mi at *
      generalize m18 x i = ri at *
      cases b with
      | false =>
        simp only [Bool.false_eq_true, if_false, false_and, ite_self]
      | true =>
        simp only [if_true, true_and]
        by_cases q1 : mb < mi
        · rw [if_pos q1, if_pos (by omega)]
        · rw [if_neg q1]
          by_cases q2 : mi = mb
          · rw [if_pos q2]
            by_cases q3 : rb ≤ ri
            · rw [if_pos q3, if_neg (by omega)]
            · rw [if_neg q3, if_pos (by omega)]
          · rw [if_neg q2, if_neg (by omega)]
    have h58 : mX11_bestBehind_58 x (mX11_bestBehind_8 x n) (nI a) x2 (nI B) (nI i) = _ := h63 true
    have h62 : mX11_bestBehind_62 x (mX11_bestBehind_8 x n) (nI a) x2 (nI B) (nI i) = _ := h63 false
    rw [h58, h62]
    have hall : (if q_ft m (m 15) i a = true then if G i = true then mX11_bestBehind_8 x n (nI a) x2 (nI (if true = true ∧ kOf (m17 x) (m18 x) B < kOf (m17 x) (m18 x) i then i else B)) (nI (i + 1)) else mX11_bestBehind_8 x n (nI a) x2 (nI (if false = true ∧ kOf (m17 x) (m18 x) B < kOf (m17 x) (m18 x) i then i else B)) (nI (i + 1)) else mX11_bestBehind_8 x n (nI a) x2 (nI (if false = true ∧ kOf (m17 x) (m18 x) B < kOf (m17 x) (m18 x) i then i else B)) (nI (i + 1))) = mX11_bestBehind_8 x n (nI a) x2 (nI (if (q_ft m (m 15) i a = true ∧ G i = true) ∧ kOf (m17 x) (m18 x) B < kOf (m17 x) (m18 x) i then i else B)) (nI (i + 1)) := by
      cases q_ft m (m 15) i a <;> cases G i <;> simp
    refine ⟨if (q_ft m (m 15) i a = true ∧ G i = true) ∧ kOf (m17 x) (m18 x) B < kOf (m17 x) (m18 x) i then i else B, ?_, by omega, ?_⟩
    · exact hall
    · have hk24 : kOf (m17 x) (m18 x) 24 = 0 := by unfold kOf; rw [h24.1, h24.2]; rfl
      have hki : 0 < kOf (m17 x) (m18 x) i := by unfold kOf; omega
      generalize kOf (m17 x) (m18 x) = K at *
      by_cases hc : (q_ft m (m 15) i a = true ∧ G i = true) ∧ K B < K i
      · rw [if_pos hc]
        refine Or.inr ⟨by omega, ⟨si, hc.1⟩, fun q hq hp => ?_⟩
        by_cases e : q = i
        · subst e; exact Or.inr ⟨rfl, Nat.le_refl _⟩
        · rcases hB with ⟨b1, b2⟩ | ⟨b1, b2, b3⟩
          · exact absurd hp (b2 q (by omega))
          · have := b3 q (by omega) hp
            omega
      · rw [if_neg hc]
        rcases hB with ⟨b1, b2⟩ | ⟨b1, b2, b3⟩
        · refine Or.inl ⟨b1, fun q hq hp => ?_⟩
          by_cases e : q = i
          · subst e
            rw [b1, hk24] at hc
            exact hc ⟨hp.2, hki⟩
          · exact b2 q (by omega) hp
        · refine Or.inr ⟨by omega, b2, fun q hq hp => ?_⟩
          by_cases e : q = i
          · subst e
            have : ¬ K B < K q := fun z => hc ⟨hp.2, z⟩
            omega
          · exact b3 q (by omega) hp
theorem add_m1 (x : Int32) : x + (-1) = x - 1 := by
  apply Int32.toBitVec_inj.1
  show x.toBitVec + (-1 : Int32).toBitVec = x.toBitVec - (1 : Int32).toBitVec
  rw [BitVec.sub_eq_add_neg]
  rfl
/-- a row of the reference's table -/
def RO (m : Mm) (a : Nat) (x : Mm) (q : Nat) : Prop := IsBst (q_np m) (fun p => q + 1 ≤ p ∧ q_ft m (m 15) p a = true ∧ q_gp m a q p = true) (kOf (m17 x) (m18 x)) (m19 x q) ∧ x 17 q = nI (m17 x q) ∧ x 18 q = nI (m18 x q) ∧ x 19 q = nI (m19 x q) ∧ m17 x q = q_vo m q + m17 x (m19 x q) ∧ m18 x q = 1 + m18 x (m19 x q) ∧ m17 x q ≤ 10800 * (q_np m - q) ∧ m18 x q ≤ q_np m - q
def RO24 (x : Mm) : Prop := x 17 24 = 0 ∧ x 18 24 = 0
theorem RO.z {x : Mm} (h : RO24 x) : m17 x 24 = 0 ∧ m18 x 24 = 0 := ⟨by unfold m17; rw [h.1]; rfl, by unfold m18; rw [h.2]; rfl⟩
theorem RO.cong {a q : Nat} {x y : Mm} (h : RO m a x q) (hy : ∀ k, q ≤ k → k ≤ 24 → y 17 k = x 17 k ∧ y 18 k = x 18 k ∧ y 19 k = x 19 k) (hN : q_np m ≤ 24) (hq : q < q_np m) : RO m a y q := by
  obtain ⟨a1, a2, a3, a4, a5, a6, a7, a8⟩ := h
  have e1 : ∀ k, q ≤ k → k ≤ 24 → m17 y k = m17 x k := fun k h1 h2 => by unfold m17; rw [(hy k h1 h2).1]
  have e2 : ∀ k, q ≤ k → k ≤ 24 → m18 y k = m18 x k := fun k h1 h2 => by unfold m18; rw [(hy k h1 h2).2.1]
  have e3 : ∀ k, q ≤ k → k ≤ 24 → m19 y k = m19 x k := fun k h1 h2 => by unfold m19; rw [(hy k h1 h2).2.2]
  have hb : q ≤ m19 x q ∧ m19 x q ≤ 24 := by
    rcases a1 with ⟨b1, _⟩ | ⟨b1, b2, _⟩ <;> omega
  unfold RO
  obtain ⟨y1, y2, y3⟩ := hy q (by omega) (by omega)
  rw [e3 q (by omega) (by omega), e1 q (by omega) (by omega), e2 q (by omega) (by omega), e1 _ hb.1 hb.2, e2 _ hb.1 hb.2, y1, y2, y3]
  refine ⟨bst_c a1 (fun _ _ => Iff.rfl) (fun p hp hpp => ?_), a2, a3, a4, a5, a6, a7, a8⟩
  unfold kOf
  rw [e1 p (by omega) (by omega), e2 p (by omega) (by omega)]
theorem bests_m (R : RW c m) {a : Nat} (ha : a < q_na m) : ∃ m', mX11_bests m (nI a) = some m' ∧ (∀ k, k ≠ 17 → k ≠ 18 → k ≠ 19 → m' k = m k) ∧ RO24 m' ∧ ∀ q, q < q_np m → RO m a m' q := by
  have h0 := R.np; have h1 := R.na
  have g24 : ∀ {α : Type} (X : Option α), gIn (24 : Int32) 25 X = X := fun X => rfl
  have c24 : (24 : Int32).toNatClampNeg = 24 := rfl
  unfold mX11_bests
  simp only [g24, c24, mlet_s]
  rw [wr_cell _ _ _ (by decide), wr_cell _ _ _ (by decide), R.mnp]
  refine lo_up (fun n i y => mX11_bests_23 n (nI a) (nI (q_np m - i) - 1) y) (fun z => ∃ m', z = some m' ∧ (∀ k, k ≠ 17 → k ≠ 18 → k ≠ 19 → m' k = m k) ∧ RO24 m' ∧ ∀ q, q < q_np m → RO m a m' q) (fun i y => (∀ k, k ≠ 17 → k ≠ 18 → k ≠ 19 → y k = m k) ∧ RO24 y ∧ ∀ q, q_np m - i ≤ q → q < q_np m → RO m a y q) (q_np m) (fun n y hP => ?_) (fun n i y hi hP => ?_) FU 0 _ (by omega) (fu_lt (by omega)) ?_
  · refine ⟨y, ?_, hP.1, hP.2.1, fun q hq => hP.2.2 q (by omega) hq⟩
    show mX11_bests_23 (n + 1) _ _ _ = _
    rw [mX11_bests_23, Nat.sub_self, if_pos (by decide)]
  · obtain ⟨p1, p2, p3⟩ := hP
    obtain ⟨p, hp⟩ : ∃ p, p = q_np m - i - 1 := ⟨_, rfl⟩
    have hpn : p < q_np m := by omega
    have hz := RO.z p2
    have hcell : ∀ k, k ≤ 16 → y k = m k := fun k hk => p1 k (by omega) (by omega) (by omega)
    obtain ⟨b5, b6⟩ := (R.pb hpn).2.2.2.2
    obtain ⟨B, e1, e2, e3⟩ := bb_m R (a := a) (s := p + 1) (x2 := nI p) (G := q_gp m a p) (x := y) ha (by omega) hcell (Or.inr ⟨p, hpn, rfl, fun _ => rfl⟩)
      (fun q hq => by
        rcases hq with ⟨q1, q2⟩ | q1
        · obtain ⟨_, a2, a3, _, _, _, a7, a8⟩ := p3 q (by omega) q2
          exact ⟨a2, a3, by omega, by omega⟩
        · subst q1
          exact ⟨by rw [hz.1, p2.1]; rfl, by rw [hz.2, p2.2]; rfl, by omega, by omega⟩) hz
      (fun q q1 q2 => by
        obtain ⟨_, _, _, _, a5, _⟩ := p3 q (by omega) q2
        have := (R.pb q2).2.2.2.2.1
        omega)
    have hB : (m17 y B ≤ 10800 * (q_np m - (p + 1)) ∧ m18 y B ≤ q_np m - (p + 1)) ∧ y 17 B = nI (m17 y B) ∧ y 18 B = nI (m18 y B) := by
      rcases e2 with ⟨b1, _⟩ | ⟨b1, b2, _⟩
      · subst b1
        exact ⟨⟨by omega, by omega⟩, by rw [hz.1, p2.1]; rfl, by rw [hz.2, p2.2]; rfl⟩
      · obtain ⟨_, a2, a3, _, _, _, a7, a8⟩ := p3 B (by omega) b1
        exact ⟨⟨by omega, by omega⟩, a2, a3⟩
    have hBp : B ≠ p := by
      rcases e2 with ⟨b1, _⟩ | ⟨b1, b2, _⟩ <;> omega
    have hy' : ∃ y', mX11_bests_23 (n + 1) (nI a) (nI (q_np m - i) - 1) y = mX11_bests_23 n (nI a) (nI (q_np m - (i + 1)) - 1) y' ∧ (∀ k, k ≠ 17 → k ≠ 18 → k ≠ 19 → y' k = y k) ∧ (∀ k, k ≠ p → y' 17 k = y 17 k ∧ y' 18 k = y 18 k ∧ y' 19 k = y 19 k) ∧ y' 17 p = nI (q_vo m p + m17 y B) ∧ y' 18 p = nI (1 + m18 y B) ∧ y' 19 p = nI B := by
      rw [mX11_bests_23, show nI (q_np m - i) - (1 : Int32) = nI p from by rw [li_1, pk_sub (by omega), hp], if_neg (nI_pos (by omega))]
      unfold mX11_bestBehind
      rw [ad_1, mlet_s, e1, bd1_s]
      simp (disch := omega) only [gIn_nI, cl_n, mlet_s, wr_same, wr_cell]
      rw [hcell 14 (by omega), (R.pas hpn).2.2.2.2, add_m1, show q_np m - (i + 1) = p from by omega]
      rw [hB.2.1, hB.2.2, nI_add, ad_i1]
      refine ⟨_, rfl, fun k k1 k2 k3 => ?_, fun k hk => ⟨?_, ?_, ?_⟩, ?_, ?_, ?_⟩
      · simp only [wr_cell _ _ _ k1, wr_cell _ _ _ k2, wr_cell _ _ _ k3]
      · rw [wr_cell _ _ _ (by decide), wr_slot _ _ _ hk, wr_cell _ _ _ (by decide)]
      · rw [wr_slot _ _ _ hk, wr_cell _ _ _ (by decide), wr_cell _ _ _ (by decide)]
      · rw [wr_cell _ _ _ (by decide), wr_cell _ _ _ (by decide), wr_slot _ _ _ hk]
      · rw [wr_cell _ _ _ (by decide), wr_same]
      · rw [wr_same]
      · rw [wr_cell _ _ _ (by decide), wr_cell _ _ _ (by decide), wr_same]
    obtain ⟨y', f1, f2, f3, f4, f5, f6⟩ := hy'
    have v17 : m17 y' p = q_vo m p + m17 y B := by unfold m17; rw [f4, cl_n (by omega)]; rfl
    have v18 : m18 y' p = 1 + m18 y B := by unfold m18; rw [f5, cl_n (by omega)]; rfl
    have v19 : m19 y' p = B := by unfold m19; rw [f6, cl_n (by omega)]
    have o17 : ∀ k, k ≠ p → m17 y' k = m17 y k := fun k hk => by unfold m17; rw [(f3 k hk).1]
    have o18 : ∀ k, k ≠ p → m18 y' k = m18 y k := fun k hk => by unfold m18; rw [(f3 k hk).2.1]
    refine ⟨y', f1, fun k k1 k2 k3 => by rw [f2 k k1 k2 k3, p1 k k1 k2 k3], ⟨by rw [(f3 24 (by omega)).1, p2.1], by rw [(f3 24 (by omega)).2.1, p2.2]⟩, fun q q1 q2 => ?_⟩
    by_cases e : q = p
    · subst e
      unfold RO
      rw [v19, v17, v18, o17 B hBp, o18 B hBp, f4, f5, f6]
      refine ⟨bst_c e2 (fun _ _ => Iff.rfl) (fun k hk hkk => ?_), rfl, rfl, rfl, rfl, rfl, by omega, by omega⟩
      unfold kOf
      rw [o17 k (by omega), o18 k (by omega)]
    · exact (p3 q (by omega) q2).cong (fun k k1 k2 => f3 k (by omega)) h0 q2
  · refine ⟨fun k k1 k2 k3 => by rw [wr_cell _ _ _ k2, wr_cell _ _ _ k1], ⟨by rw [wr_cell _ _ _ (by decide), wr_same], by rw [wr_same]⟩, fun q q1 q2 => by omega⟩
/-! the class's table, told by the reference's -/
def CJ (m : Mm) (a : Nat) (x y : Mm) (q : Nat) : Prop := ∃ B h t, IsBst (q_np m) (fun p => q ≤ p ∧ q_ft m (m 15) p a = true) (kOf (m17 x) (m18 x)) B ∧ y 18 q = nI (m17 x B) ∧ y 19 q = nI (m18 x B) ∧ y 20 q = nI h ∧ y 21 q = nI t ∧ h ≤ 24 ∧ t ≤ q_np m ∧ (B < q_np m → h = B ∧ IsBst (q_np m) (fun p => t ≤ p ∧ q_ft m (m 15) p a = true) (kOf (m17 x) (m18 x)) (m19 x B))
theorem gp_tg (R : RW c m) {p q a : Nat} (hp : p < q) (hq : q < q_np m) : q_tg m p q a = q_gp m a p q := by
  have := R.srt (p := p) (q := q) (by omega) hq
  have := (R.pb (p := p) (by omega)).1
  have := (R.pb (p := q) hq).1
  unfold q_tg q_gp
  exact decide_eq_decide.mpr (by omega)
theorem next_c (R : RW c m) {p a : Nat} (hp : p < q_np m) (ha : a < q_na m) : ∃ t, p < t ∧ t ≤ q_np m ∧ mX0_tryHead c (nI a) (nI p) = mX0_tryHead_34 (nI p) (nI t) c ∧ ∀ q, p < q → q < q_np m → (q_gp m a p q = true ↔ t ≤ q) := by
  have h0 := R.np; have h1 := R.na
  unfold mX0_tryHead
  rw [ad_1, mlet_s]
  have key : ∀ n i, i ≤ q_np m → p < i → q_np m - i < n → (∀ q, p < q → q < i → q_gp m a p q = false) → ∃ t, p < t ∧ t ≤ q_np m ∧ mX0_tryHead_5 n (nI a) (nI p) (nI i) c = mX0_tryHead_34 (nI p) (nI t) c ∧ ∀ q, p < q → q < q_np m → (q_gp m a p q = true ↔ t ≤ q) := by
    intro n
    induction n with
    | zero => intro i _ _ h; omega
    | succ n ih =>
      intro i hi hpi hf hlow
      rw [mX0_tryHead_5, R.cnp]
      by_cases e : i = q_np m
      · refine ⟨i, hpi, hi, by rw [if_pos (nI_le (by omega) (by omega))], fun q q1 q2 => ?_⟩
        rw [hlow q q1 (by omega)]
        exact ⟨fun z => (by cases z), fun z => (by omega)⟩
      · rw [if_neg (nI_ge (by omega) (by omega)), tog_c R hp (by omega) (by omega) ha, bd1_s, gp_tg R hpi (by omega)]
        simp only [bI_if]
        cases hg : q_gp m a p i with
        | true =>
          refine ⟨i, hpi, hi, if_pos rfl, fun q q1 q2 => ?_⟩
          constructor
          · intro hq
            rcases Nat.lt_or_ge q i with z | z
            · rw [hlow q q1 z] at hq; cases hq
            · exact z
          · intro hq
            have := R.srt (p := i) (q := q) hq q2
            unfold q_gp at hg ⊢
            have := of_decide_eq_true hg
            exact decide_eq_true (by omega)
        | false =>
          rw [if_neg (by decide), ad_1]
          refine ih (i + 1) (by omega) (by omega) (by omega) (fun q q1 q2 => ?_)
          by_cases e2 : q = i
          · rw [e2, hg]
          · exact hlow q q1 (by omega)
  exact key FU (p + 1) (by omega) (by omega) (fu_lt (by omega)) (fun q q1 q2 => by omega)
theorem chain_c (R : RW c m) {a : Nat} {x : Mm} (ha : a < q_na m) (h24 : RO24 x) (hx : ∀ q, q < q_np m → RO m a x q) : ∃ c', mX0_find c (nI a) = some c' ∧ (∀ k, k ≠ 18 → k ≠ 19 → k ≠ 20 → k ≠ 21 → c' k = c k) ∧ ∀ q, q ≤ q_np m → CJ m a x c' q := by
  have h0 := R.np; have h1 := R.na
  have hz := RO.z h24
  have h25 : q_np m < 25 := by omega
  unfold mX0_find
  rw [R.cnp]
  simp (disch := omega) only [mlet_s, gIn_nI, cl_n]
  refine lo_up (fun n i y => mX0_find_41 n (nI a) (nI (q_np m - i) - 1) y) (fun z => ∃ c', z = some c' ∧ (∀ k, k ≠ 18 → k ≠ 19 → k ≠ 20 → k ≠ 21 → c' k = c k) ∧ ∀ q, q ≤ q_np m → CJ m a x c' q) (fun i y => (∀ k, k ≠ 18 → k ≠ 19 → k ≠ 20 → k ≠ 21 → y k = c k) ∧ ∀ q, q_np m - i ≤ q → q ≤ q_np m → CJ m a x y q) (q_np m) (fun n y hP => ?_) (fun n i y hi hP => ?_) FU 0 _ (by omega) (fu_lt (by omega)) ?_
  · refine ⟨y, ?_, hP.1, fun q hq => hP.2 q (by omega) hq⟩
    show mX0_find_41 (n + 1) _ _ _ = _
    rw [mX0_find_41, Nat.sub_self, if_pos (by decide)]
  · obtain ⟨p1, p3⟩ := hP
    obtain ⟨p, hp⟩ : ∃ p, p = q_np m - i - 1 := ⟨_, rfl⟩
    have hpn : p < q_np m := by omega
    obtain ⟨b5, b6⟩ := (R.pb hpn).2.2.2.2
    have hb24 : ∀ B P, IsBst (q_np m) P (kOf (m17 x) (m18 x)) B → B ≤ 24 ∧ m17 x B ≤ 1000000 ∧ m18 x B ≤ 30 ∧ (B < q_np m → 1 ≤ m17 x B) := by
      intro B P hB
      rcases hB with ⟨b1, _⟩ | ⟨b1, b2, _⟩
      · subst b1
        exact ⟨by omega, by omega, by omega, fun z => by omega⟩
      · obtain ⟨_, _, _, _, a5, _, a7, a8⟩ := hx B b1
        have := (R.pb b1).2.2.2.2.1
        exact ⟨by omega, by omega, by omega, fun _ => by omega⟩
    obtain ⟨B, hh, tt, j1, j2, j3, j4, j5, j6, j7, j8⟩ := p3 (p + 1) (by omega) (by omega)
    obtain ⟨z1, z2, z3, z4⟩ := hb24 B _ j1
    show ∃ x', mX0_find_41 (n + 1) (nI a) (nI (q_np m - i) - 1) y = mX0_find_41 n (nI a) (nI (q_np m - (i + 1)) - 1) x' ∧ _
    rw [mX0_find_41, show nI (q_np m - i) - (1 : Int32) = nI p from by rw [li_1, pk_sub (by omega), hp], if_neg (nI_pos (by omega)), ad_1]
    simp (disch := omega) only [mlet_s, gIn_nI, cl_n, wr_cell]
    rw [j2, j3, j4, j5]
    generalize hy1 : wr (wr (wr (wr y 18 p (nI (m17 x B))) 19 p (nI (m18 x B))) 20 p (nI hh)) 21 p (nI tt) = y1
    have f1 : ∀ k, k ≠ 18 → k ≠ 19 → k ≠ 20 → k ≠ 21 → y1 k = y k := fun k k1 k2 k3 k4 => by rw [← hy1, wr_cell _ _ _ k4, wr_cell _ _ _ k3, wr_cell _ _ _ k2, wr_cell _ _ _ k1]
    have f2 : ∀ k j, j ≠ p → y1 k j = y k j := fun k j hj => by
      rw [← hy1, wr_if, if_neg (fun z => hj z.2), wr_if, if_neg (fun z => hj z.2), wr_if, if_neg (fun z => hj z.2), wr_if, if_neg (fun z => hj z.2)]
    have f3 : y1 18 p = nI (m17 x B) := by rw [← hy1, wr_cell _ _ _ (by decide), wr_cell _ _ _ (by decide), wr_cell _ _ _ (by decide), wr_same]
    have f4 : y1 19 p = nI (m18 x B) := by rw [← hy1, wr_cell _ _ _ (by decide), wr_cell _ _ _ (by decide), wr_same]
    have f5 : y1 20 p = nI hh := by rw [← hy1, wr_cell _ _ _ (by decide), wr_same]
    have f6 : y1 21 p = nI tt := by rw [← hy1, wr_same]
    have Ry : RW y1 m := R.sc (fun k hk => by rw [f1 k (by omega) (by omega) (by omega) (by omega), p1 k (by omega) (by omega) (by omega) (by omega)])
    have keep : ∀ y2 : Mm, (∀ k j, j ≠ p → y2 k j = y k j) → ∀ q, q_np m - i ≤ q → q ≤ q_np m → CJ m a x y2 q := fun y2 hy2 q q1 q2 => by
      obtain ⟨B', h', t', k1, k2, k3, k4, k5, k6, k7, k8⟩ := p3 q q1 q2
      exact ⟨B', h', t', k1, by rw [hy2 18 q (by omega), k2], by rw [hy2 19 q (by omega), k3], by rw [hy2 20 q (by omega), k4], by rw [hy2 21 q (by omega), k5], k6, k7, k8⟩
    have stay : (q_ft m (m 15) p a = true → kOf (m17 x) (m18 x) p < kOf (m17 x) (m18 x) B ∧ B ≠ 24) → CJ m a x y1 p := fun hno => by
      refine ⟨B, hh, tt, ?_, f3, f4, f5, f6, j6, j7, j8⟩
      rcases j1 with ⟨b1, b2⟩ | ⟨b1, b2, b3⟩
      · refine Or.inl ⟨b1, fun q hq hpq => ?_⟩
        by_cases e : q = p
        · subst e; exact (hno hpq.2).2 b1
        · exact b2 q hq ⟨by omega, hpq.2⟩
      · refine Or.inr ⟨b1, ⟨by omega, b2.2⟩, fun q hq hpq => ?_⟩
        by_cases e : q = p
        · subst e; exact Or.inl (hno hpq.2).1
        · exact b3 q hq ⟨by omega, hpq.2⟩
    rw [fits_c Ry hpn ha, bd1_s]
    unfold mX0_find_128
    rw [add_m1, show q_np m - (i + 1) = p from by omega, li_1]
    simp only [bI_if]
    have p1' : ∀ y2 : Mm, (∀ k, k ≠ 18 → k ≠ 19 → k ≠ 20 → k ≠ 21 → y2 k = y k) → ∀ k, k ≠ 18 → k ≠ 19 → k ≠ 20 → k ≠ 21 → y2 k = c k := fun y2 h k k1 k2 k3 k4 => by rw [h k k1 k2 k3 k4, p1 k k1 k2 k3 k4]
    cases hft : q_ft m (m 15) p a with
    | false =>
      rw [if_neg (by decide)]
      refine ⟨y1, rfl, p1' y1 f1, fun q q1 q2 => ?_⟩
      by_cases e : q = p
      · subst e; exact stay (fun z => by rw [hft] at z; cases z)
      · exact keep y1 f2 q (by omega) q2
    | true =>
      rw [if_pos rfl]
      obtain ⟨t, t1, t2, t3, t4⟩ := next_c Ry hpn ha
      rw [t3]
      obtain ⟨Bn, hn, tn, n1, n2, n3, n4, n5, n6, n7, n8⟩ := p3 t (by omega) t2
      obtain ⟨r1, r2, r3, r4, r5, r6, r7, r8⟩ := hx p hpn
      have hBn : m19 x p = Bn := by
        refine bst_u h0 (bst_c r1 (fun q hq => ?_) (fun _ _ _ => rfl)) n1
        constructor
        · rintro ⟨u1, u2, u3⟩; exact ⟨(t4 q (by omega) hq).mp u3, u2⟩
        · rintro ⟨u1, u2⟩; exact ⟨by omega, u2, (t4 q (by omega) hq).mpr u1⟩
      rw [hBn] at r5 r6
      unfold mX0_tryHead_34 mX0_tryHead_97
      simp (disch := omega) only [mlet_s, gIn_nI, cl_n]
      rw [f1 9 (by decide) (by decide) (by decide) (by decide), p1 9 (by decide) (by decide) (by decide) (by decide), (R.cpa hpn).2.2.2.2.1, f2 18 t (by omega), f2 19 t (by omega), n2, n3, nI_add, li_1, nI_add, ← r5, ← r6, f3, f4]
      simp (disch := omega) only [nz_lt, nz_eq]
      have take : kOf (m17 x) (m18 x) B ≤ kOf (m17 x) (m18 x) p → ∃ x', bdh (some (wr (wr (wr (wr y1 18 p (nI (m17 x p))) 19 p (nI (m18 x p))) 20 p (nI p)) 21 p (nI t))) (fun h14 => mX0_find_41 n (nI a) (nI p - nI 1) h14) = mX0_find_41 n (nI a) (nI p - nI 1) x' ∧ (∀ k, k ≠ 18 → k ≠ 19 → k ≠ 20 → k ≠ 21 → x' k = c k) ∧ ∀ q, p ≤ q → q ≤ q_np m → CJ m a x x' q := fun hle => by
        refine ⟨_, bdh_s _ _, p1' _ (fun k k1 k2 k3 k4 => by rw [wr_cell _ _ _ k4, wr_cell _ _ _ k3, wr_cell _ _ _ k2, wr_cell _ _ _ k1, f1 k k1 k2 k3 k4]), fun q q1 q2 => ?_⟩
        by_cases e : q = p
        · subst e
          refine ⟨q, q, t, ?_, ?_, ?_, ?_, wr_same _ _ _ _, by omega, t2, fun _ => ⟨rfl, by rw [hBn]; exact n1⟩⟩
          · refine Or.inr ⟨hpn, ⟨Nat.le_refl _, hft⟩, fun k hk hkk => ?_⟩
            by_cases e2 : k = q
            · subst e2; exact Or.inr ⟨rfl, Nat.le_refl _⟩
            · rcases j1 with ⟨b1, b2⟩ | ⟨b1, b2, b3⟩
              · exact absurd ⟨by omega, hkk.2⟩ (b2 k hk)
              · have := b3 k hk ⟨by omega, hkk.2⟩
                omega
          · rw [wr_cell _ _ _ (by decide), wr_cell _ _ _ (by decide), wr_cell _ _ _ (by decide), wr_same]
          · rw [wr_cell _ _ _ (by decide), wr_cell _ _ _ (by decide), wr_same]
          · rw [wr_cell _ _ _ (by decide), wr_same]
        · refine keep _ (fun k j hj => ?_) q (by omega) q2
          rw [wr_if, if_neg (fun z => hj z.2), wr_if, if_neg (fun z => hj z.2), wr_if, if_neg (fun z => hj z.2), wr_if, if_neg (fun z => hj z.2), f2 k j hj]
      have leave : kOf (m17 x) (m18 x) p < kOf (m17 x) (m18 x) B → ∃ x', bdh (some y1) (fun h14 => mX0_find_41 n (nI a) (nI p - nI 1) h14) = mX0_find_41 n (nI a) (nI p - nI 1) x' ∧ (∀ k, k ≠ 18 → k ≠ 19 → k ≠ 20 → k ≠ 21 → x' k = c k) ∧ ∀ q, p ≤ q → q ≤ q_np m → CJ m a x x' q := fun hlt => by
        refine ⟨y1, bdh_s _ _, p1' y1 f1, fun q q1 q2 => ?_⟩
        by_cases e : q = p
        · subst e
          refine stay (fun _ => ⟨hlt, fun z => ?_⟩)
          subst z
          unfold kOf at hlt
          rw [hz.1, hz.2] at hlt
          omega
        · exact keep y1 f2 q (by omega) q2
      by_cases k1 : m17 x B < m17 x p
      · rw [if_pos k1]
        exact take (by unfold kOf; omega)
      · rw [if_neg k1]
        by_cases k2 : m17 x p = m17 x B
        · rw [if_pos k2]
          by_cases k3 : m18 x B < m18 x p
          · rw [if_pos k3]
            exact leave (by unfold kOf; omega)
          · rw [if_neg k3]
            exact take (by unfold kOf; omega)
        · rw [if_neg k2]
          exact leave (by unfold kOf; omega)
  · refine ⟨fun k k1 k2 k3 k4 => by rw [wr_cell _ _ _ k4, wr_cell _ _ _ k3, wr_cell _ _ _ k2, wr_cell _ _ _ k1], fun q q1 q2 => ?_⟩
    have : q = q_np m := by omega
    subst this
    refine ⟨24, q_np m, q_np m, Or.inl ⟨rfl, fun q hq z => by omega⟩, ?_, ?_, ?_, wr_same _ _ _ _, by omega, Nat.le_refl _, fun z => by omega⟩
    · rw [wr_cell _ _ _ (by decide), wr_cell _ _ _ (by decide), wr_cell _ _ _ (by decide), wr_same, hz.1]; rfl
    · rw [wr_cell _ _ _ (by decide), wr_cell _ _ _ (by decide), wr_same, hz.2]; rfl
    · rw [wr_cell _ _ _ (by decide), wr_same]
theorem mem_m {a : Nat} {x : Mm} (h0 : q_np m ≤ 24) (h24 : RO24 x) (hx : ∀ q, q < q_np m → RO m a x q) {k : Nat} (hk : k < 2147483648) : ∀ (n i p : Nat), (p = 24 ∨ p < q_np m) → i ≤ k → m18 x p < n → mX11_best_56 n (nI k) (nI p) (nI i) x = some ((if k - i < m18 x p then nI (it1 (m19 x) (k - i) p) else -4), x) := by
  have hz := RO.z h24
  intro n
  induction n with
  | zero => intro i p _ _ h; omega
  | succ n ih =>
    intro i p hp hi hf
    rw [mX11_best_56]
    unfold mX11_best_81
    have hp24 : p ≤ 24 := by omega
    simp (disch := omega) only [li_24, nz_le]
    rcases hp with hp | hp
    · subst hp
      rw [hz.2, if_pos (Nat.le_refl 24), if_pos (Nat.le_refl 24), ite_self, if_neg (by omega)]
    · obtain ⟨r1, r2, r3, r4, r5, r6, r7, r8⟩ := hx p hp
      by_cases e : k ≤ i
      · have : k - i = 0 := by omega
        rw [if_pos e, if_neg (by omega), this, if_pos (by omega)]; rfl
      · have hne : m19 x p = 24 ∨ m19 x p < q_np m := by
          rcases r1 with ⟨b1, _⟩ | ⟨b1, _⟩
          · exact Or.inl b1
          · exact Or.inr b1
        rw [if_neg e, if_neg (by omega), gIn_nI (by omega) (by omega), cl_n (by omega), r4, mlet_s, ad_1, ih (i + 1) (m19 x p) hne (by omega) (by omega)]
        have es : k - i = (k - (i + 1)) + 1 := by omega
        rw [es, it1]
        by_cases h : k - (i + 1) < m18 x (m19 x p)
        · rw [if_pos h, if_pos (by omega)]
        · rw [if_neg h, if_neg (by omega)]
theorem mem_c {a : Nat} {x y : Mm} (h0 : q_np m ≤ 24) (h24 : RO24 x) (hx : ∀ q, q < q_np m → RO m a x q) (hy : ∀ q, q ≤ q_np m → CJ m a x y q) {k : Nat} (hk : k < 25) : ∀ (n i f p : Nat), f ≤ q_np m → IsBst (q_np m) (fun q => f ≤ q ∧ q_ft m (m 15) q a = true) (kOf (m17 x) (m18 x)) p → i ≤ k → k - i < m18 x p → k - i < n → mX0_member_21 y n (nI k) (nI f) (nI i) = some (nI (it1 (m19 x) (k - i) p)) := by
  have hz := RO.z h24
  intro n
  induction n with
  | zero => intro i f p _ _ _ _ h; omega
  | succ n ih =>
    intro i f p hf hB hi hr hn
    obtain ⟨B, h, t, j1, j2, j3, j4, j5, j6, j7, j8⟩ := hy f hf
    have : B = p := bst_u h0 j1 hB
    subst this
    have hBn : B < q_np m := by
      rcases j1 with ⟨b1, _⟩ | ⟨b1, _⟩
      · subst b1; omega
      · exact b1
    obtain ⟨k1, k2⟩ := j8 hBn
    obtain ⟨r1, r2, r3, r4, r5, r6, r7, r8⟩ := hx B hBn
    rw [mX0_member_21, gIn_nI (by omega) (by omega), gIn_nI (by omega) (by omega), cl_n (by omega), j4, j5, mlet_s, k1]
    simp (disch := omega) only [nz_le]
    by_cases e : k ≤ i
    · have : k - i = 0 := by omega
      rw [if_pos e, this]; rfl
    · have es : k - i = (k - (i + 1)) + 1 := by omega
      rw [if_neg e, ad_1, ih (i + 1) t (m19 x B) j7 k2 (by omega) (by omega) (by omega), es, it1]
theorem go_best (R : RC c m) (x y : Int32) : ∃ v c1 m1, mX10_best c x y = some (v, c1) ∧ mX11_best m x y = some (v, m1) ∧ (∀ k, k ≠ 18 → k ≠ 19 → k ≠ 20 → k ≠ 21 → c1 k = c k) ∧ (∀ k, k ≠ 17 → k ≠ 18 → k ≠ 19 → m1 k = m k) := by
  have RR := R.2.1
  have h0 := RR.np; have h1 := RR.na; have h2 := RR.ns
  unfold mX10_best mX11_best
  rw [has42 RR x, isA_m RR x]
  simp only [bd1_s, bI_if]
  rcases inB_c x (n := q_na m) (by omega) with hx | ⟨a, ha, rfl⟩
  · rw [hx]; exact ⟨-1, c, m, rfl, rfl, fun _ _ _ _ _ => rfl, fun _ _ _ _ => rfl⟩
  rw [inB_t ha (by omega), if_pos rfl, if_pos rfl]
  by_cases hy : (-2 : Int32) ≤ y
  case neg => rw [if_neg hy, if_neg hy]; exact ⟨-1, c, m, rfl, rfl, fun _ _ _ _ _ => rfl, fun _ _ _ _ => rfl⟩
  rw [if_pos hy, if_pos hy]
  obtain ⟨m1, e1, e2, e3, e4⟩ := bests_m RR ha
  obtain ⟨c1, f1, f2, f3⟩ := chain_c RR ha e3 e4
  rw [e1, f1, bdh_s, bdh_s]
  have hz := RO.z e3
  obtain ⟨B, b1, b2, b3⟩ := bb_m RR (a := a) (s := 0) (x2 := -1) (G := fun _ => true) (x := m1) ha (by omega) (fun k hk => e2 k (by omega) (by omega) (by omega)) (Or.inl ⟨by decide, fun _ => rfl⟩)
    (fun q hq => by
      rcases hq with ⟨q1, q2⟩ | q1
      · obtain ⟨_, a2, a3, _, _, _, a7, a8⟩ := e4 q q2
        exact ⟨a2, a3, by omega, by omega⟩
      · subst q1
        exact ⟨by rw [hz.1, e3.1]; rfl, by rw [hz.2, e3.2]; rfl, by omega, by omega⟩) hz
    (fun q q1 q2 => by
      obtain ⟨_, _, _, _, a5, _⟩ := e4 q q2
      have := (RR.pb q2).2.2.2.2.1
      omega)
  have hbb : mX11_bestBehind m1 (nI a) (-1) = some (nI B) := by
    unfold mX11_bestBehind
    exact b1
  have b2' : IsBst (q_np m) (fun p => 0 ≤ p ∧ q_ft m (m 15) p a = true) (kOf (m17 m1) (m18 m1)) B := bst_c b2 (fun q hq => ⟨fun z => ⟨z.1, z.2.1⟩, fun z => ⟨z.1, z.2, rfl⟩⟩) (fun _ _ _ => rfl)
  obtain ⟨B', hh, tt, j1, j2, j3, j4, j5, j6, j7, j8⟩ := f3 0 (by omega)
  have : B' = B := bst_u h0 j1 b2'
  subst this
  have hBB : B' = 24 ∨ B' < q_np m := by
    rcases b2 with ⟨b1, _⟩ | ⟨b1, _⟩
    · exact Or.inl b1
    · exact Or.inr b1
  have hBv : (m18 m1 B' ≤ 24) ∧ m1 17 B' = nI (m17 m1 B') ∧ m1 18 B' = nI (m18 m1 B') := by
    rcases hBB with h | h
    · subst h
      exact ⟨by omega, by rw [hz.1, e3.1]; rfl, by rw [hz.2, e3.2]; rfl⟩
    · obtain ⟨_, a2, a3, _, _, _, a7, a8⟩ := e4 B' h
      exact ⟨by omega, a2, a3⟩
  have g0 : ∀ {α : Type} (X : Option α), gIn (0 : Int32) 25 X = X := fun X => rfl
  rw [hbb, bd1_s]
  simp only [g0, cl_0]
  rw [gIn_nI (by omega) (by omega), gIn_nI (by omega) (by omega), cl_n (by omega), hBv.2.1, hBv.2.2, j2, j3]
  have fin : ∀ v : Int32, ∃ v' c2 m2, some (v, c1) = some (v', c2) ∧ some (v, m1) = some (v', m2) ∧ (∀ k, k ≠ 18 → k ≠ 19 → k ≠ 20 → k ≠ 21 → c2 k = c k) ∧ (∀ k, k ≠ 17 → k ≠ 18 → k ≠ 19 → m2 k = m k) := fun v => ⟨v, c1, m1, rfl, rfl, f2, e2⟩
  by_cases d2 : y = -2
  · subst d2
    rw [if_pos rfl, if_neg (by decide), if_neg (by decide)]
    exact fin _
  rw [if_neg d2]
  by_cases d1 : y = -1
  · subst d1
    rw [if_pos rfl, if_neg (by decide), if_pos rfl]
    exact fin _
  rw [if_neg d1]
  have hy0 : ¬ y < 0 := by
    rw [i32_le, show (-2 : Int32).toInt = -2 from by decide] at hy
    have n2 : y.toInt ≠ -2 := fun z => d2 (Int32.toInt_inj.mp (by rw [z]; decide))
    have n1 : y.toInt ≠ -1 := fun z => d1 (Int32.toInt_inj.mp (by rw [z]; decide))
    rw [i32_lt, Int32.toInt_zero]
    omega
  obtain ⟨k, hk, rfl⟩ := nI_of hy0
  have hmm := mem_m h0 e3 e4 hk FU 0 B' hBB (by omega) (fu_lt (by omega))
  rw [if_pos (nI_pos' hk), show mX11_best_56 FU (nI k) (nI B') 0 m1 = _ from hmm]
  unfold mX0_member
  simp only [g0, cl_0]
  rw [if_neg hy0]
  have hk18 : m18 m1 B' ≤ 24 := hBv.1
  simp (disch := omega) only [j3, Nat.sub_zero, nz_lt]
  by_cases hl : k < m18 m1 B'
  · have := mem_c (k := k) h0 e3 e4 f3 (by omega) FU 0 0 B' (by omega) b2' (by omega) (by omega) (fu_lt (by omega))
    rw [if_pos hl, if_pos hl]
    rw [show mX0_member_21 c1 FU (nI k) 0 0 = some (nI (it1 (m19 m1) (k - 0) B')) from this, Nat.sub_zero, bd1_s]
    exact fin _
  · rw [if_neg hl, if_neg hl, bd1_s]
    exact fin _
end EV
