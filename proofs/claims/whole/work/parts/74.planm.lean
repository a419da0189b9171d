/-! PURE LAYER 14: plans of the reference -/
def zI (z : Int) : Int32 := Int32.ofInt z
theorem zi_t {z : Int} (h1 : -2147483648 ≤ z) (h2 : z < 2147483648) : (zI z).toInt = z := fb_ofI h1 h2
theorem zi_n {n : Nat} (h : n < 2147483648) : nI n = zI (n : Int) := by
  apply Int32.toInt_inj.mp
  rw [nI_toInt h, zi_t (by omega) (by omega)]
theorem zi_neg {n : Nat} (h : n < 2147483648) : -(nI n) = zI (-(n : Int)) := by
  apply Int32.toInt_inj.mp
  rw [zi_t (by omega) (by omega), fb_negI (by rw [nI_toInt h]; omega), nI_toInt h]
theorem zi_eq {a b : Int} (h1 : -2147483648 ≤ a) (h2 : a < 2147483648) (h3 : -2147483648 ≤ b) (h4 : b < 2147483648) : (zI a = zI b) = (a = b) := propext (by
  rw [← Int32.toInt_inj, zi_t h1 h2, zi_t h3 h4])
theorem zi_le {a b : Int} (h1 : -2147483648 ≤ a) (h2 : a < 2147483648) (h3 : -2147483648 ≤ b) (h4 : b < 2147483648) : (zI a ≤ zI b) = (a ≤ b) := propext (by
  rw [i32_le, zi_t h1 h2, zi_t h3 h4])
theorem zi_lt {a b : Int} (h1 : -2147483648 ≤ a) (h2 : a < 2147483648) (h3 : -2147483648 ≤ b) (h4 : b < 2147483648) : (zI a < zI b) = (a < b) := propext (by
  rw [i32_lt, zi_t h1 h2, zi_t h3 h4])
theorem zi_ad {a b : Int} (h1 : -1073741824 ≤ a) (h2 : a ≤ 1073741824) (h3 : -1073741824 ≤ b) (h4 : b < 1073741824) : zI a + zI b = zI (a + b) := by
  apply Int32.toInt_inj.mp
  rw [fb_addI (by rw [zi_t (by omega) (by omega), zi_t (by omega) (by omega)]; omega) (by rw [zi_t (by omega) (by omega), zi_t (by omega) (by omega)]; omega), zi_t (by omega) (by omega), zi_t (by omega) (by omega), zi_t (by omega) (by omega)]
section EV
variable {c m c' m' : Mm}
theorem SM.o1 (h : SM m m') : q_o1 m' = q_o1 m := by
  obtain ⟨a1, a2, a3, a4, a5, a6, a7, a8, a9, a10, a11, a12⟩ := h.q
  funext o r p; unfold q_o1; rw [a3, a4, a10, h.ft, h.tg, h.ov]
theorem ls_cong {B B' : Nat → Bool} (h : ∀ p, p < q_np m → B p = B' p) : q_ls m B = q_ls m B' := by
  unfold q_ls; rw [en_cong h]
/-- whether a window is a way -/
theorem way_m (R : RW c m) {f n : Nat} (hfn : f + n ≤ q_np m) (hr : ∀ p, p < q_np m → m 20 p = -4 ∨ ∃ a, a < q_na m ∧ m 20 p = nI a) : ∃ b, mX11_isWay m (nI f) (nI n) = some (bI b) ∧ (b = true ↔ ∀ p, f ≤ p → p < f + n → q_o1 m (m 15) (m 20) p) := by
  have h0 := R.np; have h1 := R.na; have h2 := R.ns
  have inner : ∀ (k2 : Int32 → Int32 → Int32 → Option Int32) (p a : Nat), p < q_np m → a < q_na m → m 20 p = nI a → ∀ fu j, j ≤ q_np m → q_np m - j < fu → (∀ q, q < j → q ≠ p → (m 20 q = nI a → q_tg m p q a = true) ∧ (q_co (m 20) q = true → q_wh m q = q_wh m p → q_ov m p q = false)) →
      (mX11_isWay_39 m k2 fu (nI f) (nI n) (nI p) (nI j) = k2 (nI f) (nI n) (nI (p + 1)) ∧ ∀ q, q < q_np m → q ≠ p → (m 20 q = nI a → q_tg m p q a = true) ∧ (q_co (m 20) q = true → q_wh m q = q_wh m p → q_ov m p q = false)) ∨
      (mX11_isWay_39 m k2 fu (nI f) (nI n) (nI p) (nI j) = some 0 ∧ ¬ ∀ q, q < q_np m → q ≠ p → (m 20 q = nI a → q_tg m p q a = true) ∧ (q_co (m 20) q = true → q_wh m q = q_wh m p → q_ov m p q = false)) := by
    intro k2 p a hp ha e fu
    induction fu with
    | zero => intro j _ h; omega
    | succ fu ih =>
      intro j hj hf hlow
      by_cases ej : j = q_np m
      · refine Or.inl ⟨?_, fun q hq => hlow q (by omega)⟩
        rw [mX11_isWay_39, R.mnp, if_pos (nI_le (by omega) (by omega))]
        unfold mX11_isWay_162
        rw [ad_1]
      · have hjn : j < q_np m := by omega
        have hw1 := (R.pb hp).2.2.1
        have hw2 := (R.pb hjn).2.2.1
        have step : mX11_isWay_39 m k2 (fu + 1) (nI f) (nI n) (nI p) (nI j) = if (j ≠ p → (m 20 j = nI a → q_tg m p j a = true) ∧ (q_co (m 20) j = true → q_wh m j = q_wh m p → q_ov m p j = false)) then mX11_isWay_39 m k2 fu (nI f) (nI n) (nI p) (nI (j + 1)) else some 0 := by
          have h142 : ∀ b1 b2 : Bool, mX11_isWay_142 m k2 (mX11_isWay_39 m k2 fu) (nI f) (nI n) (nI p) (nI j) (bI b1) (bI b2) = if (b1 || b2) = true then some 0 else mX11_isWay_39 m k2 fu (nI f) (nI n) (nI p) (nI (j + 1)) := fun b1 b2 => by
            unfold mX11_isWay_142
            rw [ad_1]
            cases b1 <;> cases b2 <;> rfl
          have tco : q_co (m 20) j = decide (m 20 j ≠ -4) := rfl
          have h91 : ∀ b1 : Bool, mX11_isWay_91 m k2 (mX11_isWay_39 m k2 fu) (nI f) (nI n) (nI p) (nI j) (bI b1) = if (b1 || (decide (j ≠ p) && (q_co (m 20) j && (decide (q_wh m j = q_wh m p) && q_ov m p j)))) = true then some 0 else mX11_isWay_39 m k2 fu (nI f) (nI n) (nI p) (nI (j + 1)) := fun b1 => by
            have f0 := h142 b1 false
            have f1 := h142 b1 true
            rw [show bI false = 0 from rfl] at f0
            rw [show bI true = 1 from rfl] at f1
            unfold mX11_isWay_91 mX11_isWay_141
            rw [gIn_nI (by omega) (by omega), gIn_nI (by omega) (by omega), gIn_nI (by omega) (by omega), cl_n (by omega), cl_n (by omega), f0, f1, ov_m R hjn hp, (R.pas hp).2.2.1, (R.pas hjn).2.2.1, ov_sym m j p, bd1_s, tco]
            simp (disch := omega) only [nz_eq, bI_if]
            by_cases d1 : j = p
            · rw [if_pos d1, decide_eq_false (fun z => z d1), Bool.false_and]
            · rw [if_neg d1, decide_eq_true d1, Bool.true_and]
              by_cases d3 : m 20 j = -4
              · rw [if_pos d3, decide_eq_false (fun z => z d3), Bool.false_and]
              · rw [if_neg d3, decide_eq_true d3, Bool.true_and]
                by_cases d4 : q_wh m j = q_wh m p
                · rw [if_pos d4, decide_eq_true d4, Bool.true_and]
                  cases q_ov m p j <;> rfl
                · rw [if_neg d4, decide_eq_false d4, Bool.false_and]
          have g0 := h91 false
          have g1 := h91 true
          rw [show bI false = 0 from rfl] at g0
          rw [show bI true = 1 from rfl] at g1
          rw [mX11_isWay_39, R.mnp, if_neg (nI_ge hjn (by omega))]
          unfold mX11_isWay_90
          rw [gIn_nI (by omega) (by omega), gIn_nI (by omega) (by omega), gIn_nI (by omega) (by omega), cl_n (by omega), cl_n (by omega), e, tog_m R hjn hp ha, bd1_s, tg_sym m j p a, g0, g1]
          simp (disch := omega) only [nz_eq, bI_if]
          have tc2 : (q_co (m 20) j = true) = ¬ (m 20 j = -4) := by unfold q_co; simp
          by_cases d1 : j = p
          · rw [if_pos d1, if_pos (fun z => absurd d1 z), decide_eq_false (fun z => z d1)]; rfl
          · rw [if_neg d1, decide_eq_true d1]
            by_cases d2 : m 20 j = nI a
            · rw [if_pos d2]
              cases h1t : q_tg m p j a with
              | false => rw [if_neg (by decide), if_pos (by rfl), if_neg (fun z => by have := (z d1).1 d2; cases this)]
              | true =>
                rw [if_pos rfl]
                by_cases d5 : q_co (m 20) j = true ∧ q_wh m j = q_wh m p ∧ q_ov m p j = true
                · rw [if_pos (by rw [d5.1, d5.2.2, decide_eq_true d5.2.1]; rfl), if_neg (fun z => by have := (z d1).2 d5.1 d5.2.1; rw [d5.2.2] at this; cases this)]
                · rw [if_neg, if_pos]
                  · exact fun _ => ⟨fun _ => rfl, fun z1 z2 => by
                      cases ho : q_ov m p j with
                      | false => rfl
                      | true => exact absurd ⟨z1, z2, ho⟩ d5⟩
                  · intro z
                    apply d5
                    simpa [Bool.and_eq_true] using z
            · rw [if_neg d2]
              by_cases d5 : q_co (m 20) j = true ∧ q_wh m j = q_wh m p ∧ q_ov m p j = true
              · rw [if_pos (by rw [d5.1, d5.2.2, decide_eq_true d5.2.1]; rfl), if_neg (fun z => by have := (z d1).2 d5.1 d5.2.1; rw [d5.2.2] at this; cases this)]
              · rw [if_neg, if_pos]
                · exact fun _ => ⟨fun z => absurd z d2, fun z1 z2 => by
                    cases ho : q_ov m p j with
                    | false => rfl
                    | true => exact absurd ⟨z1, z2, ho⟩ d5⟩
                · intro z
                  apply d5
                  simpa [Bool.and_eq_true] using z
        rw [step]
        by_cases hc : j ≠ p → (m 20 j = nI a → q_tg m p j a = true) ∧ (q_co (m 20) j = true → q_wh m j = q_wh m p → q_ov m p j = false)
        · rw [if_pos hc]
          refine ih (j + 1) (by omega) (by omega) (fun q hq hne => ?_)
          by_cases e2 : q = j
          · subst e2; exact hc hne
          · exact hlow q (by omega) hne
        · rw [if_neg hc]
          exact Or.inr ⟨rfl, fun z => hc (z j hjn)⟩
  have outer : ∀ fu i, f ≤ i → i ≤ f + n → f + n - i < fu → (∀ p, f ≤ p → p < i → q_o1 m (m 15) (m 20) p) → ∃ b, mX11_isWay_2 m fu (nI f) (nI n) (nI i) = some (bI b) ∧ (b = true ↔ ∀ p, f ≤ p → p < f + n → q_o1 m (m 15) (m 20) p) := by
    intro fu
    induction fu with
    | zero => intro i _ _ h; omega
    | succ fu ih =>
      intro i hfi hi hf hlow
      by_cases ei : i = f + n
      · refine ⟨true, ?_, fun _ p p1 p2 => hlow p p1 (by omega), fun _ => rfl⟩
        rw [mX11_isWay_2, nI_add, if_pos (nI_le (by omega) (by omega))]
        rfl
      · have hin : i < q_np m := by omega
        rw [mX11_isWay_2, nI_add, if_neg (nI_ge (by omega) (by omega)), gIn_nI (by omega) (by omega), cl_n (by omega)]
        unfold mX11_isWay_162
        rw [ad_1]
        rcases hr i hin with h4 | ⟨a, ha, h4⟩
        · rw [if_pos h4]
          refine ih (i + 1) (by omega) (by omega) (by omega) (fun p p1 p2 => ?_)
          by_cases e2 : p = i
          · subst e2
            intro a ea ha
            rw [h4] at ea
            exact absurd ea.symm (by rw [nz_m4 (by omega)]; exact id)
          · exact hlow p p1 (by omega)
        · have n4 : ¬ nI a = (-4 : Int32) := by rw [nz_m4 (by omega)]; exact id
          rw [h4, if_neg n4, gIn_nI (by omega) (by omega), fits_m R hin ha, bd1_s]
          simp only [bI_if]
          cases hft : q_ft m (m 15) i a with
          | false =>
            rw [if_neg (by decide)]
            refine ⟨false, rfl, fun z => (by cases z), fun z => ?_⟩
            have := (z i hfi (by omega) a h4 ha).1
            rw [hft] at this
            cases this
          | true =>
            rw [if_pos rfl]
            rcases inner (mX11_isWay_2 m fu) i a hin ha h4 FU 0 (by omega) (fu_lt (by omega)) (fun q hq => by omega) with ⟨e1, e2⟩ | ⟨e1, e2⟩
            · rw [show mX11_isWay_39 m (mX11_isWay_2 m fu) FU (nI f) (nI n) (nI i) 0 = _ from e1]
              refine ih (i + 1) (by omega) (by omega) (by omega) (fun p p1 p2 => ?_)
              by_cases e3 : p = i
              · subst e3
                intro a' ea ha'
                rw [h4] at ea
                have := nI_inj4 (by omega) (by omega) ea
                subst this
                exact ⟨hft, e2⟩
              · exact hlow p p1 (by omega)
            · rw [show mX11_isWay_39 m (mX11_isWay_2 m fu) FU (nI f) (nI n) (nI i) 0 = _ from e1]
              refine ⟨false, rfl, fun z => (by cases z), fun z => ?_⟩
              exact absurd (z i hfi (by omega) a h4 ha).2 e2
  exact outer FU f (Nat.le_refl _) (by omega) (fu_lt (by omega)) (fun p p1 p2 => by omega)
/-- the window's figures are written, from the last to the first -/
theorem dig_m (R : RW c m) {f cc law codes n X : Nat} {k82 : Int32 → Int32 → Int32 → Int32 → Int32 → Int32 → Mm → Option Mm} {x : Mm} (hfn : f + n ≤ q_np m) (hn : n ≤ 6) (hX : X < 20000) (hx : ∀ k, k < 20 → x k = m k) :
    ∃ fu lf y, mX11_plans_105 k82 FU (nI law) (nI f) (nI cc) (nI n) (nI codes) (nI X) (nI X) 0 0 (nI n - 1) x = mX11_plans_105 k82 (fu + 1) (nI law) (nI f) (nI cc) (nI n) (nI codes) (nI X) lf (nI (w_ct (w_dg (q_na m + 1) n X) n)) (nI (w_ch m f (w_dg (q_na m + 1) n X) n)) (-1) y ∧ (∀ k, k ≠ 20 → y k = x k) ∧ (∀ p, ¬ (f ≤ p ∧ p < f + n) → y 20 p = x 20 p) ∧ ∀ k, k < n → y 20 (f + k) = w_v (w_dg (q_na m + 1) n X k) := by
  have h0 := R.np; have h1 := R.na
  refine lo_up (fun u i (s : Nat × Nat × Nat × Mm) => mX11_plans_105 k82 u (nI law) (nI f) (nI cc) (nI n) (nI codes) (nI X) (nI s.1) (nI s.2.1) (nI s.2.2.1) (nI (n - i) - 1) s.2.2.2)
    (fun z => ∃ fu lf y, z = mX11_plans_105 k82 (fu + 1) (nI law) (nI f) (nI cc) (nI n) (nI codes) (nI X) lf (nI (w_ct (w_dg (q_na m + 1) n X) n)) (nI (w_ch m f (w_dg (q_na m + 1) n X) n)) (-1) y ∧ (∀ k, k ≠ 20 → y k = x k) ∧ (∀ p, ¬ (f ≤ p ∧ p < f + n) → y 20 p = x 20 p) ∧ ∀ k, k < n → y 20 (f + k) = w_v (w_dg (q_na m + 1) n X k))
    (fun i s => s.1 = X / (q_na m + 1) ^ i ∧ s.2.1 = fb_ct (fun j => decide (X / (q_na m + 1) ^ j % (q_na m + 1) ≠ 0)) i ∧ s.2.2.1 = fb_ct (fun j => decide (w_v (X / (q_na m + 1) ^ j % (q_na m + 1)) ≠ m 15 (f + (n - 1 - j)))) i ∧ (∀ k, k ≠ 20 → s.2.2.2 k = x k) ∧ (∀ p, ¬ (f + (n - i) ≤ p ∧ p < f + n) → s.2.2.2 20 p = x 20 p) ∧ ∀ j, j < i → s.2.2.2 20 (f + (n - 1 - j)) = w_v (X / (q_na m + 1) ^ j % (q_na m + 1)))
    n (fun u s hP => ?_) (fun u i s hi hP => ?_) FU 0 (X, 0, 0, x) (by omega) (fu_lt (by omega)) ⟨by rw [Nat.pow_zero, Nat.div_one], rfl, rfl, fun _ _ => rfl, fun _ _ => rfl, fun j hj => by omega⟩
  · obtain ⟨p1, p2, p3, p4, p5, p6⟩ := hP
    refine ⟨u, nI s.1, s.2.2.2, ?_, p4, fun p hp => p5 p (by omega), fun k hk => ?_⟩
    · rw [Nat.sub_self, show nI 0 - 1 = (-1 : Int32) from rfl]
      have e1 : w_ct (w_dg (q_na m + 1) n X) n = s.2.1 := by
        rw [p2]
        unfold w_ct
        rw [← ct_rev]
        exact fb_ct_cong (fun j hj => by unfold w_dg; rw [show n - 1 - (n - 1 - j) = j from by omega])
      have e2 : w_ch m f (w_dg (q_na m + 1) n X) n = s.2.2.1 := by
        rw [p3]
        unfold w_ch
        rw [← ct_rev]
        exact fb_ct_cong (fun j hj => by unfold w_dg; rw [show n - 1 - (n - 1 - j) = j from by omega])
      rw [e1, e2]
    · have := p6 (n - 1 - k) (by omega)
      rw [show n - 1 - (n - 1 - k) = k from by omega] at this
      rw [this]
      rfl
  · obtain ⟨s1, s2, s3, y⟩ := s
    obtain ⟨p1, p2, p3, p4, p5, p6⟩ := hP
    simp only at p1 p2 p3 p4 p5 p6
    have hs1 : s1 ≤ X := by rw [p1]; exact Nat.div_le_self _ _
    have q2 : s2 ≤ i := by rw [p2]; exact fb_ct_le _ _
    have q3 : s3 ≤ i := by rw [p3]; exact fb_ct_le _ _
    have hd : s1 % (q_na m + 1) < q_na m + 1 := Nat.mod_lt _ (by omega)
    have h15 : y 15 = m 15 := by rw [p4 15 (by decide), hx 15 (by decide)]
    have h5 : y 5 2 = nI (q_na m) := by rw [p4 5 (by decide), hx 5 (by decide), R.mna]
    have hval : ∀ {α : Type} (g : Int32 → α), (if (0 : Int32) ≤ nI (s1 % (q_na m + 1)) - 1 then g (nI (s1 % (q_na m + 1)) - 1) else g (-4)) = g (w_v (s1 % (q_na m + 1))) := fun g => by
      unfold w_v
      by_cases z : s1 % (q_na m + 1) = 0
      · rw [z, if_neg (by decide), if_pos rfl]
      · rw [li_1, pk_sub (by omega), if_pos (nI_pos' (by omega)), if_neg z]
    have hflag : ∀ {α : Type} (A B : α), (if (0 : Int32) ≤ nI (s1 % (q_na m + 1)) - 1 then A else B) = if s1 % (q_na m + 1) ≠ 0 then A else B := fun A B => by
      by_cases z : s1 % (q_na m + 1) = 0
      · rw [z, if_neg (by decide), if_neg (by omega)]
      · rw [li_1, pk_sub (by omega), if_pos (nI_pos' (by omega)), if_pos z]
    refine ⟨(s1 / (q_na m + 1), s2 + (if s1 % (q_na m + 1) ≠ 0 then 1 else 0), s3 + (if w_v (s1 % (q_na m + 1)) ≠ m 15 (f + (n - 1 - i)) then 1 else 0), wr y 20 (f + (n - 1 - i)) (w_v (s1 % (q_na m + 1)))), ?_, ?_, ?_, ?_, fun k hk => ?_, fun p hp => ?_, fun j hj => ?_⟩
    · show mX11_plans_105 k82 (u + 1) (nI law) (nI f) (nI cc) (nI n) (nI codes) (nI X) (nI s1) (nI s2) (nI s3) (nI (n - i) - 1) y = mX11_plans_105 k82 u (nI law) (nI f) (nI cc) (nI n) (nI codes) (nI X) _ _ _ _ _
      rw [mX11_plans_105, show nI (n - i) - (1 : Int32) = nI (n - 1 - i) from by rw [li_1, pk_sub (by omega)]; exact congrArg _ (by omega), if_neg (nI_pos (by omega)), show (2 : Int32) = nI 2 from rfl, gIn_nI (by omega) (by omega), cl_n (by omega), h5, ad_1, pk_rem (by omega) (by omega) (by omega), pk_div (by omega) (by omega) (by omega), nI_add]
      unfold gNz
      rw [if_neg (show ¬ nI (q_na m + 1) = 0 by rw [li_0, nz_eq (by omega) (by omega)]; omega), mlet_s, gIn_nI (by omega) (by omega), if_neg (show ¬ nI (q_na m + 1) = 0 by rw [li_0, nz_eq (by omega) (by omega)]; omega), mlet_s]
      rw [hval (fun t => mX11_plans_158 k82 (mX11_plans_105 k82 u) (nI law) (nI f) (nI cc) (nI n) (nI codes) (nI X) (nI (s1 / (q_na m + 1))) (nI s2) (nI s3) (nI (n - 1 - i)) (nI (s1 % (q_na m + 1)) - 1) t (nI (f + (n - 1 - i))) y)]
      unfold mX11_plans_158 mX11_plans_171 mX11_plans_202
      rw [gIn_nI (by omega) (by omega), mlet_s, cl_n (by omega), hflag]
      simp only [mlet_s]
      rw [nI_add]
      simp (disch := omega) only [gIn_nI, cl_n, wr_same, wr_cell, h15, add_m1]
      rw [show n - (i + 1) = n - 1 - i from by omega]
      by_cases z1 : s1 % (q_na m + 1) = 0 <;> by_cases z2 : w_v (s1 % (q_na m + 1)) = m 15 (f + (n - 1 - i))
      · rw [if_neg (by omega), if_pos z2, if_neg (by omega), if_neg (fun z => z z2), li_0, nI_add, nI_add]
      · rw [if_neg (by omega), if_neg z2, if_neg (by omega), if_pos z2, li_0, nI_add, li_1, nI_add]
      · rw [if_pos z1, if_pos z2, if_pos z1, if_neg (fun z => z z2), li_1, nI_add, li_0, nI_add]
      · rw [if_pos z1, if_neg z2, if_pos z1, if_pos z2, li_1, nI_add, nI_add]
    · rw [p1, Nat.div_div_eq_div_mul, Nat.pow_succ]
    · show s2 + _ = _
      rw [fb_ct_succ, p2, p1]
      simp only [decide_eq_true_eq]
    · show s3 + _ = _
      rw [fb_ct_succ, p3, p1]
      simp only [decide_eq_true_eq]
    · show wr y 20 _ _ k = x k
      rw [wr_cell _ _ _ hk, p4 k hk]
    · show wr y 20 _ _ 20 p = x 20 p
      rw [wr_slot _ _ _ (by omega), p5 p (by omega)]
    · show wr y 20 _ _ 20 _ = _
      by_cases e : j = i
      · subst e; rw [wr_same, p1]
      · rw [wr_slot _ _ _ (by omega), p6 j (by omega)]
theorem less_m {x : Mm} {z z0 : Int} {a b a0 b0 : Nat} (hz : -1073741824 ≤ z ∧ z ≤ 1073741824) (hz0 : -1073741824 ≤ z0 ∧ z0 ≤ 1073741824) (e0 : x 22 0 = zI z0) (ha : a < 8) (hb : b < 8) (h : z = z0 → x 22 1 = nI a0 ∧ x 22 2 = nI b0 ∧ a0 < 8 ∧ b0 < 8) : mX11_isLess x (zI z) (nI a) (nI b) = some (bI (decide (z < z0 ∨ z = z0 ∧ (a < a0 ∨ a = a0 ∧ b < b0)))) := by
  have c0 : (0 : Int32).toNatClampNeg = 0 := rfl
  have c1 : (1 : Int32).toNatClampNeg = 1 := rfl
  have c2 : (2 : Int32).toNatClampNeg = 2 := rfl
  have g0 : ∀ {α : Type} (X : Option α), gIn (0 : Int32) 4 X = X := fun X => rfl
  have g1 : ∀ {α : Type} (X : Option α), gIn (1 : Int32) 4 X = X := fun X => rfl
  have g2 : ∀ {α : Type} (X : Option α), gIn (2 : Int32) 4 X = X := fun X => rfl
  unfold mX11_isLess
  simp only [c0, c1, c2, g0, g1, g2, e0]
  by_cases e : z = z0
  · obtain ⟨k1, k2, k3, k4⟩ := h e
    rw [if_pos (by rw [e]), k1, k2]
    simp (disch := omega) only [nz_eq, nz_le]
    by_cases q1 : a = a0
    · rw [if_pos q1]
      by_cases q2 : b0 ≤ b
      · rw [if_pos q2, decide_eq_false (by omega)]; rfl
      · rw [if_neg q2, decide_eq_true (Or.inr ⟨e, Or.inr ⟨q1, by omega⟩⟩)]; rfl
    · rw [if_neg q1]
      by_cases q2 : a0 ≤ a
      · rw [if_pos q2, decide_eq_false (by omega)]; rfl
      · rw [if_neg q2, decide_eq_true (Or.inr ⟨e, Or.inl (by omega)⟩)]; rfl
  · rw [if_neg (by rw [zi_eq (by omega) (by omega) (by omega) (by omega)]; exact e)]
    simp (disch := omega) only [zi_le]
    split
    all_goals first
    | (rw [decide_eq_true (by omega)]; rfl)
    | (rw [decide_eq_false (by omega)]; rfl)
    | (exfalso; omega)
/-- what the reference has found among the codes below X -/
def BstM (m : Mm) (law f cc X : Nat) (x : Mm) : Prop :=
  (x 22 0 = zI 1000000 ∧ ∀ V, w_va m f cc V → ¬ w_cd (q_na m + 1) V (q_wd m f) < X) ∨
  ∃ W, w_va m f cc W ∧ w_cd (q_na m + 1) W (q_wd m f) < X ∧ x 22 0 = zI (w_we m law f W) ∧ x 22 1 = nI (w_ct W (q_wd m f)) ∧ x 22 2 = nI (w_ch m f W (q_wd m f)) ∧ (∀ k, k < q_wd m f → x 21 k = w_v (W k)) ∧ ∀ V, w_va m f cc V → w_cd (q_na m + 1) V (q_wd m f) < X → w_ky m law f W < w_ky m law f V ∨ w_ky m law f W = w_ky m law f V ∧ w_cd (q_na m + 1) W (q_wd m f) ≤ w_cd (q_na m + 1) V (q_wd m f)
theorem BstM.skip {law f cc X : Nat} {x y : Mm} (h : BstM m law f cc X x) (e1 : y 21 = x 21) (e2 : y 22 = x 22) (hn : ∀ V, w_va m f cc V → w_cd (q_na m + 1) V (q_wd m f) ≠ X) : BstM m law f cc (X + 1) y := by
  unfold BstM
  rw [e1, e2]
  rcases h with ⟨a1, a2⟩ | ⟨W, a1, a2, a3, a4, a5, a6, a7⟩
  · refine Or.inl ⟨a1, fun V hV hlt => ?_⟩
    have := a2 V hV
    have := hn V hV
    omega
  · refine Or.inr ⟨W, a1, by omega, a3, a4, a5, a6, fun V hV hlt => ?_⟩
    have := hn V hV
    exact a7 V hV (by omega)
theorem pow_b {b n : Nat} (hb : b ≤ 5) (hn : n ≤ 6) : b ^ n ≤ 15625 := by
  calc b ^ n ≤ 5 ^ n := Nat.pow_le_pow_left hb n
    _ ≤ 5 ^ 6 := Nat.pow_le_pow_right (by omega) hn
theorem plans_m (R : RW c m) (K : q_ok m (m 15) (m 15)) {law f cc : Nat} (hl : law ≤ 1) (hf : f < q_np m) (hc : cc ≤ 6) : ∃ m' W, mX11_plans m (nI law) (nI f) (nI cc) = some m' ∧ (∀ k, k < 20 → m' k = m k) ∧ IsPl m law f cc W ∧ (∀ k, k < q_wd m f → m' 21 k = w_v (W k)) ∧ (∀ p, p < q_np m → m' 20 p = w_row m f W p) ∧ m' 22 1 = nI (w_ct W (q_wd m f)) ∧ m' 22 2 = nI (w_ch m f W (q_wd m f)) := by
  have h0 := R.np; have h1 := R.na
  obtain ⟨d1, d2⟩ := wd_le m f
  unfold mX11_plans
  rw [win_m R hf, bd1_s]
  generalize hnn : q_wd m f = n at *
  have hpw := fun j (hj : j ≤ 6) => pow_b (b := q_na m + 1) (n := j) (by omega) hj
  have hb0 : 0 < q_na m + 1 := by omega
  have g04 : ∀ {α : Type} (X : Option α), gIn (0 : Int32) 4 X = X := fun X => rfl
  have g14 : ∀ {α : Type} (X : Option α), gIn (1 : Int32) 4 X = X := fun X => rfl
  have g24 : ∀ {α : Type} (X : Option α), gIn (2 : Int32) 4 X = X := fun X => rfl
  have c0 : (0 : Int32).toNatClampNeg = 0 := rfl
  have c1 : (1 : Int32).toNatClampNeg = 1 := rfl
  have c2 : (2 : Int32).toNatClampNeg = 2 := rfl
  have s1 : mX11_plans_13 FU (nI law) (nI f) (nI cc) (nI n) 1 0 m = mX11_plans_50 FU (nI law) (nI f) (nI cc) (nI n) (nI ((q_na m + 1) ^ n)) 0 (wr m 22 0 1000000) := by
    refine lo_v (fun u i (x : Int32) => mX11_plans_13 u (nI law) (nI f) (nI cc) (nI n) x (nI i) m) _ (fun i => nI ((q_na m + 1) ^ i)) n (fun u => ?_) (fun u i hi => ?_) FU 0 (by omega) (fu_lt (by omega))
    · show mX11_plans_13 (u + 1) _ _ _ _ _ _ _ = _
      rw [mX11_plans_13, if_pos (nI_le (Nat.le_refl _) (by omega)), g04, c0, mlet_s]
    · show mX11_plans_13 (u + 1) _ _ _ _ _ _ _ = mX11_plans_13 u _ _ _ _ _ _ _
      rw [mX11_plans_13, if_neg (nI_ge hi (by omega)), show (2 : Int32) = nI 2 from rfl, gIn_nI (by omega) (by omega), cl_n (by omega), R.mna, ad_1, ad_1, pk_mul, mlet_s, Nat.pow_succ]
  rw [s1]
  have s2 : ∃ x, mX11_plans_50 FU (nI law) (nI f) (nI cc) (nI n) (nI ((q_na m + 1) ^ n)) 0 (wr m 22 0 1000000) = mX11_plans_82 FU (nI law) (nI f) (nI cc) (nI n) (nI ((q_na m + 1) ^ n)) 0 x ∧ (∀ k, k < 20 → x k = m k) ∧ (∀ p, p < q_np m → x 20 p = m 15 p) ∧ x 22 0 = zI 1000000 := by
    refine lo_up (fun u i x => mX11_plans_50 u (nI law) (nI f) (nI cc) (nI n) (nI ((q_na m + 1) ^ n)) (nI i) x) (fun z => ∃ x, z = mX11_plans_82 FU (nI law) (nI f) (nI cc) (nI n) (nI ((q_na m + 1) ^ n)) 0 x ∧ (∀ k, k < 20 → x k = m k) ∧ (∀ p, p < q_np m → x 20 p = m 15 p) ∧ x 22 0 = zI 1000000) (fun i x => (∀ k, k < 20 → x k = m k) ∧ (∀ p, p < i → x 20 p = m 15 p) ∧ x 22 0 = zI 1000000) (q_np m) (fun u x hP => ?_) (fun u i x hi hP => ?_) FU 0 _ (by omega) (fu_lt (by omega)) ⟨fun k hk => wr_cell _ _ _ (by omega), fun p hp => by omega, by rw [wr_same]; rfl⟩
    · refine ⟨x, ?_, hP⟩
      show mX11_plans_50 (u + 1) _ _ _ _ _ _ _ = _
      rw [mX11_plans_50, hP.1 0 (by decide), R.mnp, if_pos (nI_le (Nat.le_refl _) (by omega))]
    · refine ⟨wr x 20 i (m 15 i), ?_, fun k hk => by rw [wr_cell _ _ _ (by omega), hP.1 k hk], fun p hp => ?_, by rw [wr_cell _ _ _ (by decide), hP.2.2]⟩
      · show mX11_plans_50 (u + 1) _ _ _ _ _ _ _ = mX11_plans_50 u _ _ _ _ _ _ _
        rw [mX11_plans_50, hP.1 0 (by decide), R.mnp, if_neg (nI_ge hi (by omega)), gIn_nI (by omega) (by omega), gIn_nI (by omega) (by omega), cl_n (by omega), hP.1 15 (by decide), mlet_s, ad_1]
      · by_cases e : p = i
        · rw [e, wr_same]
        · rw [wr_slot _ _ _ e, hP.2.1 p (by omega)]
  obtain ⟨x0, e1, e2, e3, e4⟩ := s2
  rw [e1]
  have hpn := hpw n d1
  refine lo_up (fun u X x => mX11_plans_82 u (nI law) (nI f) (nI cc) (nI n) (nI ((q_na m + 1) ^ n)) (nI X) x) (fun z => ∃ m' W, z = some m' ∧ (∀ k, k < 20 → m' k = m k) ∧ IsPl m law f cc W ∧ (∀ k, k < n → m' 21 k = w_v (W k)) ∧ (∀ p, p < q_np m → m' 20 p = w_row m f W p) ∧ m' 22 1 = nI (w_ct W n) ∧ m' 22 2 = nI (w_ch m f W n)) (fun X x => (∀ k, k < 20 → x k = m k) ∧ (∀ p, p < q_np m → ¬ (f ≤ p ∧ p < f + n) → x 20 p = m 15 p) ∧ BstM m law f cc X x) ((q_na m + 1) ^ n) (fun u x hP => ?_) (fun u X x hX hP => ?_) FU 0 x0 (by omega) (fu_lt (by omega)) ⟨e2, fun p hp _ => e3 p hp, Or.inl ⟨e4, fun V _ => by omega⟩⟩
  · obtain ⟨p1, p2, p3⟩ := hP
    show ∃ m' W, mX11_plans_82 (u + 1) (nI law) (nI f) (nI cc) (nI n) (nI ((q_na m + 1) ^ n)) (nI ((q_na m + 1) ^ n)) x = some m' ∧ _
    rw [mX11_plans_82, if_pos (nI_le (Nat.le_refl _) (by omega))]
    obtain ⟨v1, _, _⟩ := now_va R K (cc := cc) hf
    rcases p3 with ⟨_, a2⟩ | ⟨W, a1, a2, a3, a4, a5, a6, a7⟩
    · exact absurd (by rw [hnn]; exact cd_lt (by have := v1.1; rw [hnn] at this; exact this)) (a2 _ v1)
    · rw [hnn] at a2 a4 a5 a6
      have hpl : IsPl m law f cc W := ⟨a1, fun V hV => a7 V hV (by rw [hnn]; exact cd_lt (by have := hV.1; rw [hnn] at this; exact this))⟩
      refine lo_up (fun u i y => mX11_plans_336 u (nI f) (nI n) (nI i) y) (fun z => ∃ m' W, z = some m' ∧ (∀ k, k < 20 → m' k = m k) ∧ IsPl m law f cc W ∧ (∀ k, k < n → m' 21 k = w_v (W k)) ∧ (∀ p, p < q_np m → m' 20 p = w_row m f W p) ∧ m' 22 1 = nI (w_ct W n) ∧ m' 22 2 = nI (w_ch m f W n)) (fun i y => (∀ k, k ≠ 20 → y k = x k) ∧ (∀ p, p < q_np m → ¬ (f ≤ p ∧ p < f + n) → y 20 p = m 15 p) ∧ ∀ k, k < i → y 20 (f + k) = w_v (W k)) n (fun u y hQ => ?_) (fun u i y hi hQ => ?_) FU 0 x (by omega) (fu_lt (by omega)) ⟨fun _ _ => rfl, p2, fun k hk => by omega⟩
      · obtain ⟨q1, q2, q3⟩ := hQ
        refine ⟨y, W, ?_, fun k hk => by rw [q1 k (by omega), p1 k hk], hpl, fun k hk => by rw [q1 21 (by decide), a6 k hk], fun p hp => ?_, by rw [q1 22 (by decide), a4], by rw [q1 22 (by decide), a5]⟩
        · show mX11_plans_336 (u + 1) _ _ _ _ = _
          rw [mX11_plans_336, if_pos (nI_le (Nat.le_refl _) (by omega))]
        · by_cases hin : f ≤ p ∧ p < f + n
          · obtain ⟨k, rfl⟩ : ∃ k, p = f + k := ⟨p - f, by omega⟩
            rw [q3 k (by omega), row_in (by omega)]
          · rw [q2 p hp hin, row_ou (by rw [hnn]; exact hin)]
      · obtain ⟨q1, q2, q3⟩ := hQ
        refine ⟨wr y 20 (f + i) (w_v (W i)), ?_, fun k hk => by rw [wr_cell _ _ _ hk, q1 k hk], fun p hp hin => by rw [wr_slot _ _ _ (by omega), q2 p hp hin], fun k hk => ?_⟩
        · show mX11_plans_336 (u + 1) _ _ _ _ = mX11_plans_336 u _ _ _ _
          rw [mX11_plans_336, if_neg (nI_ge hi (by omega)), gIn_nI (by omega) (by omega), nI_add, gIn_nI (by omega) (by omega), cl_n (by omega), cl_n (by omega), q1 21 (by decide), a6 i hi, mlet_s, ad_1]
        · by_cases e : k = i
          · rw [e, wr_same]
          · rw [wr_slot _ _ _ (by omega), q3 k (by omega)]
  · obtain ⟨p1, p2, p3⟩ := hP
    show ∃ x', mX11_plans_82 (u + 1) (nI law) (nI f) (nI cc) (nI n) (nI ((q_na m + 1) ^ n)) (nI X) x = mX11_plans_82 u _ _ _ _ _ _ x' ∧ _
    rw [mX11_plans_82, if_neg (nI_ge hX (by omega)), mlet_s]
    obtain ⟨fu, lf, y, y1, y2, y3, y4⟩ := dig_m R (f := f) (cc := cc) (law := law) (codes := (q_na m + 1) ^ n) (n := n) (X := X) (k82 := mX11_plans_82 u) (x := x) (by omega) d1 (by omega) p1
    rw [y1]
    have hD : w_cd (q_na m + 1) (w_dg (q_na m + 1) n X) n = X := by
      have := dg_cd hb0 hX n (Nat.le_refl _)
      rw [this, Nat.sub_self, Nat.pow_zero, Nat.div_one]
    have hDw : WV (q_na m + 1) n (w_dg (q_na m + 1) n X) := dg_wv hb0
    generalize w_dg (q_na m + 1) n X = D at *
    have same : ∀ V, w_va m f cc V → w_cd (q_na m + 1) V (q_wd m f) = X → ∀ k, k < q_wd m f → V k = D k := fun V hV e => by
      refine cd_in hV.1 (by rw [hnn]; exact hDw) ?_
      rw [e, hnn, hD]
    have hy20 : ∀ k, k < 20 → y k = m k := fun k hk => by rw [y2 k (by omega), p1 k hk]
    obtain ⟨Ry, Sy⟩ := R.sm (m' := y) (fun k hk => hy20 k (by omega))
    have hrow : ∀ p, p < q_np m → y 20 p = w_row m f D p := fun p hp => by
      by_cases hin : f ≤ p ∧ p < f + n
      · obtain ⟨k, rfl⟩ : ∃ k, p = f + k := ⟨p - f, by omega⟩
        rw [y4 k (by omega), row_in (by omega)]
      · rw [y3 p hin, p2 p hp hin, row_ou (by rw [hnn]; exact hin)]
    have hsh := row_sh R (f := f) (W := D) (by rw [hnn]; exact hDw)
    rw [mX11_plans_105, if_pos (by decide)]
    unfold mX11_plans_327
    rw [ad_1]
    have hchb : w_ch m f D n ≤ n := fb_ct_le _ _
    have hctb : w_ct D n ≤ n := fb_ct_le _ _
    have miss : ∀ z : Mm, (∀ k, k < 20 → z k = m k) → z 20 = y 20 → z 21 = x 21 → z 22 = x 22 → ¬ w_va m f cc D → ∃ x', mX11_plans_82 u (nI law) (nI f) (nI cc) (nI n) (nI ((q_na m + 1) ^ n)) (nI (X + 1)) z = mX11_plans_82 u (nI law) (nI f) (nI cc) (nI n) (nI ((q_na m + 1) ^ n)) (nI (X + 1)) x' ∧ (∀ k, k < 20 → x' k = m k) ∧ (∀ p, p < q_np m → ¬ (f ≤ p ∧ p < f + n) → x' 20 p = m 15 p) ∧ BstM m law f cc (X + 1) x' := fun z z1 z2 z3 z4 hno => by
      refine ⟨z, rfl, z1, fun p hp hin => by rw [z2, y3 p hin, p2 p hp hin], p3.skip z3 z4 (fun V hV e => hno (va_co (same V hV e) hV))⟩
    by_cases hcc : cc < w_ch m f D n
    · rw [if_pos (by rw [nz_lt (by omega) (by omega)]; exact hcc)]
      exact miss y hy20 rfl (y2 21 (by decide)) (y2 22 (by decide)) (fun z => by have := z.2.1; rw [hnn] at this; omega)
    · rw [if_neg (by rw [nz_lt (by omega) (by omega)]; exact hcc)]
      obtain ⟨bw, w1, w2⟩ := way_m Ry (f := f) (n := n) (by rw [Sy.q.2.2.2.1]; omega) (fun p hp => by
        rw [Sy.q.2.2.2.1] at hp
        rw [Sy.q.2.2.1, hrow p hp]
        exact hsh p (by omega))
      have w3 : bw = true ↔ w_ok m f D := by
        rw [w2, Sy.o1, hy20 15 (by decide)]
        unfold w_ok
        rw [hnn]
        have ho1 : ∀ p, p < q_np m → (q_o1 m (m 15) (y 20) p ↔ q_o1 m (m 15) (w_row m f D) p) := fun p hp => by
          unfold q_o1
          rw [hrow p hp]
          have : ∀ a, (∀ q, q < q_np m → q ≠ p → (y 20 q = nI a → q_tg m p q a = true) ∧ (q_co (y 20) q = true → q_wh m q = q_wh m p → q_ov m p q = false)) ↔ (∀ q, q < q_np m → q ≠ p → (w_row m f D q = nI a → q_tg m p q a = true) ∧ (q_co (w_row m f D) q = true → q_wh m q = q_wh m p → q_ov m p q = false)) := fun a => by
            unfold q_co
            constructor
            · intro h q hq; have := h q hq; rw [hrow q hq] at this; exact this
            · intro h q hq; have := h q hq; rw [hrow q hq]; exact this
          exact ⟨fun h a e1 e2 => ⟨(h a e1 e2).1, (this a).mp (h a e1 e2).2⟩, fun h a e1 e2 => ⟨(h a e1 e2).1, (this a).mpr (h a e1 e2).2⟩⟩
        exact ⟨fun h p p1 p2 => (ho1 p (by omega)).mp (h p p1 p2), fun h p p1 p2 => (ho1 p (by omega)).mpr (h p p1 p2)⟩
      rw [w1, bd1_s]
      simp only [bI_if]
      cases bw with
      | false =>
        rw [if_neg (by decide)]
        exact miss y hy20 rfl (y2 21 (by decide)) (y2 22 (by decide)) (fun z => by have := w3.mpr z.2.2; cases this)
      | true =>
        rw [if_pos rfl]
        have hok := w3.mp rfl
        have hva : w_va m f cc D := ⟨by rw [hnn]; exact hDw, by rw [hnn]; omega, hok⟩
        have hfull := w_full R K hf hva.1 hok
        have hwe := we_b R (law := law) (f := f) (W := D) hf
        have hco : ∀ p, p < q_np m → q_co (y 20) p = q_co (w_row m f D) p := fun p hp => by unfold q_co; rw [hrow p hp]
        have val : ∃ z, (if nI law = 0 then bd1 (mX11_volumeOf_0_20 y (nI f) (nI f + nI n)) (fun v4 => mX11_plans_256 (mX11_plans_82 u) (nI law) (nI f) (nI cc) (nI n) (nI ((q_na m + 1) ^ n)) (nI X) (nI (w_ct D n)) (nI (w_ch m f D n)) (-v4) y) else bd2 (mX11_lost_0_20 y) (fun v3 h2 => mX11_plans_256 (mX11_plans_82 u) (nI law) (nI f) (nI cc) (nI n) (nI ((q_na m + 1) ^ n)) (nI X) (nI (w_ct D n)) (nI (w_ch m f D n)) v3 h2)) = mX11_plans_256 (mX11_plans_82 u) (nI law) (nI f) (nI cc) (nI n) (nI ((q_na m + 1) ^ n)) (nI X) (nI (w_ct D n)) (nI (w_ch m f D n)) (zI (w_we m law f D)) z ∧ ∀ k, k ≠ 23 → k ≠ 24 → z k = y k := by
          by_cases hl0 : law = 0
          · subst hl0
            refine ⟨y, ?_, fun _ _ _ => rfl⟩
            have hv := vol_20 Ry (f := f) (n := n) (by rw [Sy.q.2.2.2.1]; omega)
            have hvv : q_vl_20 y f n = w_vo m f D n := by
              unfold q_vl_20 w_vo
              refine fb_sm_cong (fun k hk => ?_)
              rw [Sy.q.2.2.2.2.2.2.2.2.2.2.2]
              unfold q_co
              rw [y4 k hk]
              have hd := hDw k hk
              have : (decide (w_v (D k) ≠ -4) = true) = (D k ≠ 0) := by
                rw [decide_eq_true_eq, ne_eq, wv_4 (by omega)]
              simp only [this]
            have hvb : w_vo m f D n ≤ 70000 := by
              have := hwe.1
              unfold w_we at this
              rw [if_pos rfl, hnn] at this
              omega
            rw [if_pos (show nI 0 = (0 : Int32) from rfl), nI_add, hv, bd1_s, hvv, zi_neg (by omega)]
            unfold w_we
            rw [if_pos rfl, hnn]
          · obtain ⟨z, l1, l2⟩ := lost_20 Ry (by
              intro p q hpq hq h1 h2 h3
              rw [Sy.q.2.2.2.1] at hq
              rw [Sy.q.2.2.2.2.2.2.2.2.2.1] at h3
              rw [Sy.ov]
              rw [hco p (by omega)] at h1
              rw [hco q hq] at h2
              exact ok_no2 (fun p hp => hsh p (by omega)) hfull p q hpq hq h1 h2 h3)
            refine ⟨z, ?_, l2⟩
            have hlb : q_ls m (q_co (w_row m f D)) (q_ns m) ≤ 70000 := by
              have := hwe.2
              unfold w_we at this
              rw [if_neg hl0] at this
              omega
            rw [if_neg (by rw [li_0, nz_eq (by omega) (by omega)]; exact hl0), l1, bd2_s, Sy.ls, Sy.q.1, ls_cong hco, zi_n (n := q_ls m (q_co (w_row m f D)) (q_ns m)) (by omega)]
            unfold w_we
            rw [if_neg hl0]
        obtain ⟨z, v1, v2⟩ := val
        rw [v1]
        have z20 : ∀ k, k < 20 → z k = m k := fun k hk => by rw [v2 k (by omega) (by omega), hy20 k hk]
        have z22 : z 22 = x 22 := by rw [v2 22 (by decide) (by decide), y2 22 (by decide)]
        have z21 : z 21 = x 21 := by rw [v2 21 (by decide) (by decide), y2 21 (by decide)]
        have z2020 : z 20 = y 20 := v2 20 (by decide) (by decide)
        unfold mX11_plans_256
        have stay : ∀ W, w_va m f cc W → w_cd (q_na m + 1) W (q_wd m f) < X → x 22 0 = zI (w_we m law f W) → x 22 1 = nI (w_ct W (q_wd m f)) → x 22 2 = nI (w_ch m f W (q_wd m f)) → (∀ k, k < q_wd m f → x 21 k = w_v (W k)) → (∀ V, w_va m f cc V → w_cd (q_na m + 1) V (q_wd m f) < X → w_ky m law f W < w_ky m law f V ∨ w_ky m law f W = w_ky m law f V ∧ w_cd (q_na m + 1) W (q_wd m f) ≤ w_cd (q_na m + 1) V (q_wd m f)) → w_ky m law f W ≤ w_ky m law f D → BstM m law f cc (X + 1) z := by
          intro W a1 a2 a3 a4 a5 a6 a7 hle
          refine Or.inr ⟨W, a1, by omega, by rw [z22]; exact a3, by rw [z22]; exact a4, by rw [z22]; exact a5, by rw [z21]; exact a6, fun V hV hlt => ?_⟩
          by_cases e : w_cd (q_na m + 1) V (q_wd m f) = X
          · have := ky_co (law := law) (same V hV e)
            omega
          · exact a7 V hV (by omega)
        have better : (∀ V, w_va m f cc V → w_cd (q_na m + 1) V (q_wd m f) < X → w_ky m law f D < w_ky m law f V) → ∃ x', gIn (0 : Int32) 4 (mlet (wr z 22 (0 : Int32).toNatClampNeg (zI (w_we m law f D))) (fun h2 => gIn (1 : Int32) 4 (mlet (wr h2 22 (1 : Int32).toNatClampNeg (nI (w_ct D n))) (fun h4 => gIn (2 : Int32) 4 (mlet (wr h4 22 (2 : Int32).toNatClampNeg (nI (w_ch m f D n))) (fun h6 => mX11_plans_298 (mX11_plans_82 u) FU (nI law) (nI f) (nI cc) (nI n) (nI ((q_na m + 1) ^ n)) (nI X) (0 : Int32) h6)))))) = mX11_plans_82 u (nI law) (nI f) (nI cc) (nI n) (nI ((q_na m + 1) ^ n)) (nI (X + 1)) x' ∧ (∀ k, k < 20 → x' k = m k) ∧ (∀ p, p < q_np m → ¬ (f ≤ p ∧ p < f + n) → x' 20 p = m 15 p) ∧ BstM m law f cc (X + 1) x' := by
          intro hbet
          simp only [g04, g14, g24, c0, c1, c2, mlet_s]
          refine lo_up (fun v i y => mX11_plans_298 (mX11_plans_82 u) v (nI law) (nI f) (nI cc) (nI n) (nI ((q_na m + 1) ^ n)) (nI X) (nI i) y) (fun t => ∃ x', t = mX11_plans_82 u (nI law) (nI f) (nI cc) (nI n) (nI ((q_na m + 1) ^ n)) (nI (X + 1)) x' ∧ (∀ k, k < 20 → x' k = m k) ∧ (∀ p, p < q_np m → ¬ (f ≤ p ∧ p < f + n) → x' 20 p = m 15 p) ∧ BstM m law f cc (X + 1) x') (fun i t => (∀ k, k ≠ 21 → k ≠ 22 → t k = z k) ∧ (t 22 0 = zI (w_we m law f D) ∧ t 22 1 = nI (w_ct D n) ∧ t 22 2 = nI (w_ch m f D n)) ∧ ∀ k, k < i → t 21 k = w_v (D k)) n (fun v t hQ => ?_) (fun v i t hi hQ => ?_) FU 0 _ (by omega) (fu_lt (by omega)) ?_
          · obtain ⟨q1, ⟨q2, q3, q4⟩, q5⟩ := hQ
            refine ⟨t, ?_, fun k hk => by rw [q1 k (by omega) (by omega), z20 k hk], fun p hp hin => by rw [q1 20 (by decide) (by decide), z2020, y3 p hin, p2 p hp hin], Or.inr ⟨D, hva, by rw [hnn, hD]; omega, q2, by rw [hnn]; exact q3, by rw [hnn]; exact q4, by rw [hnn]; exact q5, fun V hV hlt => ?_⟩⟩
            · show mX11_plans_298 _ (v + 1) _ _ _ _ _ _ _ _ = _
              rw [mX11_plans_298, if_pos (nI_le (Nat.le_refl _) (by omega))]
              unfold mX11_plans_327
              rw [ad_1]
            · by_cases e : w_cd (q_na m + 1) V (q_wd m f) = X
              · refine Or.inr ⟨(ky_co (same V hV e)).symm, ?_⟩
                rw [e, hnn, hD]; omega
              · exact Or.inl (hbet V hV (by omega))
          · obtain ⟨q1, ⟨q2, q3, q4⟩, q5⟩ := hQ
            refine ⟨wr t 21 i (w_v (D i)), ?_, fun k k1 k2 => by rw [wr_cell _ _ _ k1, q1 k k1 k2], ⟨by rw [wr_cell _ _ _ (by decide), q2], by rw [wr_cell _ _ _ (by decide), q3], by rw [wr_cell _ _ _ (by decide), q4]⟩, fun k hk => ?_⟩
            · show mX11_plans_298 _ (v + 1) _ _ _ _ _ _ _ _ = mX11_plans_298 _ v _ _ _ _ _ _ _ _
              rw [mX11_plans_298, if_neg (nI_ge hi (by omega)), nI_add, gIn_nI (by omega) (by omega), gIn_nI (by omega) (by omega), cl_n (by omega), cl_n (by omega), q1 20 (by decide) (by decide), z2020, y4 i hi, mlet_s, ad_1]
            · by_cases e : k = i
              · rw [e, wr_same]
              · rw [wr_slot _ _ _ e, q5 k (by omega)]
          · refine ⟨fun k k1 k2 => by rw [wr_cell _ _ _ k2, wr_cell _ _ _ k2, wr_cell _ _ _ k2], ⟨?_, ?_, ?_⟩, fun k hk => by omega⟩
            · rw [wr_slot _ _ _ (by decide), wr_slot _ _ _ (by decide), wr_same]
            · rw [wr_slot _ _ _ (by decide), wr_same]
            · rw [wr_same]
        rcases p3 with ⟨a1, a2⟩ | ⟨W, a1, a2, a3, a4, a5, a6, a7⟩
        · rw [less_m (z0 := 1000000) (a0 := 0) (b0 := 0) (by omega) (by omega) (by rw [z22, a1]) (by omega) (by omega) (fun z => by omega), bd1_s, decide_eq_true (by omega), if_neg (by decide)]
          exact better (fun V hV hlt => absurd hlt (a2 V hV))
        · have hweW := we_b R (law := law) (f := f) (W := W) hf
          have b1 : w_ct W (q_wd m f) ≤ q_wd m f := fb_ct_le _ _
          have b2 : w_ch m f W (q_wd m f) ≤ q_wd m f := fb_ct_le _ _
          rw [hnn] at b1 b2
          rw [less_m (z0 := w_we m law f W) (a0 := w_ct W n) (b0 := w_ch m f W n) (by omega) (by omega) (by rw [z22, a3]) (by omega) (by omega) (fun _ => ⟨by rw [z22, a4, hnn], by rw [z22, a5, hnn], by omega, by omega⟩), bd1_s]
          have kyD : w_ky m law f D = (w_we m law f D * 8 + w_ct D n) * 8 + w_ch m f D n := by unfold w_ky; rw [hnn]
          have kyW : w_ky m law f W = (w_we m law f W * 8 + w_ct W n) * 8 + w_ch m f W n := by unfold w_ky; rw [hnn]
          simp only [bI_if]
          by_cases hlt : w_we m law f D < w_we m law f W ∨ w_we m law f D = w_we m law f W ∧ (w_ct D n < w_ct W n ∨ w_ct D n = w_ct W n ∧ w_ch m f D n < w_ch m f W n)
          · rw [decide_eq_true hlt, if_pos rfl]
            refine better (fun V hV h => ?_)
            have := a7 V hV h
            omega
          · rw [decide_eq_false hlt, if_neg (by decide)]
            unfold mX11_plans_327
            rw [ad_1]
            exact ⟨z, rfl, z20, fun p hp hin => by rw [z2020, y3 p hin, p2 p hp hin], stay W a1 a2 a3 a4 a5 a6 a7 (by omega)⟩
end EV
