/-! X3_letterAt -/
def mX3_letterAt (h : Mm) (a1 : Int32) : Option Int32 := if a1 < 0 then (some (0 : Int32)) else (if (h 1 1) ≤ a1 then (some (0 : Int32)) else (gIn a1 200 (gCh (h 2 a1.toNatClampNeg) (some (h 2 a1.toNatClampNeg)))))
set_option maxRecDepth 4000 in
theorem mt_X3_letterAt {l : Launch} {D : va_G} {ad : Nat → Nat} {ac : Nat → ClassId} {h : Mm} {a1 : Int32} {r : Int32} (hm : mX3_letterAt h a1 = some r) : Mt l D ad ac LC rlC yX3_letterAt cX3_letterAt 2 (some .char) 0 [.ref (ad 1), .int a1] h (some (.int r)) h := by
  refine Mt.of (own := RX3) (by decide) rfl (Nat.le_of_ble_eq_true rfl) ?_
  intro p e s m below meth c ls X hH hl
  obtain ⟨hx, hb, hml, hown, hts, hr, hlk, hC, hI, hR⟩ := id X
  have hl : lv_has ls 2 [(0, .ref (ad 1)), (1, .int a1)] := hl
  rw [mX3_letterAt] at hm
  refine lv_iload_n hx hb dX3_letterAt_0 rfl (lv_at hl 1 rfl) ?_
  refine lv_if_lt hx hb dX3_letterAt_1 (tgt := 21) (by decide) (fun hc => ?_) (fun hc => ?_)
  · rw [if_pos hc] at hm
    refine lv_iconst (v := 0) hx hb dX3_letterAt_21 (by decide) ?_
    cases hm
    exact retZ X hH rfl dX3_letterAt_22
  · rw [if_neg hc] at hm
    refine lv_iload_n hx hb dX3_letterAt_4 rfl (lv_at hl 1 rfl) ?_
    refine lv_aload_n hx hb dX3_letterAt_5 rfl (lv_at hl 0 rfl) ?_
    refine gI X hH fl_X3_15 lC_1 rfl dX3_letterAt_6 ?_
    refine lv_icmp_ge hx hb dX3_letterAt_9 (tgt := 21) (by decide) (fun hc => ?_) (fun hc => ?_)
    · rw [if_pos hc] at hm
      refine lv_iconst (v := 0) hx hb dX3_letterAt_21 (by decide) ?_
      cases hm
      exact retZ X hH rfl dX3_letterAt_22
    · rw [if_neg hc] at hm
      refine lv_aload_n hx hb dX3_letterAt_12 rfl (lv_at hl 0 rfl) ?_
      refine gR X hH fl_X3_9 lC_1 rfl dX3_letterAt_13 ?_
      refine lv_iload_n hx hb dX3_letterAt_16 rfl (lv_at hl 1 rfl) ?_
      obtain ⟨hin1, hm⟩ := gIn_some hm
      refine cld X hH lC_2 hin1 dX3_letterAt_17 ?_
      refine lv_goto hx hb dX3_letterAt_18 (tgt := 22) (by decide) ?_
      obtain ⟨hgn, hm⟩ := gCh_some hm
      cases hm
      exact retZ X hH hgn dX3_letterAt_22
/-! X2_isFull_49 -/
def mX2_isFull_49 (h : Mm) : Option Int32 := if (h 49 3) < (nI 4) then (some (0 : Int32)) else (some (1 : Int32))
set_option maxRecDepth 4000 in
theorem mt_X2_isFull_49 {l : Launch} {D : va_G} {ad : Nat → Nat} {ac : Nat → ClassId} {h : Mm} {r : Int32} (hm : mX2_isFull_49 h = some r) : Mt l D ad ac LC rlC yX2_isFull cX2_isFull 1 (some .boolean) 0 [.ref (ad 49)] h (some (.int r)) h := by
  refine Mt.of (own := RX2) (by decide) rfl (Nat.le_of_ble_eq_true rfl) ?_
  intro p e s m below meth c ls X hH hl
  obtain ⟨hx, hb, hml, hown, hts, hr, hlk, hC, hI, hR⟩ := id X
  have hl : lv_has ls 1 [(0, .ref (ad 49))] := hl
  rw [mX2_isFull_49] at hm
  refine lv_aload_n hx hb dX2_isFull_0 rfl (lv_at hl 0 rfl) ?_
  refine gI X hH fl_X2_21 lC_49 rfl dX2_isFull_1 ?_
  refine lv_aload_n hx hb dX2_isFull_4 rfl (lv_at hl 0 rfl) ?_
  refine gR X hH fl_X2_18 lC_49 rfl dX2_isFull_5 ?_
  refine alnR X hH lC_50 (Or.inr rfl) (n := 4) rfl dX2_isFull_8 ?_
  refine lv_icmp_lt hx hb dX2_isFull_9 (tgt := 16) (by decide) (fun hc => ?_) (fun hc => ?_)
  · rw [if_pos hc] at hm
    refine lv_iconst (v := 0) hx hb dX2_isFull_16 (by decide) ?_
    cases hm
    exact retZ X hH rfl dX2_isFull_17
  · rw [if_neg hc] at hm
    refine lv_iconst (v := 1) hx hb dX2_isFull_12 (by decide) ?_
    refine lv_goto hx hb dX2_isFull_13 (tgt := 17) (by decide) ?_
    cases hm
    exact retZ X hH rfl dX2_isFull_17
/-! X3_isFigure -/
def mX3_isFigure (h : Mm) (a0 : Int32) : Option Int32 := if a0 < (48 : Int32) then (some (0 : Int32)) else (if (57 : Int32) < a0 then (some (0 : Int32)) else (some (1 : Int32)))
set_option maxRecDepth 4000 in
theorem mt_X3_isFigure {l : Launch} {D : va_G} {ad : Nat → Nat} {ac : Nat → ClassId} {L : List CD} {rl : RomL} {h : Mm} {a0 : Int32} {r : Int32} (hm : mX3_isFigure h a0 = some r) : Mt l D ad ac L rl yX3_isFigure cX3_isFigure 1 (some .boolean) 0 [.int a0] h (some (.int r)) h := by
  refine Mt.of (own := RX3) (by decide) rfl (Nat.le_of_ble_eq_true rfl) ?_
  intro p e s m below meth c ls X hH hl
  obtain ⟨hx, hb, hml, hown, hts, hr, hlk, hC, hI, hR⟩ := id X
  have hl : lv_has ls 1 [(0, .int a0)] := hl
  rw [mX3_isFigure] at hm
  refine lv_iload_n hx hb dX3_isFigure_0 rfl (lv_at hl 0 rfl) ?_
  refine lv_bipush (v := 48) hx hb dX3_isFigure_1 (by decide) ?_
  refine lv_icmp_lt hx hb dX3_isFigure_3 (tgt := 16) (by decide) (fun hc => ?_) (fun hc => ?_)
  · rw [if_pos hc] at hm
    refine lv_iconst (v := 0) hx hb dX3_isFigure_16 (by decide) ?_
    cases hm
    exact retZ X hH rfl dX3_isFigure_17
  · rw [if_neg hc] at hm
    refine lv_iload_n hx hb dX3_isFigure_6 rfl (lv_at hl 0 rfl) ?_
    refine lv_bipush (v := 57) hx hb dX3_isFigure_7 (by decide) ?_
    refine lv_icmp_gt hx hb dX3_isFigure_9 (tgt := 16) (by decide) (fun hc => ?_) (fun hc => ?_)
    · rw [if_pos hc] at hm
      refine lv_iconst (v := 0) hx hb dX3_isFigure_16 (by decide) ?_
      cases hm
      exact retZ X hH rfl dX3_isFigure_17
    · rw [if_neg hc] at hm
      refine lv_iconst (v := 1) hx hb dX3_isFigure_12 (by decide) ?_
      refine lv_goto hx hb dX3_isFigure_13 (tgt := 17) (by decide) ?_
      cases hm
      exact retZ X hH rfl dX3_isFigure_17
/-! X3_figuresAt -/
def mX3_figuresAt (h : Mm) (a1 : Int32) : Option Int32 := bd1 (mX3_letterAt h a1) (fun v1 => bd1 (mX3_isFigure h v1) (fun v2 => if v2 = 0 then (some (0 : Int32)) else (bd1 (mX3_letterAt h (a1 + (1 : Int32))) (fun v3 => bd1 (mX3_isFigure h v3) (fun v4 => if v4 = 0 then (some (1 : Int32)) else (some (2 : Int32)))))))
set_option maxRecDepth 4000 in
theorem mt_X3_figuresAt {l : Launch} {D : va_G} {ad : Nat → Nat} {ac : Nat → ClassId} {h : Mm} {a1 : Int32} {r : Int32} (hm : mX3_figuresAt h a1 = some r) : Mt l D ad ac LC rlC yX3_figuresAt cX3_figuresAt 2 (some .int) 1 [.ref (ad 1), .int a1] h (some (.int r)) h := by
  refine Mt.of (own := RX3) (by decide) rfl (Nat.le_of_ble_eq_true rfl) ?_
  intro p e s m below meth c ls X hH hl
  obtain ⟨hx, hb, hml, hown, hts, hr, hlk, hC, hI, hR⟩ := id X
  have hl : lv_has ls 2 [(0, .ref (ad 1)), (1, .int a1)] := hl
  rw [mX3_figuresAt] at hm
  refine lv_aload_n hx hb dX3_figuresAt_0 rfl (lv_at hl 0 rfl) ?_
  refine lv_iload_n hx hb dX3_figuresAt_1 rfl (lv_at hl 1 rfl) ?_
  obtain ⟨v1, hq, hm⟩ := bd1_some hm
  refine cVi X hH kl_X3_19 kv_X3_letterAt (mt_X3_letterAt hq) lC_1 rfl rfl (by decide) hl.1 rfl (Nat.le_of_ble_eq_true rfl) dX3_figuresAt_2 (fun H locs hH => ?_)
  obtain ⟨v2, hq, hm⟩ := bd1_some hm
  refine cSi (As := [.int v1]) X hH kl_X3_23 ks_X3_isFigure (mt_X3_isFigure hq) rfl (by decide) hl.1 rfl (Nat.le_of_ble_eq_true rfl) dX3_figuresAt_5 (fun H locs hH => ?_)
  refine lv_if_ne hx hb dX3_figuresAt_8 (tgt := 13) (by decide) (fun hc => ?_) (fun hc => ?_)
  · rw [if_neg hc] at hm
    refine lv_aload_n hx hb dX3_figuresAt_13 rfl (lv_at hl 0 rfl) ?_
    refine lv_iload_n hx hb dX3_figuresAt_14 rfl (lv_at hl 1 rfl) ?_
    refine lv_iconst (v := 1) hx hb dX3_figuresAt_15 (by decide) ?_
    refine lv_iadd hx hb dX3_figuresAt_16 ?_
    obtain ⟨v3, hq, hm⟩ := bd1_some hm
    refine cVi X hH kl_X3_19 kv_X3_letterAt (mt_X3_letterAt hq) lC_1 rfl rfl (by decide) hl.1 rfl (Nat.le_of_ble_eq_true rfl) dX3_figuresAt_17 (fun H locs hH => ?_)
    obtain ⟨v4, hq, hm⟩ := bd1_some hm
    refine cSi (As := [.int v3]) X hH kl_X3_23 ks_X3_isFigure (mt_X3_isFigure hq) rfl (by decide) hl.1 rfl (Nat.le_of_ble_eq_true rfl) dX3_figuresAt_20 (fun H locs hH => ?_)
    refine lv_if_eq hx hb dX3_figuresAt_23 (tgt := 30) (by decide) (fun hc => ?_) (fun hc => ?_)
    · rw [if_pos hc] at hm
      refine lv_iconst (v := 1) hx hb dX3_figuresAt_30 (by decide) ?_
      cases hm
      exact retI X hH dX3_figuresAt_31
    · rw [if_neg hc] at hm
      refine lv_iconst (v := 2) hx hb dX3_figuresAt_26 (by decide) ?_
      refine lv_goto hx hb dX3_figuresAt_27 (tgt := 31) (by decide) ?_
      cases hm
      exact retI X hH dX3_figuresAt_31
  · rw [if_pos hc] at hm
    refine lv_iconst (v := 0) hx hb dX3_figuresAt_11 (by decide) ?_
    cases hm
    exact retI X hH dX3_figuresAt_12
/-! X3_numberAt -/
def mX3_numberAt_5 (h : Mm) : Nat → Int32 → Int32 → Int32 → Int32 → Option Int32
  | 0, _, _, _, _ => none
  | n + 1, x1, x2, x3, x4 => if (x1 + x2) ≤ x4 then (some x3) else (bd1 (mX3_letterAt h x4) (fun v1 => mlet ((((10 : Int32) * x3) + v1) - (48 : Int32)) (fun u2 => mX3_numberAt_5 h n x1 x2 u2 (x4 + 1))))
set_option maxRecDepth 4000 in
theorem wX3_numberAt_5 {p : Program} {l : Launch} {e : Env} {s : State} {m : MethodId} {args : Array Value} {below : List Frame} {meth : Method} {c : Code} {D : va_G} {ad : Nat → Nat} {ac : Nat → ClassId} {h : Mm} {r : Int32} (X : Fx p s m args meth c cX3_numberAt 5 RX3 (some .int) D ad ac LC rlC) : ∀ (n : Nat) (x1 : Int32) (x2 : Int32) (x3 : Int32) (x4 : Int32) (H : Heap) (locs : List Loc) (ls : Array Slot), mX3_numberAt_5 h n x1 x2 x3 x4 = some r → Hp D ad ac LC h s H locs → lv_has ls 5 [(0, .ref (ad 1)), (1, .int x1), (2, .int x2), (3, .int x3), (4, .int x4)] → W p l e (rmD 1) s m args below meth c H locs 0 0 (MQ below (QU D ad ac LC (some (.int r)) h s.heap.size) args s 0 0 (Aa ad LC.length s.heap.size)) (F0 m 5 ls []) := by
  obtain ⟨hx, hb, hml, hown, hts, hr, hlk, hC, hI, hR⟩ := id X
  intro n
  induction n with
  | zero => intro x1 x2 x3 x4 H locs ls hm; rw [mX3_numberAt_5] at hm; cases hm
  | succ n ih =>
    intro x1 x2 x3 x4 H locs ls hm hH hl
    rw [mX3_numberAt_5] at hm
    refine lv_iload hx hb dX3_numberAt_5 (lv_at hl 4 rfl) ?_
    refine lv_iload_n hx hb dX3_numberAt_7 rfl (lv_at hl 1 rfl) ?_
    refine lv_iload_n hx hb dX3_numberAt_8 rfl (lv_at hl 2 rfl) ?_
    refine lv_iadd hx hb dX3_numberAt_9 ?_
    refine lv_icmp_ge hx hb dX3_numberAt_10 (tgt := 34) (by decide) (fun hc => ?_) (fun hc => ?_)
    · rw [if_pos hc] at hm
      refine lv_iload_n hx hb dX3_numberAt_34 rfl (lv_at hl 3 rfl) ?_
      cases hm
      exact retI X hH dX3_numberAt_35
    · rw [if_neg hc] at hm
      refine lv_bipush (v := 10) hx hb dX3_numberAt_13 (by decide) ?_
      refine lv_iload_n hx hb dX3_numberAt_15 rfl (lv_at hl 3 rfl) ?_
      refine lv_imul hx hb dX3_numberAt_16 ?_
      refine lv_aload_n hx hb dX3_numberAt_17 rfl (lv_at hl 0 rfl) ?_
      refine lv_iload hx hb dX3_numberAt_18 (lv_at hl 4 rfl) ?_
      obtain ⟨v1, hq, hm⟩ := bd1_some hm
      refine cVi X hH kl_X3_19 kv_X3_letterAt (mt_X3_letterAt hq) lC_1 rfl rfl (by decide) hl.1 rfl (Nat.le_of_ble_eq_true rfl) dX3_numberAt_20 (fun H locs hH => ?_)
      refine lv_iadd hx hb dX3_numberAt_23 ?_
      refine lv_bipush (v := 48) hx hb dX3_numberAt_24 (by decide) ?_
      refine lv_isub hx hb dX3_numberAt_26 ?_
      obtain ⟨u2, eu2, hm⟩ := mlet_some hm
      refine W.eq (g2 := F0 m 27 ls (.int u2 :: [])) (by rw [eu2]) ?_
      refine lv_istore_n (lv' := [(3, .int u2), (0, .ref (ad 1)), (1, .int x1), (2, .int x2), (4, .int x4)]) hx hb dX3_numberAt_27 rfl hl (by decide) rfl (fun ls hl => ?_)
      refine lv_iinc (k := 4) (v := (x4 + 1)) (lv' := [(4, .int (x4 + 1)), (3, .int u2), (0, .ref (ad 1)), (1, .int x1), (2, .int x2)]) hx hb dX3_numberAt_28 hl rfl rfl (by decide) rfl (fun ls hl => ?_)
      refine lv_goto hx hb dX3_numberAt_31 (tgt := 5) (by decide) ?_
      exact ih x1 x2 u2 (x4 + 1) _ _ _ hm hH (lv_sub hl [2, 3, 4, 1, 0] rfl)
def mX3_numberAt (h : Mm) (a1 : Int32) (a2 : Int32) : Option Int32 := mX3_numberAt_5 h FU a1 a2 (0 : Int32) a1
set_option maxRecDepth 4000 in
theorem mt_X3_numberAt {l : Launch} {D : va_G} {ad : Nat → Nat} {ac : Nat → ClassId} {h : Mm} {a1 : Int32} {a2 : Int32} {r : Int32} (hm : mX3_numberAt h a1 a2 = some r) : Mt l D ad ac LC rlC yX3_numberAt cX3_numberAt 5 (some .int) 1 [.ref (ad 1), .int a1, .int a2] h (some (.int r)) h := by
  refine Mt.of (own := RX3) (by decide) rfl (Nat.le_of_ble_eq_true rfl) ?_
  intro p e s m below meth c ls X hH hl
  obtain ⟨hx, hb, hml, hown, hts, hr, hlk, hC, hI, hR⟩ := id X
  have hl : lv_has ls 5 [(0, .ref (ad 1)), (1, .int a1), (2, .int a2)] := hl
  rw [mX3_numberAt] at hm
  refine lv_iconst (v := 0) hx hb dX3_numberAt_0 (by decide) ?_
  refine lv_istore_n (lv' := [(3, .int (0 : Int32)), (0, .ref (ad 1)), (1, .int a1), (2, .int a2)]) hx hb dX3_numberAt_1 rfl hl (by decide) rfl (fun ls hl => ?_)
  refine lv_iload_n hx hb dX3_numberAt_2 rfl (lv_at hl 2 rfl) ?_
  refine lv_istore (lv' := [(4, .int a1), (3, .int (0 : Int32)), (0, .ref (ad 1)), (1, .int a1), (2, .int a2)]) hx hb dX3_numberAt_3 hl (by decide) rfl (fun ls hl => ?_)
  exact wX3_numberAt_5 X FU a1 a2 (0 : Int32) a1 _ _ _ hm hH (lv_sub hl [2, 3, 4, 1, 0] rfl)
/-! X2_allows_49 -/
def mX2_allows_49 (h : Mm) (a1 : Int32) (a2 : Int32) : Option Int32 := gIn a1 5 (if a2 < (rom0 a1.toNatClampNeg) then (some (0 : Int32)) else (gIn a1 5 (if (rom1 a1.toNatClampNeg) < a2 then (some (0 : Int32)) else (some (1 : Int32)))))
set_option maxRecDepth 4000 in
theorem mt_X2_allows_49 {l : Launch} {D : va_G} {ad : Nat → Nat} {ac : Nat → ClassId} {h : Mm} {a1 : Int32} {a2 : Int32} {r : Int32} (hm : mX2_allows_49 h a1 a2 = some r) : Mt l D ad ac LC rlC yX2_allows cX2_allows 3 (some .boolean) 0 [.ref (ad 49), .int a1, .int a2] h (some (.int r)) h := by
  refine Mt.of (own := RX2) (by decide) rfl (Nat.le_of_ble_eq_true rfl) ?_
  intro p e s m below meth c ls X hH hl
  obtain ⟨hx, hb, hml, hown, hts, hr, hlk, hC, hI, hR⟩ := id X
  have hl : lv_has ls 3 [(0, .ref (ad 49)), (1, .int a1), (2, .int a2)] := hl
  rw [mX2_allows_49] at hm
  refine lv_iload_n hx hb dX2_allows_0 rfl (lv_at hl 2 rfl) ?_
  refine lv_aload_n hx hb dX2_allows_1 rfl (lv_at hl 0 rfl) ?_
  refine gR X hH fl_X2_7 lC_49 rfl dX2_allows_2 ?_
  refine lv_iload_n hx hb dX2_allows_5 rfl (lv_at hl 1 rfl) ?_
  obtain ⟨hin1, hm⟩ := gIn_some hm
  refine rld X hH 0 rfl hin1 dX2_allows_6 ?_
  refine lv_icmp_lt hx hb dX2_allows_7 (tgt := 24) (by decide) (fun hc => ?_) (fun hc => ?_)
  · rw [if_pos hc] at hm
    refine lv_iconst (v := 0) hx hb dX2_allows_24 (by decide) ?_
    cases hm
    exact retZ X hH rfl dX2_allows_25
  · rw [if_neg hc] at hm
    refine lv_iload_n hx hb dX2_allows_10 rfl (lv_at hl 2 rfl) ?_
    refine lv_aload_n hx hb dX2_allows_11 rfl (lv_at hl 0 rfl) ?_
    refine gR X hH fl_X2_13 lC_49 rfl dX2_allows_12 ?_
    refine lv_iload_n hx hb dX2_allows_15 rfl (lv_at hl 1 rfl) ?_
    obtain ⟨hin2, hm⟩ := gIn_some hm
    refine rld X hH 1 rfl hin2 dX2_allows_16 ?_
    refine lv_icmp_gt hx hb dX2_allows_17 (tgt := 24) (by decide) (fun hc => ?_) (fun hc => ?_)
    · rw [if_pos hc] at hm
      refine lv_iconst (v := 0) hx hb dX2_allows_24 (by decide) ?_
      cases hm
      exact retZ X hH rfl dX2_allows_25
    · rw [if_neg hc] at hm
      refine lv_iconst (v := 1) hx hb dX2_allows_20 (by decide) ?_
      refine lv_goto hx hb dX2_allows_21 (tgt := 25) (by decide) ?_
      cases hm
      exact retZ X hH rfl dX2_allows_25
/-! X7_readNumbers_1_49_g50 -/
def mX7_readNumbers_1_49_g50_56 (j3 : Nat) (k6 : Int32 → Int32 → Mm → Option (Int32 × Mm)) (x4 : Int32) (x5 : Int32) (x6 : Int32) (t0 : Int32) (h : Mm) : Option (Int32 × Mm) := if x6 = 0 then (some ((-4 : Int32), h)) else (gIn x5 5 (bd1 (mX2_allows_49 h x5 (h (51 + j3) x5.toNatClampNeg)) (fun v2 => if v2 = 0 then (some ((-4 : Int32), h)) else (bd1 (mX3_letterAt h x4) (fun v3 => if v3 = t0 then (k6 (x4 + 1) (x5 + 1) h) else (some ((-4 : Int32), h)))))))
set_option maxRecDepth 4000 in
theorem wX7_readNumbers_1_49_g50_56 {p : Program} {l : Launch} {e : Env} {s : State} {m : MethodId} {args : Array Value} {below : List Frame} {meth : Method} {c : Code} {D : va_G} {ad : Nat → Nat} {ac : Nat → ClassId} {r : Int32} {h' : Mm} (X : Fx p s m args meth c cX7_readNumbers 8 RX7 (some .int) D ad ac LC rlC) {j3 : Nat} (hj3 : j3 < 4) {k6 : Int32 → Int32 → Mm → Option (Int32 × Mm)} (ih6 : ∀ (x4 : Int32) (x5 : Int32) (h : Mm) (H : Heap) (locs : List Loc) (ls : Array Slot), k6 x4 x5 h = some (r, h') → Hp D ad ac LC h s H locs → lv_has ls 8 [(0, .ref (ad 1)), (2, .ref (ad 49)), (3, .ref (ad (51 + j3))), (4, .int x4), (5, .int x5)] → W p l e (rmD 2) s m args below meth c H locs 0 0 (MQ below (QU D ad ac LC (some (.int r)) h' s.heap.size) args s 0 0 (Aa ad LC.length s.heap.size)) (F0 m 6 ls [])) : ∀ (x4 : Int32) (x5 : Int32) (x6 : Int32) (t0 : Int32) (h : Mm) (H : Heap) (locs : List Loc) (ls : Array Slot), mX7_readNumbers_1_49_g50_56 j3 k6 x4 x5 x6 t0 h = some (r, h') → Hp D ad ac LC h s H locs → lv_has ls 8 [(0, .ref (ad 1)), (2, .ref (ad 49)), (3, .ref (ad (51 + j3))), (4, .int x4), (5, .int x5), (6, .int x6)] → W p l e (rmD 2) s m args below meth c H locs 0 0 (MQ below (QU D ad ac LC (some (.int r)) h' s.heap.size) args s 0 0 (Aa ad LC.length s.heap.size)) (F0 m 56 ls [.int t0]) := by
  obtain ⟨hx, hb, hml, hown, hts, hr, hlk, hC, hI, hR⟩ := id X
  intro x4 x5 x6 t0 h H locs ls hm hH hl
  rw [mX7_readNumbers_1_49_g50_56] at hm
  refine lv_istore (lv' := [(7, .int t0), (0, .ref (ad 1)), (2, .ref (ad 49)), (3, .ref (ad (51 + j3))), (4, .int x4), (5, .int x5), (6, .int x6)]) hx hb dX7_readNumbers_56 hl (by decide) rfl (fun ls hl => ?_)
  refine lv_iload hx hb dX7_readNumbers_58 (lv_at hl 6 rfl) ?_
  refine lv_if_eq hx hb dX7_readNumbers_60 (tgt := 87) (by decide) (fun hc => ?_) (fun hc => ?_)
  · rw [if_pos hc] at hm
    refine lv_bipush (v := (-4)) hx hb dX7_readNumbers_87 (by decide) ?_
    cases hm
    exact retI X hH dX7_readNumbers_89
  · rw [if_neg hc] at hm
    refine lv_aload_n hx hb dX7_readNumbers_63 rfl (lv_at hl 2 rfl) ?_
    refine lv_iload hx hb dX7_readNumbers_64 (lv_at hl 5 rfl) ?_
    refine lv_aload_n hx hb dX7_readNumbers_66 rfl (lv_at hl 3 rfl) ?_
    refine lv_iload hx hb dX7_readNumbers_67 (lv_at hl 5 rfl) ?_
    obtain ⟨hin1, hm⟩ := gIn_some hm
    refine ild X hH (gl_50 hj3) hin1 dX7_readNumbers_69 ?_
    obtain ⟨v2, hq, hm⟩ := bd1_some hm
    refine cVi X hH kl_X7_90 kv_X2_allows (mt_X2_allows_49 hq) lC_49 rfl rfl (by decide) hl.1 rfl (Nat.le_of_ble_eq_true rfl) dX7_readNumbers_70 (fun H locs hH => ?_)
    refine lv_if_eq hx hb dX7_readNumbers_73 (tgt := 87) (by decide) (fun hc => ?_) (fun hc => ?_)
    · rw [if_pos hc] at hm
      refine lv_bipush (v := (-4)) hx hb dX7_readNumbers_87 (by decide) ?_
      cases hm
      exact retI X hH dX7_readNumbers_89
    · rw [if_neg hc] at hm
      refine lv_aload_n hx hb dX7_readNumbers_76 rfl (lv_at hl 1 rfl) ?_
      refine lv_iload hx hb dX7_readNumbers_77 (lv_at hl 4 rfl) ?_
      obtain ⟨v3, hq, hm⟩ := bd1_some hm
      refine cVi X hH kl_X7_58 kv_X3_letterAt (mt_X3_letterAt hq) lC_1 rfl rfl (by decide) hl.1 rfl (Nat.le_of_ble_eq_true rfl) dX7_readNumbers_79 (fun H locs hH => ?_)
      refine lv_iload hx hb dX7_readNumbers_82 (lv_at hl 0 rfl) ?_
      refine lv_icmp_eq hx hb dX7_readNumbers_84 (tgt := 90) (by decide) (fun hc => ?_) (fun hc => ?_)
      · rw [if_pos hc] at hm
        refine lv_iinc (k := 4) (v := (x4 + 1)) (lv' := [(4, .int (x4 + 1)), (7, .int t0), (0, .ref (ad 1)), (2, .ref (ad 49)), (3, .ref (ad (51 + j3))), (5, .int x5), (6, .int x6)]) hx hb dX7_readNumbers_90 hl rfl rfl (by decide) rfl (fun ls hl => ?_)
        refine lv_iinc (k := 5) (v := (x5 + 1)) (lv' := [(5, .int (x5 + 1)), (4, .int (x4 + 1)), (7, .int t0), (0, .ref (ad 1)), (2, .ref (ad 49)), (3, .ref (ad (51 + j3))), (6, .int x6)]) hx hb dX7_readNumbers_93 hl rfl rfl (by decide) rfl (fun ls hl => ?_)
        refine lv_goto hx hb dX7_readNumbers_96 (tgt := 6) (by decide) ?_
        exact ih6 (x4 + 1) (x5 + 1) h _ _ _ hm hH (lv_sub hl [3, 4, 5, 1, 0] rfl)
      · rw [if_neg hc] at hm
        refine lv_bipush (v := (-4)) hx hb dX7_readNumbers_87 (by decide) ?_
        cases hm
        exact retI X hH dX7_readNumbers_89
def mX7_readNumbers_1_49_g50_6 (j3 : Nat) : Nat → Int32 → Int32 → Mm → Option (Int32 × Mm)
  | 0, _, _, _ => none
  | n + 1, x4, x5, h => if (nI 5) ≤ x5 then (some (x4, h)) else (bd1 (mX3_figuresAt h x4) (fun v1 => bd1 (mX3_numberAt h x4 v1) (fun v2 => gIn x5 5 (mlet (wr h (51 + j3) x5.toNatClampNeg v2) (fun h3 => mlet (x4 + v1) (fun u5 => if ((nI 5) - (1 : Int32)) ≤ x5 then (mX7_readNumbers_1_49_g50_56 j3 (mX7_readNumbers_1_49_g50_6 j3 n) u5 x5 v1 (59 : Int32) h3) else (mX7_readNumbers_1_49_g50_56 j3 (mX7_readNumbers_1_49_g50_6 j3 n) u5 x5 v1 (44 : Int32) h3)))))))
set_option maxRecDepth 4000 in
theorem wX7_readNumbers_1_49_g50_6 {p : Program} {l : Launch} {e : Env} {s : State} {m : MethodId} {args : Array Value} {below : List Frame} {meth : Method} {c : Code} {D : va_G} {ad : Nat → Nat} {ac : Nat → ClassId} {r : Int32} {h' : Mm} (X : Fx p s m args meth c cX7_readNumbers 8 RX7 (some .int) D ad ac LC rlC) {j3 : Nat} (hj3 : j3 < 4) : ∀ (n : Nat) (x4 : Int32) (x5 : Int32) (h : Mm) (H : Heap) (locs : List Loc) (ls : Array Slot), mX7_readNumbers_1_49_g50_6 j3 n x4 x5 h = some (r, h') → Hp D ad ac LC h s H locs → lv_has ls 8 [(0, .ref (ad 1)), (2, .ref (ad 49)), (3, .ref (ad (51 + j3))), (4, .int x4), (5, .int x5)] → W p l e (rmD 2) s m args below meth c H locs 0 0 (MQ below (QU D ad ac LC (some (.int r)) h' s.heap.size) args s 0 0 (Aa ad LC.length s.heap.size)) (F0 m 6 ls []) := by
  obtain ⟨hx, hb, hml, hown, hts, hr, hlk, hC, hI, hR⟩ := id X
  intro n
  induction n with
  | zero => intro x4 x5 h H locs ls hm; rw [mX7_readNumbers_1_49_g50_6] at hm; cases hm
  | succ n ih =>
    intro x4 x5 h H locs ls hm hH hl
    rw [mX7_readNumbers_1_49_g50_6] at hm
    refine lv_iload hx hb dX7_readNumbers_6 (lv_at hl 4 rfl) ?_
    refine lv_aload_n hx hb dX7_readNumbers_8 rfl (lv_at hl 2 rfl) ?_
    refine aln X hH (gl_50 hj3) (by decide) dX7_readNumbers_9 ?_
    refine lv_icmp_ge hx hb dX7_readNumbers_10 (tgt := 99) (by decide) (fun hc => ?_) (fun hc => ?_)
    · rw [if_pos hc] at hm
      refine lv_iload hx hb dX7_readNumbers_99 (lv_at hl 3 rfl) ?_
      cases hm
      exact retI X hH dX7_readNumbers_101
    · rw [if_neg hc] at hm
      refine lv_aload_n hx hb dX7_readNumbers_13 rfl (lv_at hl 0 rfl) ?_
      refine lv_iload hx hb dX7_readNumbers_14 (lv_at hl 3 rfl) ?_
      obtain ⟨v1, hq, hm⟩ := bd1_some hm
      refine cVi X hH kl_X7_82 kv_X3_figuresAt (mt_X3_figuresAt hq) lC_1 rfl rfl (by decide) hl.1 rfl (Nat.le_of_ble_eq_true rfl) dX7_readNumbers_16 (fun H locs hH => ?_)
      refine lv_istore (lv' := [(6, .int v1), (0, .ref (ad 1)), (2, .ref (ad 49)), (3, .ref (ad (51 + j3))), (4, .int x4), (5, .int x5)]) hx hb dX7_readNumbers_19 hl (by decide) rfl (fun ls hl => ?_)
      refine lv_aload_n hx hb dX7_readNumbers_21 rfl (lv_at hl 3 rfl) ?_
      refine lv_iload hx hb dX7_readNumbers_22 (lv_at hl 5 rfl) ?_
      refine lv_aload_n hx hb dX7_readNumbers_24 rfl (lv_at hl 1 rfl) ?_
      refine lv_iload hx hb dX7_readNumbers_25 (lv_at hl 4 rfl) ?_
      refine lv_iload hx hb dX7_readNumbers_27 (lv_at hl 0 rfl) ?_
      obtain ⟨v2, hq, hm⟩ := bd1_some hm
      refine cVi X hH kl_X7_86 kv_X3_numberAt (mt_X3_numberAt hq) lC_1 rfl rfl (by decide) hl.1 rfl (Nat.le_of_ble_eq_true rfl) dX7_readNumbers_29 (fun H locs hH => ?_)
      obtain ⟨hin4, hm⟩ := gIn_some hm
      obtain ⟨h3, eh3, hm⟩ := mlet_some hm
      refine ist X hH (gl_50 hj3) hin4 dX7_readNumbers_32 (fun H locs hH => ?_)
      rw [← eh3] at hH
      refine lv_iload hx hb dX7_readNumbers_33 (lv_at hl 4 rfl) ?_
      refine lv_iload hx hb dX7_readNumbers_35 (lv_at hl 0 rfl) ?_
      refine lv_iadd hx hb dX7_readNumbers_37 ?_
      obtain ⟨u5, eu5, hm⟩ := mlet_some hm
      refine W.eq (g2 := F0 m 38 ls (.int u5 :: [])) (by rw [eu5]) ?_
      refine lv_istore (lv' := [(4, .int u5), (6, .int v1), (0, .ref (ad 1)), (2, .ref (ad 49)), (3, .ref (ad (51 + j3))), (5, .int x5)]) hx hb dX7_readNumbers_38 hl (by decide) rfl (fun ls hl => ?_)
      refine lv_iload hx hb dX7_readNumbers_40 (lv_at hl 5 rfl) ?_
      refine lv_aload_n hx hb dX7_readNumbers_42 rfl (lv_at hl 4 rfl) ?_
      refine aln X hH (gl_50 hj3) (by decide) dX7_readNumbers_43 ?_
      refine lv_iconst (v := 1) hx hb dX7_readNumbers_44 (by decide) ?_
      refine lv_isub hx hb dX7_readNumbers_45 ?_
      refine lv_icmp_ge hx hb dX7_readNumbers_46 (tgt := 54) (by decide) (fun hc => ?_) (fun hc => ?_)
      · rw [if_pos hc] at hm
        refine lv_bipush (v := 59) hx hb dX7_readNumbers_54 (by decide) ?_
        exact wX7_readNumbers_1_49_g50_56 X hj3 ih u5 x5 v1 (59 : Int32) h3 _ _ _ hm hH (lv_sub hl [2, 3, 4, 0, 5, 1] rfl)
      · rw [if_neg hc] at hm
        refine lv_bipush (v := 44) hx hb dX7_readNumbers_49 (by decide) ?_
        refine lv_goto hx hb dX7_readNumbers_51 (tgt := 56) (by decide) ?_
        exact wX7_readNumbers_1_49_g50_56 X hj3 ih u5 x5 v1 (44 : Int32) h3 _ _ _ hm hH (lv_sub hl [2, 3, 4, 0, 5, 1] rfl)
def mX7_readNumbers_1_49_g50 (j3 : Nat) (h : Mm) (a1 : Int32) : Option (Int32 × Mm) := mX7_readNumbers_1_49_g50_6 j3 FU a1 (0 : Int32) h
set_option maxRecDepth 4000 in
theorem mt_X7_readNumbers_1_49_g50 {l : Launch} {D : va_G} {ad : Nat → Nat} {ac : Nat → ClassId} {h : Mm} {a1 : Int32} {r : Int32} {h' : Mm} {j3 : Nat} (hj3 : j3 < 4) (hm : mX7_readNumbers_1_49_g50 j3 h a1 = some (r, h')) : Mt l D ad ac LC rlC yX7_readNumbers cX7_readNumbers 8 (some .int) 2 [.ref (ad 1), .int a1, .ref (ad 49), .ref (ad (51 + j3))] h (some (.int r)) h' := by
  refine Mt.of (own := RX7) (by decide) rfl (Nat.le_of_ble_eq_true rfl) ?_
  intro p e s m below meth c ls X hH hl
  obtain ⟨hx, hb, hml, hown, hts, hr, hlk, hC, hI, hR⟩ := id X
  have hl : lv_has ls 8 [(0, .ref (ad 1)), (1, .int a1), (2, .ref (ad 49)), (3, .ref (ad (51 + j3)))] := hl
  rw [mX7_readNumbers_1_49_g50] at hm
  refine lv_iload_n hx hb dX7_readNumbers_0 rfl (lv_at hl 1 rfl) ?_
  refine lv_istore (lv' := [(4, .int a1), (0, .ref (ad 1)), (1, .int a1), (2, .ref (ad 49)), (3, .ref (ad (51 + j3)))]) hx hb dX7_readNumbers_1 hl (by decide) rfl (fun ls hl => ?_)
  refine lv_iconst (v := 0) hx hb dX7_readNumbers_3 (by decide) ?_
  refine lv_istore (lv' := [(5, .int (0 : Int32)), (4, .int a1), (0, .ref (ad 1)), (1, .int a1), (2, .ref (ad 49)), (3, .ref (ad (51 + j3)))]) hx hb dX7_readNumbers_4 hl (by decide) rfl (fun ls hl => ?_)
  exact wX7_readNumbers_1_49_g50_6 X hj3 FU a1 (0 : Int32) h _ _ _ hm hH (lv_sub hl [2, 4, 5, 1, 0] rfl)
/-! X2_has_55 -/
def mX2_has_55 (h : Mm) (a1 : Int32) : Option Int32 := if a1 < 0 then (some (0 : Int32)) else (if (h 55 3) ≤ a1 then (some (0 : Int32)) else (some (1 : Int32)))
set_option maxRecDepth 4000 in
theorem mt_X2_has_55 {l : Launch} {D : va_G} {ad : Nat → Nat} {ac : Nat → ClassId} {h : Mm} {a1 : Int32} {r : Int32} (hm : mX2_has_55 h a1 = some r) : Mt l D ad ac LC rlC yX2_has cX2_has 2 (some .boolean) 0 [.ref (ad 55), .int a1] h (some (.int r)) h := by
  refine Mt.of (own := RX2) (by decide) rfl (Nat.le_of_ble_eq_true rfl) ?_
  intro p e s m below meth c ls X hH hl
  obtain ⟨hx, hb, hml, hown, hts, hr, hlk, hC, hI, hR⟩ := id X
  have hl : lv_has ls 2 [(0, .ref (ad 55)), (1, .int a1)] := hl
  rw [mX2_has_55] at hm
  refine lv_iload_n hx hb dX2_has_0 rfl (lv_at hl 1 rfl) ?_
  refine lv_if_lt hx hb dX2_has_1 (tgt := 16) (by decide) (fun hc => ?_) (fun hc => ?_)
  · rw [if_pos hc] at hm
    refine lv_iconst (v := 0) hx hb dX2_has_16 (by decide) ?_
    cases hm
    exact retZ X hH rfl dX2_has_17
  · rw [if_neg hc] at hm
    refine lv_iload_n hx hb dX2_has_4 rfl (lv_at hl 1 rfl) ?_
    refine lv_aload_n hx hb dX2_has_5 rfl (lv_at hl 0 rfl) ?_
    refine gI X hH fl_X2_21 lC_55 rfl dX2_has_6 ?_
    refine lv_icmp_ge hx hb dX2_has_9 (tgt := 16) (by decide) (fun hc => ?_) (fun hc => ?_)
    · rw [if_pos hc] at hm
      refine lv_iconst (v := 0) hx hb dX2_has_16 (by decide) ?_
      cases hm
      exact retZ X hH rfl dX2_has_17
    · rw [if_neg hc] at hm
      refine lv_iconst (v := 1) hx hb dX2_has_12 (by decide) ?_
      refine lv_goto hx hb dX2_has_13 (tgt := 17) (by decide) ?_
      cases hm
      exact retZ X hH rfl dX2_has_17
/-! X2_isFull_55 -/
def mX2_isFull_55 (h : Mm) : Option Int32 := if (h 55 3) < (nI 3) then (some (0 : Int32)) else (some (1 : Int32))
set_option maxRecDepth 4000 in
theorem mt_X2_isFull_55 {l : Launch} {D : va_G} {ad : Nat → Nat} {ac : Nat → ClassId} {h : Mm} {r : Int32} (hm : mX2_isFull_55 h = some r) : Mt l D ad ac LC rlC yX2_isFull cX2_isFull 1 (some .boolean) 0 [.ref (ad 55)] h (some (.int r)) h := by
  refine Mt.of (own := RX2) (by decide) rfl (Nat.le_of_ble_eq_true rfl) ?_
  intro p e s m below meth c ls X hH hl
  obtain ⟨hx, hb, hml, hown, hts, hr, hlk, hC, hI, hR⟩ := id X
  have hl : lv_has ls 1 [(0, .ref (ad 55))] := hl
  rw [mX2_isFull_55] at hm
  refine lv_aload_n hx hb dX2_isFull_0 rfl (lv_at hl 0 rfl) ?_
  refine gI X hH fl_X2_21 lC_55 rfl dX2_isFull_1 ?_
  refine lv_aload_n hx hb dX2_isFull_4 rfl (lv_at hl 0 rfl) ?_
  refine gR X hH fl_X2_18 lC_55 rfl dX2_isFull_5 ?_
  refine alnR X hH lC_56 (Or.inr rfl) (n := 3) rfl dX2_isFull_8 ?_
  refine lv_icmp_lt hx hb dX2_isFull_9 (tgt := 16) (by decide) (fun hc => ?_) (fun hc => ?_)
  · rw [if_pos hc] at hm
    refine lv_iconst (v := 0) hx hb dX2_isFull_16 (by decide) ?_
    cases hm
    exact retZ X hH rfl dX2_isFull_17
  · rw [if_neg hc] at hm
    refine lv_iconst (v := 1) hx hb dX2_isFull_12 (by decide) ?_
    refine lv_goto hx hb dX2_isFull_13 (tgt := 17) (by decide) ?_
    cases hm
    exact retZ X hH rfl dX2_isFull_17
/-! X2_allows_55 -/
def mX2_allows_55 (h : Mm) (a1 : Int32) (a2 : Int32) : Option Int32 := gIn a1 2 (if a2 < (rom2 a1.toNatClampNeg) then (some (0 : Int32)) else (gIn a1 2 (if (rom3 a1.toNatClampNeg) < a2 then (some (0 : Int32)) else (some (1 : Int32)))))
set_option maxRecDepth 4000 in
theorem mt_X2_allows_55 {l : Launch} {D : va_G} {ad : Nat → Nat} {ac : Nat → ClassId} {h : Mm} {a1 : Int32} {a2 : Int32} {r : Int32} (hm : mX2_allows_55 h a1 a2 = some r) : Mt l D ad ac LC rlC yX2_allows cX2_allows 3 (some .boolean) 0 [.ref (ad 55), .int a1, .int a2] h (some (.int r)) h := by
  refine Mt.of (own := RX2) (by decide) rfl (Nat.le_of_ble_eq_true rfl) ?_
  intro p e s m below meth c ls X hH hl
  obtain ⟨hx, hb, hml, hown, hts, hr, hlk, hC, hI, hR⟩ := id X
  have hl : lv_has ls 3 [(0, .ref (ad 55)), (1, .int a1), (2, .int a2)] := hl
  rw [mX2_allows_55] at hm
  refine lv_iload_n hx hb dX2_allows_0 rfl (lv_at hl 2 rfl) ?_
  refine lv_aload_n hx hb dX2_allows_1 rfl (lv_at hl 0 rfl) ?_
  refine gR X hH fl_X2_7 lC_55 rfl dX2_allows_2 ?_
  refine lv_iload_n hx hb dX2_allows_5 rfl (lv_at hl 1 rfl) ?_
  obtain ⟨hin1, hm⟩ := gIn_some hm
  refine rld X hH 2 rfl hin1 dX2_allows_6 ?_
  refine lv_icmp_lt hx hb dX2_allows_7 (tgt := 24) (by decide) (fun hc => ?_) (fun hc => ?_)
  · rw [if_pos hc] at hm
    refine lv_iconst (v := 0) hx hb dX2_allows_24 (by decide) ?_
    cases hm
    exact retZ X hH rfl dX2_allows_25
  · rw [if_neg hc] at hm
    refine lv_iload_n hx hb dX2_allows_10 rfl (lv_at hl 2 rfl) ?_
    refine lv_aload_n hx hb dX2_allows_11 rfl (lv_at hl 0 rfl) ?_
    refine gR X hH fl_X2_13 lC_55 rfl dX2_allows_12 ?_
    refine lv_iload_n hx hb dX2_allows_15 rfl (lv_at hl 1 rfl) ?_
    obtain ⟨hin2, hm⟩ := gIn_some hm
    refine rld X hH 3 rfl hin2 dX2_allows_16 ?_
    refine lv_icmp_gt hx hb dX2_allows_17 (tgt := 24) (by decide) (fun hc => ?_) (fun hc => ?_)
    · rw [if_pos hc] at hm
      refine lv_iconst (v := 0) hx hb dX2_allows_24 (by decide) ?_
      cases hm
      exact retZ X hH rfl dX2_allows_25
    · rw [if_neg hc] at hm
      refine lv_iconst (v := 1) hx hb dX2_allows_20 (by decide) ?_
      refine lv_goto hx hb dX2_allows_21 (tgt := 25) (by decide) ?_
      cases hm
      exact retZ X hH rfl dX2_allows_25
/-! X7_readNumbers_1_55_g56 -/
def mX7_readNumbers_1_55_g56_56 (j3 : Nat) (k6 : Int32 → Int32 → Mm → Option (Int32 × Mm)) (x4 : Int32) (x5 : Int32) (x6 : Int32) (t0 : Int32) (h : Mm) : Option (Int32 × Mm) := if x6 = 0 then (some ((-4 : Int32), h)) else (gIn x5 2 (bd1 (mX2_allows_55 h x5 (h (57 + j3) x5.toNatClampNeg)) (fun v2 => if v2 = 0 then (some ((-4 : Int32), h)) else (bd1 (mX3_letterAt h x4) (fun v3 => if v3 = t0 then (k6 (x4 + 1) (x5 + 1) h) else (some ((-4 : Int32), h)))))))
set_option maxRecDepth 4000 in
theorem wX7_readNumbers_1_55_g56_56 {p : Program} {l : Launch} {e : Env} {s : State} {m : MethodId} {args : Array Value} {below : List Frame} {meth : Method} {c : Code} {D : va_G} {ad : Nat → Nat} {ac : Nat → ClassId} {r : Int32} {h' : Mm} (X : Fx p s m args meth c cX7_readNumbers 8 RX7 (some .int) D ad ac LC rlC) {j3 : Nat} (hj3 : j3 < 3) {k6 : Int32 → Int32 → Mm → Option (Int32 × Mm)} (ih6 : ∀ (x4 : Int32) (x5 : Int32) (h : Mm) (H : Heap) (locs : List Loc) (ls : Array Slot), k6 x4 x5 h = some (r, h') → Hp D ad ac LC h s H locs → lv_has ls 8 [(0, .ref (ad 1)), (2, .ref (ad 55)), (3, .ref (ad (57 + j3))), (4, .int x4), (5, .int x5)] → W p l e (rmD 2) s m args below meth c H locs 0 0 (MQ below (QU D ad ac LC (some (.int r)) h' s.heap.size) args s 0 0 (Aa ad LC.length s.heap.size)) (F0 m 6 ls [])) : ∀ (x4 : Int32) (x5 : Int32) (x6 : Int32) (t0 : Int32) (h : Mm) (H : Heap) (locs : List Loc) (ls : Array Slot), mX7_readNumbers_1_55_g56_56 j3 k6 x4 x5 x6 t0 h = some (r, h') → Hp D ad ac LC h s H locs → lv_has ls 8 [(0, .ref (ad 1)), (2, .ref (ad 55)), (3, .ref (ad (57 + j3))), (4, .int x4), (5, .int x5), (6, .int x6)] → W p l e (rmD 2) s m args below meth c H locs 0 0 (MQ below (QU D ad ac LC (some (.int r)) h' s.heap.size) args s 0 0 (Aa ad LC.length s.heap.size)) (F0 m 56 ls [.int t0]) := by
  obtain ⟨hx, hb, hml, hown, hts, hr, hlk, hC, hI, hR⟩ := id X
  intro x4 x5 x6 t0 h H locs ls hm hH hl
  rw [mX7_readNumbers_1_55_g56_56] at hm
  refine lv_istore (lv' := [(7, .int t0), (0, .ref (ad 1)), (2, .ref (ad 55)), (3, .ref (ad (57 + j3))), (4, .int x4), (5, .int x5), (6, .int x6)]) hx hb dX7_readNumbers_56 hl (by decide) rfl (fun ls hl => ?_)
  refine lv_iload hx hb dX7_readNumbers_58 (lv_at hl 6 rfl) ?_
  refine lv_if_eq hx hb dX7_readNumbers_60 (tgt := 87) (by decide) (fun hc => ?_) (fun hc => ?_)
  · rw [if_pos hc] at hm
    refine lv_bipush (v := (-4)) hx hb dX7_readNumbers_87 (by decide) ?_
    cases hm
    exact retI X hH dX7_readNumbers_89
  · rw [if_neg hc] at hm
    refine lv_aload_n hx hb dX7_readNumbers_63 rfl (lv_at hl 2 rfl) ?_
    refine lv_iload hx hb dX7_readNumbers_64 (lv_at hl 5 rfl) ?_
    refine lv_aload_n hx hb dX7_readNumbers_66 rfl (lv_at hl 3 rfl) ?_
    refine lv_iload hx hb dX7_readNumbers_67 (lv_at hl 5 rfl) ?_
    obtain ⟨hin1, hm⟩ := gIn_some hm
    refine ild X hH (gl_56 hj3) hin1 dX7_readNumbers_69 ?_
    obtain ⟨v2, hq, hm⟩ := bd1_some hm
    refine cVi X hH kl_X7_90 kv_X2_allows (mt_X2_allows_55 hq) lC_55 rfl rfl (by decide) hl.1 rfl (Nat.le_of_ble_eq_true rfl) dX7_readNumbers_70 (fun H locs hH => ?_)
    refine lv_if_eq hx hb dX7_readNumbers_73 (tgt := 87) (by decide) (fun hc => ?_) (fun hc => ?_)
    · rw [if_pos hc] at hm
      refine lv_bipush (v := (-4)) hx hb dX7_readNumbers_87 (by decide) ?_
      cases hm
      exact retI X hH dX7_readNumbers_89
    · rw [if_neg hc] at hm
      refine lv_aload_n hx hb dX7_readNumbers_76 rfl (lv_at hl 1 rfl) ?_
      refine lv_iload hx hb dX7_readNumbers_77 (lv_at hl 4 rfl) ?_
      obtain ⟨v3, hq, hm⟩ := bd1_some hm
      refine cVi X hH kl_X7_58 kv_X3_letterAt (mt_X3_letterAt hq) lC_1 rfl rfl (by decide) hl.1 rfl (Nat.le_of_ble_eq_true rfl) dX7_readNumbers_79 (fun H locs hH => ?_)
      refine lv_iload hx hb dX7_readNumbers_82 (lv_at hl 0 rfl) ?_
      refine lv_icmp_eq hx hb dX7_readNumbers_84 (tgt := 90) (by decide) (fun hc => ?_) (fun hc => ?_)
      · rw [if_pos hc] at hm
        refine lv_iinc (k := 4) (v := (x4 + 1)) (lv' := [(4, .int (x4 + 1)), (7, .int t0), (0, .ref (ad 1)), (2, .ref (ad 55)), (3, .ref (ad (57 + j3))), (5, .int x5), (6, .int x6)]) hx hb dX7_readNumbers_90 hl rfl rfl (by decide) rfl (fun ls hl => ?_)
        refine lv_iinc (k := 5) (v := (x5 + 1)) (lv' := [(5, .int (x5 + 1)), (4, .int (x4 + 1)), (7, .int t0), (0, .ref (ad 1)), (2, .ref (ad 55)), (3, .ref (ad (57 + j3))), (6, .int x6)]) hx hb dX7_readNumbers_93 hl rfl rfl (by decide) rfl (fun ls hl => ?_)
        refine lv_goto hx hb dX7_readNumbers_96 (tgt := 6) (by decide) ?_
        exact ih6 (x4 + 1) (x5 + 1) h _ _ _ hm hH (lv_sub hl [3, 4, 5, 1, 0] rfl)
      · rw [if_neg hc] at hm
        refine lv_bipush (v := (-4)) hx hb dX7_readNumbers_87 (by decide) ?_
        cases hm
        exact retI X hH dX7_readNumbers_89
def mX7_readNumbers_1_55_g56_6 (j3 : Nat) : Nat → Int32 → Int32 → Mm → Option (Int32 × Mm)
  | 0, _, _, _ => none
  | n + 1, x4, x5, h => if (nI 2) ≤ x5 then (some (x4, h)) else (bd1 (mX3_figuresAt h x4) (fun v1 => bd1 (mX3_numberAt h x4 v1) (fun v2 => gIn x5 2 (mlet (wr h (57 + j3) x5.toNatClampNeg v2) (fun h3 => mlet (x4 + v1) (fun u5 => if ((nI 2) - (1 : Int32)) ≤ x5 then (mX7_readNumbers_1_55_g56_56 j3 (mX7_readNumbers_1_55_g56_6 j3 n) u5 x5 v1 (59 : Int32) h3) else (mX7_readNumbers_1_55_g56_56 j3 (mX7_readNumbers_1_55_g56_6 j3 n) u5 x5 v1 (44 : Int32) h3)))))))
set_option maxRecDepth 4000 in
theorem wX7_readNumbers_1_55_g56_6 {p : Program} {l : Launch} {e : Env} {s : State} {m : MethodId} {args : Array Value} {below : List Frame} {meth : Method} {c : Code} {D : va_G} {ad : Nat → Nat} {ac : Nat → ClassId} {r : Int32} {h' : Mm} (X : Fx p s m args meth c cX7_readNumbers 8 RX7 (some .int) D ad ac LC rlC) {j3 : Nat} (hj3 : j3 < 3) : ∀ (n : Nat) (x4 : Int32) (x5 : Int32) (h : Mm) (H : Heap) (locs : List Loc) (ls : Array Slot), mX7_readNumbers_1_55_g56_6 j3 n x4 x5 h = some (r, h') → Hp D ad ac LC h s H locs → lv_has ls 8 [(0, .ref (ad 1)), (2, .ref (ad 55)), (3, .ref (ad (57 + j3))), (4, .int x4), (5, .int x5)] → W p l e (rmD 2) s m args below meth c H locs 0 0 (MQ below (QU D ad ac LC (some (.int r)) h' s.heap.size) args s 0 0 (Aa ad LC.length s.heap.size)) (F0 m 6 ls []) := by
  obtain ⟨hx, hb, hml, hown, hts, hr, hlk, hC, hI, hR⟩ := id X
  intro n
  induction n with
  | zero => intro x4 x5 h H locs ls hm; rw [mX7_readNumbers_1_55_g56_6] at hm; cases hm
  | succ n ih =>
    intro x4 x5 h H locs ls hm hH hl
    rw [mX7_readNumbers_1_55_g56_6] at hm
    refine lv_iload hx hb dX7_readNumbers_6 (lv_at hl 4 rfl) ?_
    refine lv_aload_n hx hb dX7_readNumbers_8 rfl (lv_at hl 2 rfl) ?_
    refine aln X hH (gl_56 hj3) (by decide) dX7_readNumbers_9 ?_
    refine lv_icmp_ge hx hb dX7_readNumbers_10 (tgt := 99) (by decide) (fun hc => ?_) (fun hc => ?_)
    · rw [if_pos hc] at hm
      refine lv_iload hx hb dX7_readNumbers_99 (lv_at hl 3 rfl) ?_
      cases hm
      exact retI X hH dX7_readNumbers_101
    · rw [if_neg hc] at hm
      refine lv_aload_n hx hb dX7_readNumbers_13 rfl (lv_at hl 0 rfl) ?_
      refine lv_iload hx hb dX7_readNumbers_14 (lv_at hl 3 rfl) ?_
      obtain ⟨v1, hq, hm⟩ := bd1_some hm
      refine cVi X hH kl_X7_82 kv_X3_figuresAt (mt_X3_figuresAt hq) lC_1 rfl rfl (by decide) hl.1 rfl (Nat.le_of_ble_eq_true rfl) dX7_readNumbers_16 (fun H locs hH => ?_)
      refine lv_istore (lv' := [(6, .int v1), (0, .ref (ad 1)), (2, .ref (ad 55)), (3, .ref (ad (57 + j3))), (4, .int x4), (5, .int x5)]) hx hb dX7_readNumbers_19 hl (by decide) rfl (fun ls hl => ?_)
      refine lv_aload_n hx hb dX7_readNumbers_21 rfl (lv_at hl 3 rfl) ?_
      refine lv_iload hx hb dX7_readNumbers_22 (lv_at hl 5 rfl) ?_
      refine lv_aload_n hx hb dX7_readNumbers_24 rfl (lv_at hl 1 rfl) ?_
      refine lv_iload hx hb dX7_readNumbers_25 (lv_at hl 4 rfl) ?_
      refine lv_iload hx hb dX7_readNumbers_27 (lv_at hl 0 rfl) ?_
      obtain ⟨v2, hq, hm⟩ := bd1_some hm
      refine cVi X hH kl_X7_86 kv_X3_numberAt (mt_X3_numberAt hq) lC_1 rfl rfl (by decide) hl.1 rfl (Nat.le_of_ble_eq_true rfl) dX7_readNumbers_29 (fun H locs hH => ?_)
      obtain ⟨hin4, hm⟩ := gIn_some hm
      obtain ⟨h3, eh3, hm⟩ := mlet_some hm
      refine ist X hH (gl_56 hj3) hin4 dX7_readNumbers_32 (fun H locs hH => ?_)
      rw [← eh3] at hH
      refine lv_iload hx hb dX7_readNumbers_33 (lv_at hl 4 rfl) ?_
      refine lv_iload hx hb dX7_readNumbers_35 (lv_at hl 0 rfl) ?_
      refine lv_iadd hx hb dX7_readNumbers_37 ?_
      obtain ⟨u5, eu5, hm⟩ := mlet_some hm
      refine W.eq (g2 := F0 m 38 ls (.int u5 :: [])) (by rw [eu5]) ?_
      refine lv_istore (lv' := [(4, .int u5), (6, .int v1), (0, .ref (ad 1)), (2, .ref (ad 55)), (3, .ref (ad (57 + j3))), (5, .int x5)]) hx hb dX7_readNumbers_38 hl (by decide) rfl (fun ls hl => ?_)
      refine lv_iload hx hb dX7_readNumbers_40 (lv_at hl 5 rfl) ?_
      refine lv_aload_n hx hb dX7_readNumbers_42 rfl (lv_at hl 4 rfl) ?_
      refine aln X hH (gl_56 hj3) (by decide) dX7_readNumbers_43 ?_
      refine lv_iconst (v := 1) hx hb dX7_readNumbers_44 (by decide) ?_
      refine lv_isub hx hb dX7_readNumbers_45 ?_
      refine lv_icmp_ge hx hb dX7_readNumbers_46 (tgt := 54) (by decide) (fun hc => ?_) (fun hc => ?_)
      · rw [if_pos hc] at hm
        refine lv_bipush (v := 59) hx hb dX7_readNumbers_54 (by decide) ?_
        exact wX7_readNumbers_1_55_g56_56 X hj3 ih u5 x5 v1 (59 : Int32) h3 _ _ _ hm hH (lv_sub hl [2, 3, 4, 0, 5, 1] rfl)
      · rw [if_neg hc] at hm
        refine lv_bipush (v := 44) hx hb dX7_readNumbers_49 (by decide) ?_
        refine lv_goto hx hb dX7_readNumbers_51 (tgt := 56) (by decide) ?_
        exact wX7_readNumbers_1_55_g56_56 X hj3 ih u5 x5 v1 (44 : Int32) h3 _ _ _ hm hH (lv_sub hl [2, 3, 4, 0, 5, 1] rfl)
def mX7_readNumbers_1_55_g56 (j3 : Nat) (h : Mm) (a1 : Int32) : Option (Int32 × Mm) := mX7_readNumbers_1_55_g56_6 j3 FU a1 (0 : Int32) h
set_option maxRecDepth 4000 in
theorem mt_X7_readNumbers_1_55_g56 {l : Launch} {D : va_G} {ad : Nat → Nat} {ac : Nat → ClassId} {h : Mm} {a1 : Int32} {r : Int32} {h' : Mm} {j3 : Nat} (hj3 : j3 < 3) (hm : mX7_readNumbers_1_55_g56 j3 h a1 = some (r, h')) : Mt l D ad ac LC rlC yX7_readNumbers cX7_readNumbers 8 (some .int) 2 [.ref (ad 1), .int a1, .ref (ad 55), .ref (ad (57 + j3))] h (some (.int r)) h' := by
  refine Mt.of (own := RX7) (by decide) rfl (Nat.le_of_ble_eq_true rfl) ?_
  intro p e s m below meth c ls X hH hl
  obtain ⟨hx, hb, hml, hown, hts, hr, hlk, hC, hI, hR⟩ := id X
  have hl : lv_has ls 8 [(0, .ref (ad 1)), (1, .int a1), (2, .ref (ad 55)), (3, .ref (ad (57 + j3)))] := hl
  rw [mX7_readNumbers_1_55_g56] at hm
  refine lv_iload_n hx hb dX7_readNumbers_0 rfl (lv_at hl 1 rfl) ?_
  refine lv_istore (lv' := [(4, .int a1), (0, .ref (ad 1)), (1, .int a1), (2, .ref (ad 55)), (3, .ref (ad (57 + j3)))]) hx hb dX7_readNumbers_1 hl (by decide) rfl (fun ls hl => ?_)
  refine lv_iconst (v := 0) hx hb dX7_readNumbers_3 (by decide) ?_
  refine lv_istore (lv' := [(5, .int (0 : Int32)), (4, .int a1), (0, .ref (ad 1)), (1, .int a1), (2, .ref (ad 55)), (3, .ref (ad (57 + j3)))]) hx hb dX7_readNumbers_4 hl (by decide) rfl (fun ls hl => ?_)
  exact wX7_readNumbers_1_55_g56_6 X hj3 FU a1 (0 : Int32) h _ _ _ hm hH (lv_sub hl [2, 4, 5, 1, 0] rfl)
/-! X2_isFull_60 -/
def mX2_isFull_60 (h : Mm) : Option Int32 := if (h 60 3) < (nI 4) then (some (0 : Int32)) else (some (1 : Int32))
set_option maxRecDepth 4000 in
theorem mt_X2_isFull_60 {l : Launch} {D : va_G} {ad : Nat → Nat} {ac : Nat → ClassId} {h : Mm} {r : Int32} (hm : mX2_isFull_60 h = some r) : Mt l D ad ac LC rlC yX2_isFull cX2_isFull 1 (some .boolean) 0 [.ref (ad 60)] h (some (.int r)) h := by
  refine Mt.of (own := RX2) (by decide) rfl (Nat.le_of_ble_eq_true rfl) ?_
  intro p e s m below meth c ls X hH hl
  obtain ⟨hx, hb, hml, hown, hts, hr, hlk, hC, hI, hR⟩ := id X
  have hl : lv_has ls 1 [(0, .ref (ad 60))] := hl
  rw [mX2_isFull_60] at hm
  refine lv_aload_n hx hb dX2_isFull_0 rfl (lv_at hl 0 rfl) ?_
  refine gI X hH fl_X2_21 lC_60 rfl dX2_isFull_1 ?_
  refine lv_aload_n hx hb dX2_isFull_4 rfl (lv_at hl 0 rfl) ?_
  refine gR X hH fl_X2_18 lC_60 rfl dX2_isFull_5 ?_
  refine alnR X hH lC_61 (Or.inr rfl) (n := 4) rfl dX2_isFull_8 ?_
  refine lv_icmp_lt hx hb dX2_isFull_9 (tgt := 16) (by decide) (fun hc => ?_) (fun hc => ?_)
  · rw [if_pos hc] at hm
    refine lv_iconst (v := 0) hx hb dX2_isFull_16 (by decide) ?_
    cases hm
    exact retZ X hH rfl dX2_isFull_17
  · rw [if_neg hc] at hm
    refine lv_iconst (v := 1) hx hb dX2_isFull_12 (by decide) ?_
    refine lv_goto hx hb dX2_isFull_13 (tgt := 17) (by decide) ?_
    cases hm
    exact retZ X hH rfl dX2_isFull_17
/-! X2_allows_60 -/
def mX2_allows_60 (h : Mm) (a1 : Int32) (a2 : Int32) : Option Int32 := gIn a1 3 (if a2 < (rom4 a1.toNatClampNeg) then (some (0 : Int32)) else (gIn a1 3 (if (rom5 a1.toNatClampNeg) < a2 then (some (0 : Int32)) else (some (1 : Int32)))))
set_option maxRecDepth 4000 in
theorem mt_X2_allows_60 {l : Launch} {D : va_G} {ad : Nat → Nat} {ac : Nat → ClassId} {h : Mm} {a1 : Int32} {a2 : Int32} {r : Int32} (hm : mX2_allows_60 h a1 a2 = some r) : Mt l D ad ac LC rlC yX2_allows cX2_allows 3 (some .boolean) 0 [.ref (ad 60), .int a1, .int a2] h (some (.int r)) h := by
  refine Mt.of (own := RX2) (by decide) rfl (Nat.le_of_ble_eq_true rfl) ?_
  intro p e s m below meth c ls X hH hl
  obtain ⟨hx, hb, hml, hown, hts, hr, hlk, hC, hI, hR⟩ := id X
  have hl : lv_has ls 3 [(0, .ref (ad 60)), (1, .int a1), (2, .int a2)] := hl
  rw [mX2_allows_60] at hm
  refine lv_iload_n hx hb dX2_allows_0 rfl (lv_at hl 2 rfl) ?_
  refine lv_aload_n hx hb dX2_allows_1 rfl (lv_at hl 0 rfl) ?_
  refine gR X hH fl_X2_7 lC_60 rfl dX2_allows_2 ?_
  refine lv_iload_n hx hb dX2_allows_5 rfl (lv_at hl 1 rfl) ?_
  obtain ⟨hin1, hm⟩ := gIn_some hm
  refine rld X hH 4 rfl hin1 dX2_allows_6 ?_
  refine lv_icmp_lt hx hb dX2_allows_7 (tgt := 24) (by decide) (fun hc => ?_) (fun hc => ?_)
  · rw [if_pos hc] at hm
    refine lv_iconst (v := 0) hx hb dX2_allows_24 (by decide) ?_
    cases hm
    exact retZ X hH rfl dX2_allows_25
  · rw [if_neg hc] at hm
    refine lv_iload_n hx hb dX2_allows_10 rfl (lv_at hl 2 rfl) ?_
    refine lv_aload_n hx hb dX2_allows_11 rfl (lv_at hl 0 rfl) ?_
    refine gR X hH fl_X2_13 lC_60 rfl dX2_allows_12 ?_
    refine lv_iload_n hx hb dX2_allows_15 rfl (lv_at hl 1 rfl) ?_
    obtain ⟨hin2, hm⟩ := gIn_some hm
    refine rld X hH 5 rfl hin2 dX2_allows_16 ?_
    refine lv_icmp_gt hx hb dX2_allows_17 (tgt := 24) (by decide) (fun hc => ?_) (fun hc => ?_)
    · rw [if_pos hc] at hm
      refine lv_iconst (v := 0) hx hb dX2_allows_24 (by decide) ?_
      cases hm
      exact retZ X hH rfl dX2_allows_25
    · rw [if_neg hc] at hm
      refine lv_iconst (v := 1) hx hb dX2_allows_20 (by decide) ?_
      refine lv_goto hx hb dX2_allows_21 (tgt := 25) (by decide) ?_
      cases hm
      exact retZ X hH rfl dX2_allows_25
/-! X7_readNumbers_1_60_g61 -/
def mX7_readNumbers_1_60_g61_56 (j3 : Nat) (k6 : Int32 → Int32 → Mm → Option (Int32 × Mm)) (x4 : Int32) (x5 : Int32) (x6 : Int32) (t0 : Int32) (h : Mm) : Option (Int32 × Mm) := if x6 = 0 then (some ((-4 : Int32), h)) else (gIn x5 3 (bd1 (mX2_allows_60 h x5 (h (62 + j3) x5.toNatClampNeg)) (fun v2 => if v2 = 0 then (some ((-4 : Int32), h)) else (bd1 (mX3_letterAt h x4) (fun v3 => if v3 = t0 then (k6 (x4 + 1) (x5 + 1) h) else (some ((-4 : Int32), h)))))))
set_option maxRecDepth 4000 in
theorem wX7_readNumbers_1_60_g61_56 {p : Program} {l : Launch} {e : Env} {s : State} {m : MethodId} {args : Array Value} {below : List Frame} {meth : Method} {c : Code} {D : va_G} {ad : Nat → Nat} {ac : Nat → ClassId} {r : Int32} {h' : Mm} (X : Fx p s m args meth c cX7_readNumbers 8 RX7 (some .int) D ad ac LC rlC) {j3 : Nat} (hj3 : j3 < 4) {k6 : Int32 → Int32 → Mm → Option (Int32 × Mm)} (ih6 : ∀ (x4 : Int32) (x5 : Int32) (h : Mm) (H : Heap) (locs : List Loc) (ls : Array Slot), k6 x4 x5 h = some (r, h') → Hp D ad ac LC h s H locs → lv_has ls 8 [(0, .ref (ad 1)), (2, .ref (ad 60)), (3, .ref (ad (62 + j3))), (4, .int x4), (5, .int x5)] → W p l e (rmD 2) s m args below meth c H locs 0 0 (MQ below (QU D ad ac LC (some (.int r)) h' s.heap.size) args s 0 0 (Aa ad LC.length s.heap.size)) (F0 m 6 ls [])) : ∀ (x4 : Int32) (x5 : Int32) (x6 : Int32) (t0 : Int32) (h : Mm) (H : Heap) (locs : List Loc) (ls : Array Slot), mX7_readNumbers_1_60_g61_56 j3 k6 x4 x5 x6 t0 h = some (r, h') → Hp D ad ac LC h s H locs → lv_has ls 8 [(0, .ref (ad 1)), (2, .ref (ad 60)), (3, .ref (ad (62 + j3))), (4, .int x4), (5, .int x5), (6, .int x6)] → W p l e (rmD 2) s m args below meth c H locs 0 0 (MQ below (QU D ad ac LC (some (.int r)) h' s.heap.size) args s 0 0 (Aa ad LC.length s.heap.size)) (F0 m 56 ls [.int t0]) := by
  obtain ⟨hx, hb, hml, hown, hts, hr, hlk, hC, hI, hR⟩ := id X
  intro x4 x5 x6 t0 h H locs ls hm hH hl
  rw [mX7_readNumbers_1_60_g61_56] at hm
  refine lv_istore (lv' := [(7, .int t0), (0, .ref (ad 1)), (2, .ref (ad 60)), (3, .ref (ad (62 + j3))), (4, .int x4), (5, .int x5), (6, .int x6)]) hx hb dX7_readNumbers_56 hl (by decide) rfl (fun ls hl => ?_)
  refine lv_iload hx hb dX7_readNumbers_58 (lv_at hl 6 rfl) ?_
  refine lv_if_eq hx hb dX7_readNumbers_60 (tgt := 87) (by decide) (fun hc => ?_) (fun hc => ?_)
  · rw [if_pos hc] at hm
    refine lv_bipush (v := (-4)) hx hb dX7_readNumbers_87 (by decide) ?_
    cases hm
    exact retI X hH dX7_readNumbers_89
  · rw [if_neg hc] at hm
    refine lv_aload_n hx hb dX7_readNumbers_63 rfl (lv_at hl 2 rfl) ?_
    refine lv_iload hx hb dX7_readNumbers_64 (lv_at hl 5 rfl) ?_
    refine lv_aload_n hx hb dX7_readNumbers_66 rfl (lv_at hl 3 rfl) ?_
    refine lv_iload hx hb dX7_readNumbers_67 (lv_at hl 5 rfl) ?_
    obtain ⟨hin1, hm⟩ := gIn_some hm
    refine ild X hH (gl_61 hj3) hin1 dX7_readNumbers_69 ?_
    obtain ⟨v2, hq, hm⟩ := bd1_some hm
    refine cVi X hH kl_X7_90 kv_X2_allows (mt_X2_allows_60 hq) lC_60 rfl rfl (by decide) hl.1 rfl (Nat.le_of_ble_eq_true rfl) dX7_readNumbers_70 (fun H locs hH => ?_)
    refine lv_if_eq hx hb dX7_readNumbers_73 (tgt := 87) (by decide) (fun hc => ?_) (fun hc => ?_)
    · rw [if_pos hc] at hm
      refine lv_bipush (v := (-4)) hx hb dX7_readNumbers_87 (by decide) ?_
      cases hm
      exact retI X hH dX7_readNumbers_89
    · rw [if_neg hc] at hm
      refine lv_aload_n hx hb dX7_readNumbers_76 rfl (lv_at hl 1 rfl) ?_
      refine lv_iload hx hb dX7_readNumbers_77 (lv_at hl 4 rfl) ?_
      obtain ⟨v3, hq, hm⟩ := bd1_some hm
      refine cVi X hH kl_X7_58 kv_X3_letterAt (mt_X3_letterAt hq) lC_1 rfl rfl (by decide) hl.1 rfl (Nat.le_of_ble_eq_true rfl) dX7_readNumbers_79 (fun H locs hH => ?_)
      refine lv_iload hx hb dX7_readNumbers_82 (lv_at hl 0 rfl) ?_
      refine lv_icmp_eq hx hb dX7_readNumbers_84 (tgt := 90) (by decide) (fun hc => ?_) (fun hc => ?_)
      · rw [if_pos hc] at hm
        refine lv_iinc (k := 4) (v := (x4 + 1)) (lv' := [(4, .int (x4 + 1)), (7, .int t0), (0, .ref (ad 1)), (2, .ref (ad 60)), (3, .ref (ad (62 + j3))), (5, .int x5), (6, .int x6)]) hx hb dX7_readNumbers_90 hl rfl rfl (by decide) rfl (fun ls hl => ?_)
        refine lv_iinc (k := 5) (v := (x5 + 1)) (lv' := [(5, .int (x5 + 1)), (4, .int (x4 + 1)), (7, .int t0), (0, .ref (ad 1)), (2, .ref (ad 60)), (3, .ref (ad (62 + j3))), (6, .int x6)]) hx hb dX7_readNumbers_93 hl rfl rfl (by decide) rfl (fun ls hl => ?_)
        refine lv_goto hx hb dX7_readNumbers_96 (tgt := 6) (by decide) ?_
        exact ih6 (x4 + 1) (x5 + 1) h _ _ _ hm hH (lv_sub hl [3, 4, 5, 1, 0] rfl)
      · rw [if_neg hc] at hm
        refine lv_bipush (v := (-4)) hx hb dX7_readNumbers_87 (by decide) ?_
        cases hm
        exact retI X hH dX7_readNumbers_89
def mX7_readNumbers_1_60_g61_6 (j3 : Nat) : Nat → Int32 → Int32 → Mm → Option (Int32 × Mm)
  | 0, _, _, _ => none
  | n + 1, x4, x5, h => if (nI 3) ≤ x5 then (some (x4, h)) else (bd1 (mX3_figuresAt h x4) (fun v1 => bd1 (mX3_numberAt h x4 v1) (fun v2 => gIn x5 3 (mlet (wr h (62 + j3) x5.toNatClampNeg v2) (fun h3 => mlet (x4 + v1) (fun u5 => if ((nI 3) - (1 : Int32)) ≤ x5 then (mX7_readNumbers_1_60_g61_56 j3 (mX7_readNumbers_1_60_g61_6 j3 n) u5 x5 v1 (59 : Int32) h3) else (mX7_readNumbers_1_60_g61_56 j3 (mX7_readNumbers_1_60_g61_6 j3 n) u5 x5 v1 (44 : Int32) h3)))))))
set_option maxRecDepth 4000 in
theorem wX7_readNumbers_1_60_g61_6 {p : Program} {l : Launch} {e : Env} {s : State} {m : MethodId} {args : Array Value} {below : List Frame} {meth : Method} {c : Code} {D : va_G} {ad : Nat → Nat} {ac : Nat → ClassId} {r : Int32} {h' : Mm} (X : Fx p s m args meth c cX7_readNumbers 8 RX7 (some .int) D ad ac LC rlC) {j3 : Nat} (hj3 : j3 < 4) : ∀ (n : Nat) (x4 : Int32) (x5 : Int32) (h : Mm) (H : Heap) (locs : List Loc) (ls : Array Slot), mX7_readNumbers_1_60_g61_6 j3 n x4 x5 h = some (r, h') → Hp D ad ac LC h s H locs → lv_has ls 8 [(0, .ref (ad 1)), (2, .ref (ad 60)), (3, .ref (ad (62 + j3))), (4, .int x4), (5, .int x5)] → W p l e (rmD 2) s m args below meth c H locs 0 0 (MQ below (QU D ad ac LC (some (.int r)) h' s.heap.size) args s 0 0 (Aa ad LC.length s.heap.size)) (F0 m 6 ls []) := by
  obtain ⟨hx, hb, hml, hown, hts, hr, hlk, hC, hI, hR⟩ := id X
  intro n
  induction n with
  | zero => intro x4 x5 h H locs ls hm; rw [mX7_readNumbers_1_60_g61_6] at hm; cases hm
  | succ n ih =>
    intro x4 x5 h H locs ls hm hH hl
    rw [mX7_readNumbers_1_60_g61_6] at hm
    refine lv_iload hx hb dX7_readNumbers_6 (lv_at hl 4 rfl) ?_
    refine lv_aload_n hx hb dX7_readNumbers_8 rfl (lv_at hl 2 rfl) ?_
    refine aln X hH (gl_61 hj3) (by decide) dX7_readNumbers_9 ?_
    refine lv_icmp_ge hx hb dX7_readNumbers_10 (tgt := 99) (by decide) (fun hc => ?_) (fun hc => ?_)
    · rw [if_pos hc] at hm
      refine lv_iload hx hb dX7_readNumbers_99 (lv_at hl 3 rfl) ?_
      cases hm
      exact retI X hH dX7_readNumbers_101
    · rw [if_neg hc] at hm
      refine lv_aload_n hx hb dX7_readNumbers_13 rfl (lv_at hl 0 rfl) ?_
      refine lv_iload hx hb dX7_readNumbers_14 (lv_at hl 3 rfl) ?_
      obtain ⟨v1, hq, hm⟩ := bd1_some hm
      refine cVi X hH kl_X7_82 kv_X3_figuresAt (mt_X3_figuresAt hq) lC_1 rfl rfl (by decide) hl.1 rfl (Nat.le_of_ble_eq_true rfl) dX7_readNumbers_16 (fun H locs hH => ?_)
      refine lv_istore (lv' := [(6, .int v1), (0, .ref (ad 1)), (2, .ref (ad 60)), (3, .ref (ad (62 + j3))), (4, .int x4), (5, .int x5)]) hx hb dX7_readNumbers_19 hl (by decide) rfl (fun ls hl => ?_)
      refine lv_aload_n hx hb dX7_readNumbers_21 rfl (lv_at hl 3 rfl) ?_
      refine lv_iload hx hb dX7_readNumbers_22 (lv_at hl 5 rfl) ?_
      refine lv_aload_n hx hb dX7_readNumbers_24 rfl (lv_at hl 1 rfl) ?_
      refine lv_iload hx hb dX7_readNumbers_25 (lv_at hl 4 rfl) ?_
      refine lv_iload hx hb dX7_readNumbers_27 (lv_at hl 0 rfl) ?_
      obtain ⟨v2, hq, hm⟩ := bd1_some hm
      refine cVi X hH kl_X7_86 kv_X3_numberAt (mt_X3_numberAt hq) lC_1 rfl rfl (by decide) hl.1 rfl (Nat.le_of_ble_eq_true rfl) dX7_readNumbers_29 (fun H locs hH => ?_)
      obtain ⟨hin4, hm⟩ := gIn_some hm
      obtain ⟨h3, eh3, hm⟩ := mlet_some hm
      refine ist X hH (gl_61 hj3) hin4 dX7_readNumbers_32 (fun H locs hH => ?_)
      rw [← eh3] at hH
      refine lv_iload hx hb dX7_readNumbers_33 (lv_at hl 4 rfl) ?_
      refine lv_iload hx hb dX7_readNumbers_35 (lv_at hl 0 rfl) ?_
      refine lv_iadd hx hb dX7_readNumbers_37 ?_
      obtain ⟨u5, eu5, hm⟩ := mlet_some hm
      refine W.eq (g2 := F0 m 38 ls (.int u5 :: [])) (by rw [eu5]) ?_
      refine lv_istore (lv' := [(4, .int u5), (6, .int v1), (0, .ref (ad 1)), (2, .ref (ad 60)), (3, .ref (ad (62 + j3))), (5, .int x5)]) hx hb dX7_readNumbers_38 hl (by decide) rfl (fun ls hl => ?_)
      refine lv_iload hx hb dX7_readNumbers_40 (lv_at hl 5 rfl) ?_
      refine lv_aload_n hx hb dX7_readNumbers_42 rfl (lv_at hl 4 rfl) ?_
      refine aln X hH (gl_61 hj3) (by decide) dX7_readNumbers_43 ?_
      refine lv_iconst (v := 1) hx hb dX7_readNumbers_44 (by decide) ?_
      refine lv_isub hx hb dX7_readNumbers_45 ?_
      refine lv_icmp_ge hx hb dX7_readNumbers_46 (tgt := 54) (by decide) (fun hc => ?_) (fun hc => ?_)
      · rw [if_pos hc] at hm
        refine lv_bipush (v := 59) hx hb dX7_readNumbers_54 (by decide) ?_
        exact wX7_readNumbers_1_60_g61_56 X hj3 ih u5 x5 v1 (59 : Int32) h3 _ _ _ hm hH (lv_sub hl [2, 3, 4, 0, 5, 1] rfl)
      · rw [if_neg hc] at hm
        refine lv_bipush (v := 44) hx hb dX7_readNumbers_49 (by decide) ?_
        refine lv_goto hx hb dX7_readNumbers_51 (tgt := 56) (by decide) ?_
        exact wX7_readNumbers_1_60_g61_56 X hj3 ih u5 x5 v1 (44 : Int32) h3 _ _ _ hm hH (lv_sub hl [2, 3, 4, 0, 5, 1] rfl)
def mX7_readNumbers_1_60_g61 (j3 : Nat) (h : Mm) (a1 : Int32) : Option (Int32 × Mm) := mX7_readNumbers_1_60_g61_6 j3 FU a1 (0 : Int32) h
set_option maxRecDepth 4000 in
theorem mt_X7_readNumbers_1_60_g61 {l : Launch} {D : va_G} {ad : Nat → Nat} {ac : Nat → ClassId} {h : Mm} {a1 : Int32} {r : Int32} {h' : Mm} {j3 : Nat} (hj3 : j3 < 4) (hm : mX7_readNumbers_1_60_g61 j3 h a1 = some (r, h')) : Mt l D ad ac LC rlC yX7_readNumbers cX7_readNumbers 8 (some .int) 2 [.ref (ad 1), .int a1, .ref (ad 60), .ref (ad (62 + j3))] h (some (.int r)) h' := by
  refine Mt.of (own := RX7) (by decide) rfl (Nat.le_of_ble_eq_true rfl) ?_
  intro p e s m below meth c ls X hH hl
  obtain ⟨hx, hb, hml, hown, hts, hr, hlk, hC, hI, hR⟩ := id X
  have hl : lv_has ls 8 [(0, .ref (ad 1)), (1, .int a1), (2, .ref (ad 60)), (3, .ref (ad (62 + j3)))] := hl
  rw [mX7_readNumbers_1_60_g61] at hm
  refine lv_iload_n hx hb dX7_readNumbers_0 rfl (lv_at hl 1 rfl) ?_
  refine lv_istore (lv' := [(4, .int a1), (0, .ref (ad 1)), (1, .int a1), (2, .ref (ad 60)), (3, .ref (ad (62 + j3)))]) hx hb dX7_readNumbers_1 hl (by decide) rfl (fun ls hl => ?_)
  refine lv_iconst (v := 0) hx hb dX7_readNumbers_3 (by decide) ?_
  refine lv_istore (lv' := [(5, .int (0 : Int32)), (4, .int a1), (0, .ref (ad 1)), (1, .int a1), (2, .ref (ad 60)), (3, .ref (ad (62 + j3)))]) hx hb dX7_readNumbers_4 hl (by decide) rfl (fun ls hl => ?_)
  exact wX7_readNumbers_1_60_g61_6 X hj3 FU a1 (0 : Int32) h _ _ _ hm hH (lv_sub hl [2, 4, 5, 1, 0] rfl)
