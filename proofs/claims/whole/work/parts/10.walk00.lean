/-! X5_has -/
def mX5_has (h : Mm) (a1 : Int32) : Option Int32 := if a1 < 0 then (some (0 : Int32)) else (if (h 4 6) ≤ a1 then (some (0 : Int32)) else (some (1 : Int32)))
set_option maxRecDepth 4000 in
theorem mt_X5_has {l : Launch} {D : va_G} {ad : Nat → Nat} {ac : Nat → ClassId} {h : Mm} {a1 : Int32} {r : Int32} (hm : mX5_has h a1 = some r) : Mt l D ad ac LC rlC yX5_has cX5_has 2 (some .boolean) 0 [.ref (ad 4), .int a1] h (some (.int r)) h := by
  refine Mt.of (own := RX5) (by decide) rfl (Nat.le_of_ble_eq_true rfl) ?_
  intro p e s m below meth c ls X hH hl
  obtain ⟨hx, hb, hml, hown, hts, hr, hlk, hC, hI, hR⟩ := id X
  have hl : lv_has ls 2 [(0, .ref (ad 4)), (1, .int a1)] := hl
  rw [mX5_has] at hm
  refine lv_iload_n hx hb dX5_has_0 rfl (lv_at hl 1 rfl) ?_
  refine lv_if_lt hx hb dX5_has_1 (tgt := 16) (by decide) (fun hc => ?_) (fun hc => ?_)
  · rw [if_pos hc] at hm
    refine lv_iconst (v := 0) hx hb dX5_has_16 (by decide) ?_
    cases hm
    exact retZ X hH rfl dX5_has_17
  · rw [if_neg hc] at hm
    refine lv_iload_n hx hb dX5_has_4 rfl (lv_at hl 1 rfl) ?_
    refine lv_aload_n hx hb dX5_has_5 rfl (lv_at hl 0 rfl) ?_
    refine gI X hH fl_X5_30 lC_4 rfl dX5_has_6 ?_
    refine lv_icmp_ge hx hb dX5_has_9 (tgt := 16) (by decide) (fun hc => ?_) (fun hc => ?_)
    · rw [if_pos hc] at hm
      refine lv_iconst (v := 0) hx hb dX5_has_16 (by decide) ?_
      cases hm
      exact retZ X hH rfl dX5_has_17
    · rw [if_neg hc] at hm
      refine lv_iconst (v := 1) hx hb dX5_has_12 (by decide) ?_
      refine lv_goto hx hb dX5_has_13 (tgt := 17) (by decide) ?_
      cases hm
      exact retZ X hH rfl dX5_has_17
/-! X10_isBadPlan -/
def mX10_isBadPlan_33 (h : Mm) : Option Int32 := some (1 : Int32)
set_option maxRecDepth 4000 in
theorem wX10_isBadPlan_33 {p : Program} {l : Launch} {e : Env} {s : State} {m : MethodId} {args : Array Value} {below : List Frame} {meth : Method} {c : Code} {D : va_G} {ad : Nat → Nat} {ac : Nat → ClassId} {h : Mm} {r : Int32} (X : Fx p s m args meth c cX10_isBadPlan 4 RX10 (some .boolean) D ad ac LC rlC) : ∀ (H : Heap) (locs : List Loc) (ls : Array Slot), mX10_isBadPlan_33 h = some r → Hp D ad ac LC h s H locs → lv_has ls 4 [] → W p l e (rmD 1) s m args below meth c H locs 0 0 (MQ below (QU D ad ac LC (some (.int r)) h s.heap.size) args s 0 0 (Aa ad LC.length s.heap.size)) (F0 m 33 ls []) := by
  obtain ⟨hx, hb, hml, hown, hts, hr, hlk, hC, hI, hR⟩ := id X
  intro  H locs ls hm hH hl
  rw [mX10_isBadPlan_33] at hm
  refine lv_iconst (v := 1) hx hb dX10_isBadPlan_33 (by decide) ?_
  refine lv_goto hx hb dX10_isBadPlan_34 (tgt := 38) (by decide) ?_
  cases hm
  exact retZ X hH rfl dX10_isBadPlan_38
def mX10_isBadPlan (h : Mm) (a1 : Int32) (a2 : Int32) (a3 : Int32) : Option Int32 := if a1 < 0 then (mX10_isBadPlan_33 h ) else (if (1 : Int32) < a1 then (mX10_isBadPlan_33 h ) else (bd1 (mX5_has h a2) (fun v1 => if v1 = 0 then (mX10_isBadPlan_33 h ) else (if a3 < 0 then (mX10_isBadPlan_33 h ) else (if a3 ≤ (6 : Int32) then (some (0 : Int32)) else (mX10_isBadPlan_33 h ))))))
set_option maxRecDepth 4000 in
theorem mt_X10_isBadPlan {l : Launch} {D : va_G} {ad : Nat → Nat} {ac : Nat → ClassId} {h : Mm} {a1 : Int32} {a2 : Int32} {a3 : Int32} {r : Int32} (hm : mX10_isBadPlan h a1 a2 a3 = some r) : Mt l D ad ac LC rlC yX10_isBadPlan cX10_isBadPlan 4 (some .boolean) 1 [.ref (ad 0), .int a1, .int a2, .int a3] h (some (.int r)) h := by
  refine Mt.of (own := RX10) (by decide) rfl (Nat.le_of_ble_eq_true rfl) ?_
  intro p e s m below meth c ls X hH hl
  obtain ⟨hx, hb, hml, hown, hts, hr, hlk, hC, hI, hR⟩ := id X
  have hl : lv_has ls 4 [(0, .ref (ad 0)), (1, .int a1), (2, .int a2), (3, .int a3)] := hl
  rw [mX10_isBadPlan] at hm
  refine lv_iload_n hx hb dX10_isBadPlan_0 rfl (lv_at hl 1 rfl) ?_
  refine lv_if_lt hx hb dX10_isBadPlan_1 (tgt := 33) (by decide) (fun hc => ?_) (fun hc => ?_)
  · rw [if_pos hc] at hm
    exact wX10_isBadPlan_33 X  _ _ _ hm hH (lv_sub hl [] rfl)
  · rw [if_neg hc] at hm
    refine lv_iload_n hx hb dX10_isBadPlan_4 rfl (lv_at hl 1 rfl) ?_
    refine lv_iconst (v := 1) hx hb dX10_isBadPlan_5 (by decide) ?_
    refine lv_icmp_gt hx hb dX10_isBadPlan_6 (tgt := 33) (by decide) (fun hc => ?_) (fun hc => ?_)
    · rw [if_pos hc] at hm
      exact wX10_isBadPlan_33 X  _ _ _ hm hH (lv_sub hl [] rfl)
    · rw [if_neg hc] at hm
      refine lv_aload_n hx hb dX10_isBadPlan_9 rfl (lv_at hl 0 rfl) ?_
      refine gR X hH fl_X10_19 lC_0 rfl dX10_isBadPlan_10 ?_
      refine gR X hH fl_X10_146 lC_3 rfl dX10_isBadPlan_13 ?_
      refine lv_iload_n hx hb dX10_isBadPlan_16 rfl (lv_at hl 2 rfl) ?_
      obtain ⟨v1, hq, hm⟩ := bd1_some hm
      refine cVi X hH kl_X10_150 kv_X5_has (mt_X5_has hq) lC_4 rfl rfl (by decide) hl.1 rfl (Nat.le_of_ble_eq_true rfl) dX10_isBadPlan_17 (fun H locs hH => ?_)
      refine lv_if_eq hx hb dX10_isBadPlan_20 (tgt := 33) (by decide) (fun hc => ?_) (fun hc => ?_)
      · rw [if_pos hc] at hm
        exact wX10_isBadPlan_33 X  _ _ _ hm hH (lv_sub hl [] rfl)
      · rw [if_neg hc] at hm
        refine lv_iload_n hx hb dX10_isBadPlan_23 rfl (lv_at hl 3 rfl) ?_
        refine lv_if_lt hx hb dX10_isBadPlan_24 (tgt := 33) (by decide) (fun hc => ?_) (fun hc => ?_)
        · rw [if_pos hc] at hm
          exact wX10_isBadPlan_33 X  _ _ _ hm hH (lv_sub hl [] rfl)
        · rw [if_neg hc] at hm
          refine lv_iload_n hx hb dX10_isBadPlan_27 rfl (lv_at hl 3 rfl) ?_
          refine lv_bipush (v := 6) hx hb dX10_isBadPlan_28 (by decide) ?_
          refine lv_icmp_le hx hb dX10_isBadPlan_30 (tgt := 37) (by decide) (fun hc => ?_) (fun hc => ?_)
          · rw [if_pos hc] at hm
            refine lv_iconst (v := 0) hx hb dX10_isBadPlan_37 (by decide) ?_
            cases hm
            exact retZ X hH rfl dX10_isBadPlan_38
          · rw [if_neg hc] at hm
            exact wX10_isBadPlan_33 X  _ _ _ hm hH (lv_sub hl [] rfl)
/-! J9_min_7cf53 -/
def mJ9_min_7cf53 (h : Mm) (a0 : Int32) (a1 : Int32) : Option Int32 := if a1 < a0 then (some a1) else (some a0)
set_option maxRecDepth 4000 in
theorem mt_J9_min_7cf53 {l : Launch} {D : va_G} {ad : Nat → Nat} {ac : Nat → ClassId} {L : List CD} {rl : RomL} {h : Mm} {a0 : Int32} {a1 : Int32} {r : Int32} (hm : mJ9_min_7cf53 h a0 a1 = some r) : Mt l D ad ac L rl yJ9_min_7cf53 cJ9_min_7cf53 2 (some .int) 0 [.int a0, .int a1] h (some (.int r)) h := by
  refine Mt.ofF (own := RJ9) pf_J9_min_7cf53 rfl (Nat.le_of_ble_eq_true rfl) ?_
  intro p e s m below meth c ls X hH hl
  obtain ⟨hx, hb, hml, hown, hts, hr, hlk, hC, hI, hR⟩ := id X
  have hl : lv_has ls 2 [(0, .int a0), (1, .int a1)] := hl
  rw [mJ9_min_7cf53] at hm
  refine lv_iload_n hx hb dJ9_min_7cf53_0 rfl (lv_at hl 0 rfl) ?_
  refine lv_iload_n hx hb dJ9_min_7cf53_1 rfl (lv_at hl 1 rfl) ?_
  refine lv_icmp_gt hx hb dJ9_min_7cf53_2 (tgt := 9) (by decide) (fun hc => ?_) (fun hc => ?_)
  · rw [if_pos hc] at hm
    refine lv_iload_n hx hb dJ9_min_7cf53_9 rfl (lv_at hl 1 rfl) ?_
    cases hm
    exact retI X hH dJ9_min_7cf53_10
  · rw [if_neg hc] at hm
    refine lv_iload_n hx hb dJ9_min_7cf53_5 rfl (lv_at hl 0 rfl) ?_
    refine lv_goto hx hb dJ9_min_7cf53_6 (tgt := 10) (by decide) ?_
    cases hm
    exact retI X hH dJ9_min_7cf53_10
/-! X4_windowSize -/
def mX4_windowSize (h : Mm) (a1 : Int32) : Option Int32 := bd1 (mJ9_min_7cf53 h (6 : Int32) ((h 4 6) - a1)) (fun v1 => some v1)
set_option maxRecDepth 4000 in
theorem mt_X4_windowSize {l : Launch} {D : va_G} {ad : Nat → Nat} {ac : Nat → ClassId} {h : Mm} {a1 : Int32} {r : Int32} (hm : mX4_windowSize h a1 = some r) : Mt l D ad ac LC rlC yX4_windowSize cX4_windowSize 2 (some .int) 1 [.ref (ad 3), .int a1] h (some (.int r)) h := by
  refine Mt.of (own := RX4) (by decide) rfl (Nat.le_of_ble_eq_true rfl) ?_
  intro p e s m below meth c ls X hH hl
  obtain ⟨hx, hb, hml, hown, hts, hr, hlk, hC, hI, hR⟩ := id X
  have hl : lv_has ls 2 [(0, .ref (ad 3)), (1, .int a1)] := hl
  rw [mX4_windowSize] at hm
  refine lv_bipush (v := 6) hx hb dX4_windowSize_0 (by decide) ?_
  refine lv_aload_n hx hb dX4_windowSize_2 rfl (lv_at hl 0 rfl) ?_
  refine gR X hH fl_X4_21 lC_3 rfl dX4_windowSize_3 ?_
  refine gI X hH fl_X4_39 lC_4 rfl dX4_windowSize_6 ?_
  refine lv_iload_n hx hb dX4_windowSize_9 rfl (lv_at hl 1 rfl) ?_
  refine lv_isub hx hb dX4_windowSize_10 ?_
  obtain ⟨v1, hq, hm⟩ := bd1_some hm
  refine cSi (As := [.int (6 : Int32), .int ((h 4 6) - a1)]) X hH kl_X4_43 ks_J9_min_7cf53 (mt_J9_min_7cf53 hq) rfl (by decide) hl.1 rfl (Nat.le_of_ble_eq_true rfl) dX4_windowSize_11 (fun H locs hH => ?_)
  cases hm
  exact retI X hH dX4_windowSize_14
/-! X4_contactBits -/
def mX4_contactBits_34 (h : Mm) (k4 : Int32 → Int32 → Option Int32) (x1 : Int32) (x2 : Int32) : Option Int32 := k4 x1 (x2 + 1)
set_option maxRecDepth 4000 in
theorem wX4_contactBits_34 {p : Program} {l : Launch} {e : Env} {s : State} {m : MethodId} {args : Array Value} {below : List Frame} {meth : Method} {c : Code} {D : va_G} {ad : Nat → Nat} {ac : Nat → ClassId} {h : Mm} {r : Int32} (X : Fx p s m args meth c cX4_contactBits 3 RX4 (some .int) D ad ac LC rlC) {k4 : Int32 → Int32 → Option Int32} (ih4 : ∀ (x1 : Int32) (x2 : Int32) (H : Heap) (locs : List Loc) (ls : Array Slot), k4 x1 x2 = some r → Hp D ad ac LC h s H locs → lv_has ls 3 [(0, .ref (ad 3)), (1, .int x1), (2, .int x2)] → W p l e (rmD 0) s m args below meth c H locs 0 0 (MQ below (QU D ad ac LC (some (.int r)) h s.heap.size) args s 0 0 (Aa ad LC.length s.heap.size)) (F0 m 4 ls [])) : ∀ (x1 : Int32) (x2 : Int32) (H : Heap) (locs : List Loc) (ls : Array Slot), mX4_contactBits_34 h k4 x1 x2 = some r → Hp D ad ac LC h s H locs → lv_has ls 3 [(0, .ref (ad 3)), (1, .int x1), (2, .int x2)] → W p l e (rmD 0) s m args below meth c H locs 0 0 (MQ below (QU D ad ac LC (some (.int r)) h s.heap.size) args s 0 0 (Aa ad LC.length s.heap.size)) (F0 m 34 ls []) := by
  obtain ⟨hx, hb, hml, hown, hts, hr, hlk, hC, hI, hR⟩ := id X
  intro x1 x2 H locs ls hm hH hl
  rw [mX4_contactBits_34] at hm
  refine lv_iinc (k := 2) (v := (x2 + 1)) (lv' := [(2, .int (x2 + 1)), (0, .ref (ad 3)), (1, .int x1)]) hx hb dX4_contactBits_34 hl rfl rfl (by decide) rfl (fun ls hl => ?_)
  refine lv_goto hx hb dX4_contactBits_37 (tgt := 4) (by decide) ?_
  exact ih4 x1 (x2 + 1) _ _ _ hm hH (lv_sub hl [1, 2, 0] rfl)
def mX4_contactBits_4 (h : Mm) : Nat → Int32 → Int32 → Option Int32
  | 0, _, _ => none
  | n + 1, x1, x2 => if (h 4 6) ≤ x2 then (some x1) else (gIn x2 24 (if (h 12 x2.toNatClampNeg) = (-1 : Int32) then (mX4_contactBits_34 h (mX4_contactBits_4 h n) x1 x2) else (mlet (x1 ||| ((1 : Int32) <<< (x2 &&& 31))) (fun u2 => mX4_contactBits_34 h (mX4_contactBits_4 h n) u2 x2))))
set_option maxRecDepth 4000 in
theorem wX4_contactBits_4 {p : Program} {l : Launch} {e : Env} {s : State} {m : MethodId} {args : Array Value} {below : List Frame} {meth : Method} {c : Code} {D : va_G} {ad : Nat → Nat} {ac : Nat → ClassId} {h : Mm} {r : Int32} (X : Fx p s m args meth c cX4_contactBits 3 RX4 (some .int) D ad ac LC rlC) : ∀ (n : Nat) (x1 : Int32) (x2 : Int32) (H : Heap) (locs : List Loc) (ls : Array Slot), mX4_contactBits_4 h n x1 x2 = some r → Hp D ad ac LC h s H locs → lv_has ls 3 [(0, .ref (ad 3)), (1, .int x1), (2, .int x2)] → W p l e (rmD 0) s m args below meth c H locs 0 0 (MQ below (QU D ad ac LC (some (.int r)) h s.heap.size) args s 0 0 (Aa ad LC.length s.heap.size)) (F0 m 4 ls []) := by
  obtain ⟨hx, hb, hml, hown, hts, hr, hlk, hC, hI, hR⟩ := id X
  intro n
  induction n with
  | zero => intro x1 x2 H locs ls hm; rw [mX4_contactBits_4] at hm; cases hm
  | succ n ih =>
    intro x1 x2 H locs ls hm hH hl
    rw [mX4_contactBits_4] at hm
    refine lv_iload_n hx hb dX4_contactBits_4 rfl (lv_at hl 2 rfl) ?_
    refine lv_aload_n hx hb dX4_contactBits_5 rfl (lv_at hl 0 rfl) ?_
    refine gR X hH fl_X4_21 lC_3 rfl dX4_contactBits_6 ?_
    refine gI X hH fl_X4_39 lC_4 rfl dX4_contactBits_9 ?_
    refine lv_icmp_ge hx hb dX4_contactBits_12 (tgt := 40) (by decide) (fun hc => ?_) (fun hc => ?_)
    · rw [if_pos hc] at hm
      refine lv_iload_n hx hb dX4_contactBits_40 rfl (lv_at hl 1 rfl) ?_
      cases hm
      exact retI X hH dX4_contactBits_41
    · rw [if_neg hc] at hm
      refine lv_aload_n hx hb dX4_contactBits_15 rfl (lv_at hl 0 rfl) ?_
      refine gR X hH fl_X4_28 lC_3 rfl dX4_contactBits_16 ?_
      refine gR X hH fl_X4_49 lC_11 rfl dX4_contactBits_19 ?_
      refine lv_iload_n hx hb dX4_contactBits_22 rfl (lv_at hl 2 rfl) ?_
      obtain ⟨hin1, hm⟩ := gIn_some hm
      refine ild X hH lC_12 hin1 dX4_contactBits_23 ?_
      refine lv_iconst (v := (-1)) hx hb dX4_contactBits_24 (by decide) ?_
      refine lv_icmp_eq hx hb dX4_contactBits_25 (tgt := 34) (by decide) (fun hc => ?_) (fun hc => ?_)
      · rw [if_pos hc] at hm
        exact wX4_contactBits_34 X ih x1 x2 _ _ _ hm hH (lv_sub hl [0, 1, 2] rfl)
      · rw [if_neg hc] at hm
        refine lv_iload_n hx hb dX4_contactBits_28 rfl (lv_at hl 1 rfl) ?_
        refine lv_iconst (v := 1) hx hb dX4_contactBits_29 (by decide) ?_
        refine lv_iload_n hx hb dX4_contactBits_30 rfl (lv_at hl 2 rfl) ?_
        refine lv_ishl hx hb dX4_contactBits_31 ?_
        refine lv_ior hx hb dX4_contactBits_32 ?_
        obtain ⟨u2, eu2, hm⟩ := mlet_some hm
        refine W.eq (g2 := F0 m 33 ls (.int u2 :: [])) (by rw [eu2]) ?_
        refine lv_istore_n (lv' := [(1, .int u2), (0, .ref (ad 3)), (2, .int x2)]) hx hb dX4_contactBits_33 rfl hl (by decide) rfl (fun ls hl => ?_)
        exact wX4_contactBits_34 X ih u2 x2 _ _ _ hm hH (lv_sub hl [1, 0, 2] rfl)
def mX4_contactBits (h : Mm) : Option Int32 := mX4_contactBits_4 h FU (0 : Int32) (0 : Int32)
set_option maxRecDepth 4000 in
theorem mt_X4_contactBits {l : Launch} {D : va_G} {ad : Nat → Nat} {ac : Nat → ClassId} {h : Mm} {r : Int32} (hm : mX4_contactBits h = some r) : Mt l D ad ac LC rlC yX4_contactBits cX4_contactBits 3 (some .int) 0 [.ref (ad 3)] h (some (.int r)) h := by
  refine Mt.of (own := RX4) (by decide) rfl (Nat.le_of_ble_eq_true rfl) ?_
  intro p e s m below meth c ls X hH hl
  obtain ⟨hx, hb, hml, hown, hts, hr, hlk, hC, hI, hR⟩ := id X
  have hl : lv_has ls 3 [(0, .ref (ad 3))] := hl
  rw [mX4_contactBits] at hm
  refine lv_iconst (v := 0) hx hb dX4_contactBits_0 (by decide) ?_
  refine lv_istore_n (lv' := [(1, .int (0 : Int32)), (0, .ref (ad 3))]) hx hb dX4_contactBits_1 rfl hl (by decide) rfl (fun ls hl => ?_)
  refine lv_iconst (v := 0) hx hb dX4_contactBits_2 (by decide) ?_
  refine lv_istore_n (lv' := [(2, .int (0 : Int32)), (1, .int (0 : Int32)), (0, .ref (ad 3))]) hx hb dX4_contactBits_3 rfl hl (by decide) rfl (fun ls hl => ?_)
  exact wX4_contactBits_4 X FU (0 : Int32) (0 : Int32) _ _ _ hm hH (lv_sub hl [2, 1, 0] rfl)
/-! X2_number_42 -/
def mX2_number_42 (h : Mm) (a1 : Int32) (a2 : Int32) : Option Int32 := gIn a1 4 (gIn a2 3 (some (h (44 + a1.toNatClampNeg) a2.toNatClampNeg)))
set_option maxRecDepth 4000 in
theorem mt_X2_number_42 {l : Launch} {D : va_G} {ad : Nat → Nat} {ac : Nat → ClassId} {h : Mm} {a1 : Int32} {a2 : Int32} {r : Int32} (hm : mX2_number_42 h a1 a2 = some r) : Mt l D ad ac LC rlC yX2_number cX2_number 3 (some .int) 0 [.ref (ad 42), .int a1, .int a2] h (some (.int r)) h := by
  refine Mt.of (own := RX2) (by decide) rfl (Nat.le_of_ble_eq_true rfl) ?_
  intro p e s m below meth c ls X hH hl
  obtain ⟨hx, hb, hml, hown, hts, hr, hlk, hC, hI, hR⟩ := id X
  have hl : lv_has ls 3 [(0, .ref (ad 42)), (1, .int a1), (2, .int a2)] := hl
  rw [mX2_number_42] at hm
  refine lv_aload_n hx hb dX2_number_0 rfl (lv_at hl 0 rfl) ?_
  refine gR X hH fl_X2_18 lC_42 rfl dX2_number_1 ?_
  refine lv_iload_n hx hb dX2_number_4 rfl (lv_at hl 1 rfl) ?_
  obtain ⟨hin1, hm⟩ := gIn_some hm
  refine ald X hH lC_43 (Or.inr rfl) (fun q => hin1 (Or.inl q)) (gk_43 hin1) dX2_number_5 ?_
  refine lv_iload_n hx hb dX2_number_6 rfl (lv_at hl 2 rfl) ?_
  obtain ⟨hin2, hm⟩ := gIn_some hm
  refine ild X hH (gl_43 (vp_lt hin1)) hin2 dX2_number_7 ?_
  cases hm
  exact retI X hH dX2_number_8
/-! X2_number_31 -/
def mX2_number_31 (h : Mm) (a1 : Int32) (a2 : Int32) : Option Int32 := gIn a1 4 (gIn a2 5 (some (h (33 + a1.toNatClampNeg) a2.toNatClampNeg)))
set_option maxRecDepth 4000 in
theorem mt_X2_number_31 {l : Launch} {D : va_G} {ad : Nat → Nat} {ac : Nat → ClassId} {h : Mm} {a1 : Int32} {a2 : Int32} {r : Int32} (hm : mX2_number_31 h a1 a2 = some r) : Mt l D ad ac LC rlC yX2_number cX2_number 3 (some .int) 0 [.ref (ad 31), .int a1, .int a2] h (some (.int r)) h := by
  refine Mt.of (own := RX2) (by decide) rfl (Nat.le_of_ble_eq_true rfl) ?_
  intro p e s m below meth c ls X hH hl
  obtain ⟨hx, hb, hml, hown, hts, hr, hlk, hC, hI, hR⟩ := id X
  have hl : lv_has ls 3 [(0, .ref (ad 31)), (1, .int a1), (2, .int a2)] := hl
  rw [mX2_number_31] at hm
  refine lv_aload_n hx hb dX2_number_0 rfl (lv_at hl 0 rfl) ?_
  refine gR X hH fl_X2_18 lC_31 rfl dX2_number_1 ?_
  refine lv_iload_n hx hb dX2_number_4 rfl (lv_at hl 1 rfl) ?_
  obtain ⟨hin1, hm⟩ := gIn_some hm
  refine ald X hH lC_32 (Or.inr rfl) (fun q => hin1 (Or.inl q)) (gk_32 hin1) dX2_number_5 ?_
  refine lv_iload_n hx hb dX2_number_6 rfl (lv_at hl 2 rfl) ?_
  obtain ⟨hin2, hm⟩ := gIn_some hm
  refine ild X hH (gl_32 (vp_lt hin1)) hin2 dX2_number_7 ?_
  cases hm
  exact retI X hH dX2_number_8
/-! X7_takes -/
def mX7_takes_28 (h : Mm) : Option Int32 := some (1 : Int32)
set_option maxRecDepth 4000 in
theorem wX7_takes_28 {p : Program} {l : Launch} {e : Env} {s : State} {m : MethodId} {args : Array Value} {below : List Frame} {meth : Method} {c : Code} {D : va_G} {ad : Nat → Nat} {ac : Nat → ClassId} {h : Mm} {r : Int32} (X : Fx p s m args meth c cX7_takes 4 RX7 (some .boolean) D ad ac LC rlC) : ∀ (H : Heap) (locs : List Loc) (ls : Array Slot), mX7_takes_28 h = some r → Hp D ad ac LC h s H locs → lv_has ls 4 [] → W p l e (rmD 1) s m args below meth c H locs 0 0 (MQ below (QU D ad ac LC (some (.int r)) h s.heap.size) args s 0 0 (Aa ad LC.length s.heap.size)) (F0 m 28 ls []) := by
  obtain ⟨hx, hb, hml, hown, hts, hr, hlk, hC, hI, hR⟩ := id X
  intro  H locs ls hm hH hl
  rw [mX7_takes_28] at hm
  refine lv_iconst (v := 1) hx hb dX7_takes_28 (by decide) ?_
  refine lv_goto hx hb dX7_takes_29 (tgt := 33) (by decide) ?_
  cases hm
  exact retZ X hH rfl dX7_takes_33
def mX7_takes (h : Mm) (a1 : Int32) (a2 : Int32) : Option Int32 := bd1 (mX2_number_42 h a1 (1 : Int32)) (fun v1 => if v1 = (2 : Int32) then (mX7_takes_28 h ) else (bd1 (mX2_number_31 h a2 (2 : Int32)) (fun v2 => if v1 = v2 then (mX7_takes_28 h ) else (some (0 : Int32)))))
set_option maxRecDepth 4000 in
theorem mt_X7_takes {l : Launch} {D : va_G} {ad : Nat → Nat} {ac : Nat → ClassId} {h : Mm} {a1 : Int32} {a2 : Int32} {r : Int32} (hm : mX7_takes h a1 a2 = some r) : Mt l D ad ac LC rlC yX7_takes cX7_takes 4 (some .boolean) 1 [.ref (ad 30), .int a1, .int a2] h (some (.int r)) h := by
  refine Mt.of (own := RX7) (by decide) rfl (Nat.le_of_ble_eq_true rfl) ?_
  intro p e s m below meth c ls X hH hl
  obtain ⟨hx, hb, hml, hown, hts, hr, hlk, hC, hI, hR⟩ := id X
  have hl : lv_has ls 4 [(0, .ref (ad 30)), (1, .int a1), (2, .int a2)] := hl
  rw [mX7_takes] at hm
  refine lv_aload_n hx hb dX7_takes_0 rfl (lv_at hl 0 rfl) ?_
  refine gR X hH fl_X7_42 lC_30 rfl dX7_takes_1 ?_
  refine lv_iload_n hx hb dX7_takes_4 rfl (lv_at hl 1 rfl) ?_
  refine lv_iconst (v := 1) hx hb dX7_takes_5 (by decide) ?_
  obtain ⟨v1, hq, hm⟩ := bd1_some hm
  refine cVi X hH kl_X7_94 kv_X2_number (mt_X2_number_42 hq) lC_42 rfl rfl (by decide) hl.1 rfl (Nat.le_of_ble_eq_true rfl) dX7_takes_6 (fun H locs hH => ?_)
  refine lv_istore_n (lv' := [(3, .int v1), (0, .ref (ad 30)), (1, .int a1), (2, .int a2)]) hx hb dX7_takes_9 rfl hl (by decide) rfl (fun ls hl => ?_)
  refine lv_iload_n hx hb dX7_takes_10 rfl (lv_at hl 0 rfl) ?_
  refine lv_iconst (v := 2) hx hb dX7_takes_11 (by decide) ?_
  refine lv_icmp_eq hx hb dX7_takes_12 (tgt := 28) (by decide) (fun hc => ?_) (fun hc => ?_)
  · rw [if_pos hc] at hm
    exact wX7_takes_28 X  _ _ _ hm hH (lv_sub hl [] rfl)
  · rw [if_neg hc] at hm
    refine lv_iload_n hx hb dX7_takes_15 rfl (lv_at hl 0 rfl) ?_
    refine lv_aload_n hx hb dX7_takes_16 rfl (lv_at hl 1 rfl) ?_
    refine gR X hH fl_X7_21 lC_30 rfl dX7_takes_17 ?_
    refine lv_iload_n hx hb dX7_takes_20 rfl (lv_at hl 3 rfl) ?_
    refine lv_iconst (v := 2) hx hb dX7_takes_21 (by decide) ?_
    obtain ⟨v2, hq, hm⟩ := bd1_some hm
    refine cVi X hH kl_X7_94 kv_X2_number (mt_X2_number_31 hq) lC_31 rfl rfl (by decide) hl.1 rfl (Nat.le_of_ble_eq_true rfl) dX7_takes_22 (fun H locs hH => ?_)
    refine lv_icmp_ne hx hb dX7_takes_25 (tgt := 32) (by decide) (fun hc => ?_) (fun hc => ?_)
    · rw [if_neg hc] at hm
      refine lv_iconst (v := 0) hx hb dX7_takes_32 (by decide) ?_
      cases hm
      exact retZ X hH rfl dX7_takes_33
    · rw [if_pos hc] at hm
      exact wX7_takes_28 X  _ _ _ hm hH (lv_sub hl [] rfl)
/-! X8_isOut -/
def mX8_isOut (h : Mm) (a1 : Int32) : Option Int32 := gIn a1 4 (gIn a1 4 (if (h 14 a1.toNatClampNeg) < (h 13 a1.toNatClampNeg) then (some (0 : Int32)) else (some (1 : Int32))))
set_option maxRecDepth 4000 in
theorem mt_X8_isOut {l : Launch} {D : va_G} {ad : Nat → Nat} {ac : Nat → ClassId} {h : Mm} {a1 : Int32} {r : Int32} (hm : mX8_isOut h a1 = some r) : Mt l D ad ac LC rlC yX8_isOut cX8_isOut 2 (some .boolean) 0 [.ref (ad 11), .int a1] h (some (.int r)) h := by
  refine Mt.of (own := RX8) (by decide) rfl (Nat.le_of_ble_eq_true rfl) ?_
  intro p e s m below meth c ls X hH hl
  obtain ⟨hx, hb, hml, hown, hts, hr, hlk, hC, hI, hR⟩ := id X
  have hl : lv_has ls 2 [(0, .ref (ad 11)), (1, .int a1)] := hl
  rw [mX8_isOut] at hm
  refine lv_aload_n hx hb dX8_isOut_0 rfl (lv_at hl 0 rfl) ?_
  refine gR X hH fl_X8_15 lC_11 rfl dX8_isOut_1 ?_
  refine lv_iload_n hx hb dX8_isOut_4 rfl (lv_at hl 1 rfl) ?_
  obtain ⟨hin1, hm⟩ := gIn_some hm
  refine ild X hH lC_13 hin1 dX8_isOut_5 ?_
  refine lv_aload_n hx hb dX8_isOut_6 rfl (lv_at hl 0 rfl) ?_
  refine gR X hH fl_X8_18 lC_11 rfl dX8_isOut_7 ?_
  refine lv_iload_n hx hb dX8_isOut_10 rfl (lv_at hl 1 rfl) ?_
  obtain ⟨hin2, hm⟩ := gIn_some hm
  refine ild X hH lC_14 hin2 dX8_isOut_11 ?_
  refine lv_icmp_gt hx hb dX8_isOut_12 (tgt := 19) (by decide) (fun hc => ?_) (fun hc => ?_)
  · rw [if_pos hc] at hm
    refine lv_iconst (v := 0) hx hb dX8_isOut_19 (by decide) ?_
    cases hm
    exact retZ X hH rfl dX8_isOut_20
  · rw [if_neg hc] at hm
    refine lv_iconst (v := 1) hx hb dX8_isOut_15 (by decide) ?_
    refine lv_goto hx hb dX8_isOut_16 (tgt := 20) (by decide) ?_
    cases hm
    exact retZ X hH rfl dX8_isOut_20
/-! X4_fits -/
def mX4_fits_99 (h : Mm) : Option Int32 := some (1 : Int32)
set_option maxRecDepth 4000 in
theorem wX4_fits_99 {p : Program} {l : Launch} {e : Env} {s : State} {m : MethodId} {args : Array Value} {below : List Frame} {meth : Method} {c : Code} {D : va_G} {ad : Nat → Nat} {ac : Nat → ClassId} {h : Mm} {r : Int32} (X : Fx p s m args meth c cX4_fits 3 RX4 (some .boolean) D ad ac LC rlC) : ∀ (H : Heap) (locs : List Loc) (ls : Array Slot), mX4_fits_99 h = some r → Hp D ad ac LC h s H locs → lv_has ls 3 [] → W p l e (rmD 2) s m args below meth c H locs 0 0 (MQ below (QU D ad ac LC (some (.int r)) h s.heap.size) args s 0 0 (Aa ad LC.length s.heap.size)) (F0 m 99 ls []) := by
  obtain ⟨hx, hb, hml, hown, hts, hr, hlk, hC, hI, hR⟩ := id X
  intro  H locs ls hm hH hl
  rw [mX4_fits_99] at hm
  refine lv_iconst (v := 1) hx hb dX4_fits_99 (by decide) ?_
  refine lv_goto hx hb dX4_fits_100 (tgt := 104) (by decide) ?_
  cases hm
  exact retZ X hH rfl dX4_fits_104
def mX4_fits (h : Mm) (a1 : Int32) (a2 : Int32) : Option Int32 := bd1 (mX2_number_42 h a2 (0 : Int32)) (fun v1 => gIn a1 24 (if v1 = (h 8 a1.toNatClampNeg) then (gIn a1 24 (bd1 (mX7_takes h a2 (h 7 a1.toNatClampNeg)) (fun v4 => if v4 = 0 then (some (0 : Int32)) else (bd1 (mX8_isOut h a2) (fun v5 => if v5 = 0 then (mX4_fits_99 h ) else (gIn a2 4 (gIn a1 24 (if (h 14 a2.toNatClampNeg) < (h 5 a1.toNatClampNeg) then (mX4_fits_99 h ) else (gIn a2 4 (gIn a1 24 (if (h 13 a2.toNatClampNeg) ≤ (h 6 a1.toNatClampNeg) then (some (0 : Int32)) else (mX4_fits_99 h )))))))))))) else (some (0 : Int32))))
set_option maxRecDepth 4000 in
theorem mt_X4_fits {l : Launch} {D : va_G} {ad : Nat → Nat} {ac : Nat → ClassId} {h : Mm} {a1 : Int32} {a2 : Int32} {r : Int32} (hm : mX4_fits h a1 a2 = some r) : Mt l D ad ac LC rlC yX4_fits cX4_fits 3 (some .boolean) 2 [.ref (ad 3), .int a1, .int a2] h (some (.int r)) h := by
  refine Mt.of (own := RX4) (by decide) rfl (Nat.le_of_ble_eq_true rfl) ?_
  intro p e s m below meth c ls X hH hl
  obtain ⟨hx, hb, hml, hown, hts, hr, hlk, hC, hI, hR⟩ := id X
  have hl : lv_has ls 3 [(0, .ref (ad 3)), (1, .int a1), (2, .int a2)] := hl
  rw [mX4_fits] at hm
  refine lv_aload_n hx hb dX4_fits_0 rfl (lv_at hl 0 rfl) ?_
  refine gR X hH fl_X4_12 lC_3 rfl dX4_fits_1 ?_
  refine gR X hH fl_X4_65 lC_30 rfl dX4_fits_4 ?_
  refine lv_iload_n hx hb dX4_fits_7 rfl (lv_at hl 2 rfl) ?_
  refine lv_iconst (v := 0) hx hb dX4_fits_8 (by decide) ?_
  obtain ⟨v1, hq, hm⟩ := bd1_some hm
  refine cVi X hH kl_X4_69 kv_X2_number (mt_X2_number_42 hq) lC_42 rfl rfl (by decide) hl.1 rfl (Nat.le_of_ble_eq_true rfl) dX4_fits_9 (fun H locs hH => ?_)
  refine lv_aload_n hx hb dX4_fits_12 rfl (lv_at hl 0 rfl) ?_
  refine gR X hH fl_X4_21 lC_3 rfl dX4_fits_13 ?_
  refine gR X hH fl_X4_74 lC_4 rfl dX4_fits_16 ?_
  refine lv_iload_n hx hb dX4_fits_19 rfl (lv_at hl 1 rfl) ?_
  obtain ⟨hin2, hm⟩ := gIn_some hm
  refine ild X hH lC_8 hin2 dX4_fits_20 ?_
  refine lv_icmp_ne hx hb dX4_fits_21 (tgt := 44) (by decide) (fun hc => ?_) (fun hc => ?_)
  · rw [if_neg hc] at hm
    refine lv_iconst (v := 0) hx hb dX4_fits_44 (by decide) ?_
    cases hm
    exact retZ X hH rfl dX4_fits_45
  · rw [if_pos hc] at hm
    refine lv_aload_n hx hb dX4_fits_24 rfl (lv_at hl 0 rfl) ?_
    refine gR X hH fl_X4_12 lC_3 rfl dX4_fits_25 ?_
    refine lv_iload_n hx hb dX4_fits_28 rfl (lv_at hl 2 rfl) ?_
    refine lv_aload_n hx hb dX4_fits_29 rfl (lv_at hl 0 rfl) ?_
    refine gR X hH fl_X4_21 lC_3 rfl dX4_fits_30 ?_
    refine gR X hH fl_X4_56 lC_4 rfl dX4_fits_33 ?_
    refine lv_iload_n hx hb dX4_fits_36 rfl (lv_at hl 1 rfl) ?_
    obtain ⟨hin3, hm⟩ := gIn_some hm
    refine ild X hH lC_7 hin3 dX4_fits_37 ?_
    obtain ⟨v4, hq, hm⟩ := bd1_some hm
    refine cVi X hH kl_X4_77 kv_X7_takes (mt_X7_takes hq) lC_30 rfl rfl (by decide) hl.1 rfl (Nat.le_of_ble_eq_true rfl) dX4_fits_38 (fun H locs hH => ?_)
    refine lv_if_ne hx hb dX4_fits_41 (tgt := 46) (by decide) (fun hc => ?_) (fun hc => ?_)
    · rw [if_neg hc] at hm
      refine lv_aload_n hx hb dX4_fits_46 rfl (lv_at hl 0 rfl) ?_
      refine gR X hH fl_X4_28 lC_3 rfl dX4_fits_47 ?_
      refine lv_iload_n hx hb dX4_fits_50 rfl (lv_at hl 2 rfl) ?_
      obtain ⟨v5, hq, hm⟩ := bd1_some hm
      refine cVi X hH kl_X4_81 kv_X8_isOut (mt_X8_isOut hq) lC_11 rfl rfl (by decide) hl.1 rfl (Nat.le_of_ble_eq_true rfl) dX4_fits_51 (fun H locs hH => ?_)
      refine lv_if_eq hx hb dX4_fits_54 (tgt := 99) (by decide) (fun hc => ?_) (fun hc => ?_)
      · rw [if_pos hc] at hm
        exact wX4_fits_99 X  _ _ _ hm hH (lv_sub hl [] rfl)
      · rw [if_neg hc] at hm
        refine lv_aload_n hx hb dX4_fits_57 rfl (lv_at hl 0 rfl) ?_
        refine gR X hH fl_X4_28 lC_3 rfl dX4_fits_58 ?_
        refine gR X hH fl_X4_85 lC_11 rfl dX4_fits_61 ?_
        refine lv_iload_n hx hb dX4_fits_64 rfl (lv_at hl 2 rfl) ?_
        obtain ⟨hin6, hm⟩ := gIn_some hm
        refine ild X hH lC_14 hin6 dX4_fits_65 ?_
        refine lv_aload_n hx hb dX4_fits_66 rfl (lv_at hl 0 rfl) ?_
        refine gR X hH fl_X4_21 lC_3 rfl dX4_fits_67 ?_
        refine gR X hH fl_X4_62 lC_4 rfl dX4_fits_70 ?_
        refine lv_iload_n hx hb dX4_fits_73 rfl (lv_at hl 1 rfl) ?_
        obtain ⟨hin7, hm⟩ := gIn_some hm
        refine ild X hH lC_5 hin7 dX4_fits_74 ?_
        refine lv_icmp_lt hx hb dX4_fits_75 (tgt := 99) (by decide) (fun hc => ?_) (fun hc => ?_)
        · rw [if_pos hc] at hm
          exact wX4_fits_99 X  _ _ _ hm hH (lv_sub hl [] rfl)
        · rw [if_neg hc] at hm
          refine lv_aload_n hx hb dX4_fits_78 rfl (lv_at hl 0 rfl) ?_
          refine gR X hH fl_X4_28 lC_3 rfl dX4_fits_79 ?_
          refine gR X hH fl_X4_88 lC_11 rfl dX4_fits_82 ?_
          refine lv_iload_n hx hb dX4_fits_85 rfl (lv_at hl 2 rfl) ?_
          obtain ⟨hin8, hm⟩ := gIn_some hm
          refine ild X hH lC_13 hin8 dX4_fits_86 ?_
          refine lv_aload_n hx hb dX4_fits_87 rfl (lv_at hl 0 rfl) ?_
          refine gR X hH fl_X4_21 lC_3 rfl dX4_fits_88 ?_
          refine gR X hH fl_X4_59 lC_4 rfl dX4_fits_91 ?_
          refine lv_iload_n hx hb dX4_fits_94 rfl (lv_at hl 1 rfl) ?_
          obtain ⟨hin9, hm⟩ := gIn_some hm
          refine ild X hH lC_6 hin9 dX4_fits_95 ?_
          refine lv_icmp_le hx hb dX4_fits_96 (tgt := 103) (by decide) (fun hc => ?_) (fun hc => ?_)
          · rw [if_pos hc] at hm
            refine lv_iconst (v := 0) hx hb dX4_fits_103 (by decide) ?_
            cases hm
            exact retZ X hH rfl dX4_fits_104
          · rw [if_neg hc] at hm
            exact wX4_fits_99 X  _ _ _ hm hH (lv_sub hl [] rfl)
    · rw [if_pos hc] at hm
      refine lv_iconst (v := 0) hx hb dX4_fits_44 (by decide) ?_
      cases hm
      exact retZ X hH rfl dX4_fits_45
/-! J9_max_7cf53 -/
def mJ9_max_7cf53 (h : Mm) (a0 : Int32) (a1 : Int32) : Option Int32 := if a0 < a1 then (some a1) else (some a0)
set_option maxRecDepth 4000 in
theorem mt_J9_max_7cf53 {l : Launch} {D : va_G} {ad : Nat → Nat} {ac : Nat → ClassId} {L : List CD} {rl : RomL} {h : Mm} {a0 : Int32} {a1 : Int32} {r : Int32} (hm : mJ9_max_7cf53 h a0 a1 = some r) : Mt l D ad ac L rl yJ9_max_7cf53 cJ9_max_7cf53 2 (some .int) 0 [.int a0, .int a1] h (some (.int r)) h := by
  refine Mt.ofF (own := RJ9) pf_J9_max_7cf53 rfl (Nat.le_of_ble_eq_true rfl) ?_
  intro p e s m below meth c ls X hH hl
  obtain ⟨hx, hb, hml, hown, hts, hr, hlk, hC, hI, hR⟩ := id X
  have hl : lv_has ls 2 [(0, .int a0), (1, .int a1)] := hl
  rw [mJ9_max_7cf53] at hm
  refine lv_iload_n hx hb dJ9_max_7cf53_0 rfl (lv_at hl 0 rfl) ?_
  refine lv_iload_n hx hb dJ9_max_7cf53_1 rfl (lv_at hl 1 rfl) ?_
  refine lv_icmp_lt hx hb dJ9_max_7cf53_2 (tgt := 9) (by decide) (fun hc => ?_) (fun hc => ?_)
  · rw [if_pos hc] at hm
    refine lv_iload_n hx hb dJ9_max_7cf53_9 rfl (lv_at hl 1 rfl) ?_
    cases hm
    exact retI X hH dJ9_max_7cf53_10
  · rw [if_neg hc] at hm
    refine lv_iload_n hx hb dJ9_max_7cf53_5 rfl (lv_at hl 0 rfl) ?_
    refine lv_goto hx hb dJ9_max_7cf53_6 (tgt := 10) (by decide) ?_
    cases hm
    exact retI X hH dJ9_max_7cf53_10
/-! X4_goTogether -/
def mX4_goTogether (h : Mm) (a1 : Int32) (a2 : Int32) (a3 : Int32) : Option Int32 := bd1 (mJ9_min_7cf53 h a1 a2) (fun v1 => bd1 (mJ9_max_7cf53 h a1 a2) (fun v2 => gIn v2 24 (gIn v1 24 (bd1 (mX2_number_42 h a3 (2 : Int32)) (fun v5 => if ((h 5 v2.toNatClampNeg) - (h 6 v1.toNatClampNeg)) ≤ v5 then (some (0 : Int32)) else (some (1 : Int32)))))))
set_option maxRecDepth 4000 in
theorem mt_X4_goTogether {l : Launch} {D : va_G} {ad : Nat → Nat} {ac : Nat → ClassId} {h : Mm} {a1 : Int32} {a2 : Int32} {a3 : Int32} {r : Int32} (hm : mX4_goTogether h a1 a2 a3 = some r) : Mt l D ad ac LC rlC yX4_goTogether cX4_goTogether 6 (some .boolean) 1 [.ref (ad 3), .int a1, .int a2, .int a3] h (some (.int r)) h := by
  refine Mt.of (own := RX4) (by decide) rfl (Nat.le_of_ble_eq_true rfl) ?_
  intro p e s m below meth c ls X hH hl
  obtain ⟨hx, hb, hml, hown, hts, hr, hlk, hC, hI, hR⟩ := id X
  have hl : lv_has ls 6 [(0, .ref (ad 3)), (1, .int a1), (2, .int a2), (3, .int a3)] := hl
  rw [mX4_goTogether] at hm
  refine lv_iload_n hx hb dX4_goTogether_0 rfl (lv_at hl 1 rfl) ?_
  refine lv_iload_n hx hb dX4_goTogether_1 rfl (lv_at hl 2 rfl) ?_
  obtain ⟨v1, hq, hm⟩ := bd1_some hm
  refine cSi (As := [.int a1, .int a2]) X hH kl_X4_43 ks_J9_min_7cf53 (mt_J9_min_7cf53 hq) rfl (by decide) hl.1 rfl (Nat.le_of_ble_eq_true rfl) dX4_goTogether_2 (fun H locs hH => ?_)
  refine lv_istore (lv' := [(4, .int v1), (0, .ref (ad 3)), (1, .int a1), (2, .int a2), (3, .int a3)]) hx hb dX4_goTogether_5 hl (by decide) rfl (fun ls hl => ?_)
  refine lv_iload_n hx hb dX4_goTogether_7 rfl (lv_at hl 2 rfl) ?_
  refine lv_iload_n hx hb dX4_goTogether_8 rfl (lv_at hl 3 rfl) ?_
  obtain ⟨v2, hq, hm⟩ := bd1_some hm
  refine cSi (As := [.int a1, .int a2]) X hH kl_X4_97 ks_J9_max_7cf53 (mt_J9_max_7cf53 hq) rfl (by decide) hl.1 rfl (Nat.le_of_ble_eq_true rfl) dX4_goTogether_9 (fun H locs hH => ?_)
  refine lv_istore (lv' := [(5, .int v2), (4, .int v1), (0, .ref (ad 3)), (1, .int a1), (2, .int a2), (3, .int a3)]) hx hb dX4_goTogether_12 hl (by decide) rfl (fun ls hl => ?_)
  refine lv_aload_n hx hb dX4_goTogether_14 rfl (lv_at hl 2 rfl) ?_
  refine gR X hH fl_X4_21 lC_3 rfl dX4_goTogether_15 ?_
  refine gR X hH fl_X4_62 lC_4 rfl dX4_goTogether_18 ?_
  refine lv_iload hx hb dX4_goTogether_21 (lv_at hl 0 rfl) ?_
  obtain ⟨hin3, hm⟩ := gIn_some hm
  refine ild X hH lC_5 hin3 dX4_goTogether_23 ?_
  refine lv_aload_n hx hb dX4_goTogether_24 rfl (lv_at hl 2 rfl) ?_
  refine gR X hH fl_X4_21 lC_3 rfl dX4_goTogether_25 ?_
  refine gR X hH fl_X4_59 lC_4 rfl dX4_goTogether_28 ?_
  refine lv_iload hx hb dX4_goTogether_31 (lv_at hl 1 rfl) ?_
  obtain ⟨hin4, hm⟩ := gIn_some hm
  refine ild X hH lC_6 hin4 dX4_goTogether_33 ?_
  refine lv_isub hx hb dX4_goTogether_34 ?_
  refine lv_aload_n hx hb dX4_goTogether_35 rfl (lv_at hl 2 rfl) ?_
  refine gR X hH fl_X4_12 lC_3 rfl dX4_goTogether_36 ?_
  refine gR X hH fl_X4_65 lC_30 rfl dX4_goTogether_39 ?_
  refine lv_iload_n hx hb dX4_goTogether_42 rfl (lv_at hl 5 rfl) ?_
  refine lv_iconst (v := 2) hx hb dX4_goTogether_43 (by decide) ?_
  obtain ⟨v5, hq, hm⟩ := bd1_some hm
  refine cVi X hH kl_X4_69 kv_X2_number (mt_X2_number_42 hq) lC_42 rfl rfl (by decide) hl.1 rfl (Nat.le_of_ble_eq_true rfl) dX4_goTogether_44 (fun H locs hH => ?_)
  refine lv_icmp_le hx hb dX4_goTogether_47 (tgt := 54) (by decide) (fun hc => ?_) (fun hc => ?_)
  · rw [if_pos hc] at hm
    refine lv_iconst (v := 0) hx hb dX4_goTogether_54 (by decide) ?_
    cases hm
    exact retZ X hH rfl dX4_goTogether_55
  · rw [if_neg hc] at hm
    refine lv_iconst (v := 1) hx hb dX4_goTogether_50 (by decide) ?_
    refine lv_goto hx hb dX4_goTogether_51 (tgt := 55) (by decide) ?_
    cases hm
    exact retZ X hH rfl dX4_goTogether_55
/-! X4_shareSatAndSlot -/
def mX4_shareSatAndSlot (h : Mm) (a1 : Int32) (a2 : Int32) : Option Int32 := gIn a1 24 (gIn a2 24 (if (h 7 a1.toNatClampNeg) = (h 7 a2.toNatClampNeg) then (gIn a1 24 (gIn a2 24 (if (h 6 a2.toNatClampNeg) < (h 5 a1.toNatClampNeg) then (some (0 : Int32)) else (gIn a2 24 (gIn a1 24 (if (h 6 a1.toNatClampNeg) < (h 5 a2.toNatClampNeg) then (some (0 : Int32)) else (some (1 : Int32)))))))) else (some (0 : Int32))))
set_option maxRecDepth 4000 in
theorem mt_X4_shareSatAndSlot {l : Launch} {D : va_G} {ad : Nat → Nat} {ac : Nat → ClassId} {h : Mm} {a1 : Int32} {a2 : Int32} {r : Int32} (hm : mX4_shareSatAndSlot h a1 a2 = some r) : Mt l D ad ac LC rlC yX4_shareSatAndSlot cX4_shareSatAndSlot 3 (some .boolean) 0 [.ref (ad 3), .int a1, .int a2] h (some (.int r)) h := by
  refine Mt.of (own := RX4) (by decide) rfl (Nat.le_of_ble_eq_true rfl) ?_
  intro p e s m below meth c ls X hH hl
  obtain ⟨hx, hb, hml, hown, hts, hr, hlk, hC, hI, hR⟩ := id X
  have hl : lv_has ls 3 [(0, .ref (ad 3)), (1, .int a1), (2, .int a2)] := hl
  rw [mX4_shareSatAndSlot] at hm
  refine lv_aload_n hx hb dX4_shareSatAndSlot_0 rfl (lv_at hl 0 rfl) ?_
  refine gR X hH fl_X4_21 lC_3 rfl dX4_shareSatAndSlot_1 ?_
  refine gR X hH fl_X4_56 lC_4 rfl dX4_shareSatAndSlot_4 ?_
  refine lv_iload_n hx hb dX4_shareSatAndSlot_7 rfl (lv_at hl 1 rfl) ?_
  obtain ⟨hin1, hm⟩ := gIn_some hm
  refine ild X hH lC_7 hin1 dX4_shareSatAndSlot_8 ?_
  refine lv_aload_n hx hb dX4_shareSatAndSlot_9 rfl (lv_at hl 0 rfl) ?_
  refine gR X hH fl_X4_21 lC_3 rfl dX4_shareSatAndSlot_10 ?_
  refine gR X hH fl_X4_56 lC_4 rfl dX4_shareSatAndSlot_13 ?_
  refine lv_iload_n hx hb dX4_shareSatAndSlot_16 rfl (lv_at hl 2 rfl) ?_
  obtain ⟨hin2, hm⟩ := gIn_some hm
  refine ild X hH lC_7 hin2 dX4_shareSatAndSlot_17 ?_
  refine lv_icmp_ne hx hb dX4_shareSatAndSlot_18 (tgt := 67) (by decide) (fun hc => ?_) (fun hc => ?_)
  · rw [if_neg hc] at hm
    refine lv_iconst (v := 0) hx hb dX4_shareSatAndSlot_67 (by decide) ?_
    cases hm
    exact retZ X hH rfl dX4_shareSatAndSlot_68
  · rw [if_pos hc] at hm
    refine lv_aload_n hx hb dX4_shareSatAndSlot_21 rfl (lv_at hl 0 rfl) ?_
    refine gR X hH fl_X4_21 lC_3 rfl dX4_shareSatAndSlot_22 ?_
    refine gR X hH fl_X4_62 lC_4 rfl dX4_shareSatAndSlot_25 ?_
    refine lv_iload_n hx hb dX4_shareSatAndSlot_28 rfl (lv_at hl 1 rfl) ?_
    obtain ⟨hin3, hm⟩ := gIn_some hm
    refine ild X hH lC_5 hin3 dX4_shareSatAndSlot_29 ?_
    refine lv_aload_n hx hb dX4_shareSatAndSlot_30 rfl (lv_at hl 0 rfl) ?_
    refine gR X hH fl_X4_21 lC_3 rfl dX4_shareSatAndSlot_31 ?_
    refine gR X hH fl_X4_59 lC_4 rfl dX4_shareSatAndSlot_34 ?_
    refine lv_iload_n hx hb dX4_shareSatAndSlot_37 rfl (lv_at hl 2 rfl) ?_
    obtain ⟨hin4, hm⟩ := gIn_some hm
    refine ild X hH lC_6 hin4 dX4_shareSatAndSlot_38 ?_
    refine lv_icmp_gt hx hb dX4_shareSatAndSlot_39 (tgt := 67) (by decide) (fun hc => ?_) (fun hc => ?_)
    · rw [if_pos hc] at hm
      refine lv_iconst (v := 0) hx hb dX4_shareSatAndSlot_67 (by decide) ?_
      cases hm
      exact retZ X hH rfl dX4_shareSatAndSlot_68
    · rw [if_neg hc] at hm
      refine lv_aload_n hx hb dX4_shareSatAndSlot_42 rfl (lv_at hl 0 rfl) ?_
      refine gR X hH fl_X4_21 lC_3 rfl dX4_shareSatAndSlot_43 ?_
      refine gR X hH fl_X4_62 lC_4 rfl dX4_shareSatAndSlot_46 ?_
      refine lv_iload_n hx hb dX4_shareSatAndSlot_49 rfl (lv_at hl 2 rfl) ?_
      obtain ⟨hin5, hm⟩ := gIn_some hm
      refine ild X hH lC_5 hin5 dX4_shareSatAndSlot_50 ?_
      refine lv_aload_n hx hb dX4_shareSatAndSlot_51 rfl (lv_at hl 0 rfl) ?_
      refine gR X hH fl_X4_21 lC_3 rfl dX4_shareSatAndSlot_52 ?_
      refine gR X hH fl_X4_59 lC_4 rfl dX4_shareSatAndSlot_55 ?_
      refine lv_iload_n hx hb dX4_shareSatAndSlot_58 rfl (lv_at hl 1 rfl) ?_
      obtain ⟨hin6, hm⟩ := gIn_some hm
      refine ild X hH lC_6 hin6 dX4_shareSatAndSlot_59 ?_
      refine lv_icmp_gt hx hb dX4_shareSatAndSlot_60 (tgt := 67) (by decide) (fun hc => ?_) (fun hc => ?_)
      · rw [if_pos hc] at hm
        refine lv_iconst (v := 0) hx hb dX4_shareSatAndSlot_67 (by decide) ?_
        cases hm
        exact retZ X hH rfl dX4_shareSatAndSlot_68
      · rw [if_neg hc] at hm
        refine lv_iconst (v := 1) hx hb dX4_shareSatAndSlot_63 (by decide) ?_
        refine lv_goto hx hb dX4_shareSatAndSlot_64 (tgt := 68) (by decide) ?_
        cases hm
        exact retZ X hH rfl dX4_shareSatAndSlot_68
/-! X4_clash -/
def mX4_clash_18 (h : Mm) (x1 : Int32) (x3 : Int32) : Option Int32 := bd1 (mX4_shareSatAndSlot h x1 x3) (fun v1 => if v1 = 0 then (some (0 : Int32)) else (some (4 : Int32)))
set_option maxRecDepth 4000 in
theorem wX4_clash_18 {p : Program} {l : Launch} {e : Env} {s : State} {m : MethodId} {args : Array Value} {below : List Frame} {meth : Method} {c : Code} {D : va_G} {ad : Nat → Nat} {ac : Nat → ClassId} {h : Mm} {r : Int32} (X : Fx p s m args meth c cX4_clash 5 RX4 (some .int) D ad ac LC rlC) : ∀ (x1 : Int32) (x3 : Int32) (H : Heap) (locs : List Loc) (ls : Array Slot), mX4_clash_18 h x1 x3 = some r → Hp D ad ac LC h s H locs → lv_has ls 5 [(0, .ref (ad 3)), (1, .int x1), (3, .int x3)] → W p l e (rmD 2) s m args below meth c H locs 0 0 (MQ below (QU D ad ac LC (some (.int r)) h s.heap.size) args s 0 0 (Aa ad LC.length s.heap.size)) (F0 m 18 ls []) := by
  obtain ⟨hx, hb, hml, hown, hts, hr, hlk, hC, hI, hR⟩ := id X
  intro x1 x3 H locs ls hm hH hl
  rw [mX4_clash_18] at hm
  refine lv_aload_n hx hb dX4_clash_18 rfl (lv_at hl 0 rfl) ?_
  refine lv_iload_n hx hb dX4_clash_19 rfl (lv_at hl 1 rfl) ?_
  refine lv_iload_n hx hb dX4_clash_20 rfl (lv_at hl 2 rfl) ?_
  obtain ⟨v1, hq, hm⟩ := bd1_some hm
  refine cVi X hH kl_X4_104 kv_X4_shareSatAndSlot (mt_X4_shareSatAndSlot hq) lC_3 rfl rfl (by decide) hl.1 rfl (Nat.le_of_ble_eq_true rfl) dX4_clash_21 (fun H locs hH => ?_)
  refine lv_if_eq hx hb dX4_clash_24 (tgt := 31) (by decide) (fun hc => ?_) (fun hc => ?_)
  · rw [if_pos hc] at hm
    refine lv_iconst (v := 0) hx hb dX4_clash_31 (by decide) ?_
    cases hm
    exact retI X hH dX4_clash_32
  · rw [if_neg hc] at hm
    refine lv_iconst (v := 4) hx hb dX4_clash_27 (by decide) ?_
    refine lv_goto hx hb dX4_clash_28 (tgt := 32) (by decide) ?_
    cases hm
    exact retI X hH dX4_clash_32
def mX4_clash (h : Mm) (a1 : Int32) (a2 : Int32) (a3 : Int32) (a4 : Int32) : Option Int32 := if a2 = a4 then (bd1 (mX4_goTogether h a1 a3 a2) (fun v1 => if v1 = 0 then (some (3 : Int32)) else (mX4_clash_18 h a1 a3))) else (mX4_clash_18 h a1 a3)
set_option maxRecDepth 4000 in
theorem mt_X4_clash {l : Launch} {D : va_G} {ad : Nat → Nat} {ac : Nat → ClassId} {h : Mm} {a1 : Int32} {a2 : Int32} {a3 : Int32} {a4 : Int32} {r : Int32} (hm : mX4_clash h a1 a2 a3 a4 = some r) : Mt l D ad ac LC rlC yX4_clash cX4_clash 5 (some .int) 2 [.ref (ad 3), .int a1, .int a2, .int a3, .int a4] h (some (.int r)) h := by
  refine Mt.of (own := RX4) (by decide) rfl (Nat.le_of_ble_eq_true rfl) ?_
  intro p e s m below meth c ls X hH hl
  obtain ⟨hx, hb, hml, hown, hts, hr, hlk, hC, hI, hR⟩ := id X
  have hl : lv_has ls 5 [(0, .ref (ad 3)), (1, .int a1), (2, .int a2), (3, .int a3), (4, .int a4)] := hl
  rw [mX4_clash] at hm
  refine lv_iload_n hx hb dX4_clash_0 rfl (lv_at hl 2 rfl) ?_
  refine lv_iload hx hb dX4_clash_1 (lv_at hl 4 rfl) ?_
  refine lv_icmp_ne hx hb dX4_clash_3 (tgt := 18) (by decide) (fun hc => ?_) (fun hc => ?_)
  · rw [if_neg hc] at hm
    exact wX4_clash_18 X a1 a3 _ _ _ hm hH (lv_sub hl [0, 1, 3] rfl)
  · rw [if_pos hc] at hm
    refine lv_aload_n hx hb dX4_clash_6 rfl (lv_at hl 0 rfl) ?_
    refine lv_iload_n hx hb dX4_clash_7 rfl (lv_at hl 1 rfl) ?_
    refine lv_iload_n hx hb dX4_clash_8 rfl (lv_at hl 3 rfl) ?_
    refine lv_iload_n hx hb dX4_clash_9 rfl (lv_at hl 2 rfl) ?_
    obtain ⟨v1, hq, hm⟩ := bd1_some hm
    refine cVi X hH kl_X4_100 kv_X4_goTogether (mt_X4_goTogether hq) lC_3 rfl rfl (by decide) hl.1 rfl (Nat.le_of_ble_eq_true rfl) dX4_clash_10 (fun H locs hH => ?_)
    refine lv_if_ne hx hb dX4_clash_13 (tgt := 18) (by decide) (fun hc => ?_) (fun hc => ?_)
    · rw [if_neg hc] at hm
      exact wX4_clash_18 X a1 a3 _ _ _ hm hH (lv_sub hl [0, 1, 3] rfl)
    · rw [if_pos hc] at hm
      refine lv_iconst (v := 3) hx hb dX4_clash_16 (by decide) ?_
      cases hm
      exact retI X hH dX4_clash_17
/-! X4_clashWith -/
def mX4_clashWith_72 (h : Mm) (k6 : Int32 → Int32 → Int32 → Int32 → Int32 → Option Int32) (x1 : Int32) (x2 : Int32) (x3 : Int32) (x4 : Int32) (x5 : Int32) : Option Int32 := k6 x1 x2 x3 x4 (x5 + 1)
set_option maxRecDepth 4000 in
theorem wX4_clashWith_72 {p : Program} {l : Launch} {e : Env} {s : State} {m : MethodId} {args : Array Value} {below : List Frame} {meth : Method} {c : Code} {D : va_G} {ad : Nat → Nat} {ac : Nat → ClassId} {h : Mm} {r : Int32} (X : Fx p s m args meth c cX4_clashWith 7 RX4 (some .int) D ad ac LC rlC) {k6 : Int32 → Int32 → Int32 → Int32 → Int32 → Option Int32} (ih6 : ∀ (x1 : Int32) (x2 : Int32) (x3 : Int32) (x4 : Int32) (x5 : Int32) (H : Heap) (locs : List Loc) (ls : Array Slot), k6 x1 x2 x3 x4 x5 = some r → Hp D ad ac LC h s H locs → lv_has ls 7 [(0, .ref (ad 3)), (1, .int x1), (2, .int x2), (3, .int x3), (4, .int x4), (5, .int x5)] → W p l e (rmD 3) s m args below meth c H locs 0 0 (MQ below (QU D ad ac LC (some (.int r)) h s.heap.size) args s 0 0 (Aa ad LC.length s.heap.size)) (F0 m 6 ls [])) : ∀ (x1 : Int32) (x2 : Int32) (x3 : Int32) (x4 : Int32) (x5 : Int32) (H : Heap) (locs : List Loc) (ls : Array Slot), mX4_clashWith_72 h k6 x1 x2 x3 x4 x5 = some r → Hp D ad ac LC h s H locs → lv_has ls 7 [(0, .ref (ad 3)), (1, .int x1), (2, .int x2), (3, .int x3), (4, .int x4), (5, .int x5)] → W p l e (rmD 3) s m args below meth c H locs 0 0 (MQ below (QU D ad ac LC (some (.int r)) h s.heap.size) args s 0 0 (Aa ad LC.length s.heap.size)) (F0 m 72 ls []) := by
  obtain ⟨hx, hb, hml, hown, hts, hr, hlk, hC, hI, hR⟩ := id X
  intro x1 x2 x3 x4 x5 H locs ls hm hH hl
  rw [mX4_clashWith_72] at hm
  refine lv_iinc (k := 5) (v := (x5 + 1)) (lv' := [(5, .int (x5 + 1)), (0, .ref (ad 3)), (1, .int x1), (2, .int x2), (3, .int x3), (4, .int x4)]) hx hb dX4_clashWith_72 hl rfl rfl (by decide) rfl (fun ls hl => ?_)
  refine lv_goto hx hb dX4_clashWith_75 (tgt := 6) (by decide) ?_
  exact ih6 x1 x2 x3 x4 (x5 + 1) _ _ _ hm hH (lv_sub hl [1, 2, 3, 4, 5, 0] rfl)
def mX4_clashWith_68 (h : Mm) (k6 : Int32 → Int32 → Int32 → Int32 → Int32 → Option Int32) (x1 : Int32) (x2 : Int32) (x3 : Int32) (x5 : Int32) (x6 : Int32) : Option Int32 := mX4_clashWith_72 h k6 x1 x2 x3 x6 x5
set_option maxRecDepth 4000 in
theorem wX4_clashWith_68 {p : Program} {l : Launch} {e : Env} {s : State} {m : MethodId} {args : Array Value} {below : List Frame} {meth : Method} {c : Code} {D : va_G} {ad : Nat → Nat} {ac : Nat → ClassId} {h : Mm} {r : Int32} (X : Fx p s m args meth c cX4_clashWith 7 RX4 (some .int) D ad ac LC rlC) {k6 : Int32 → Int32 → Int32 → Int32 → Int32 → Option Int32} (ih6 : ∀ (x1 : Int32) (x2 : Int32) (x3 : Int32) (x4 : Int32) (x5 : Int32) (H : Heap) (locs : List Loc) (ls : Array Slot), k6 x1 x2 x3 x4 x5 = some r → Hp D ad ac LC h s H locs → lv_has ls 7 [(0, .ref (ad 3)), (1, .int x1), (2, .int x2), (3, .int x3), (4, .int x4), (5, .int x5)] → W p l e (rmD 3) s m args below meth c H locs 0 0 (MQ below (QU D ad ac LC (some (.int r)) h s.heap.size) args s 0 0 (Aa ad LC.length s.heap.size)) (F0 m 6 ls [])) : ∀ (x1 : Int32) (x2 : Int32) (x3 : Int32) (x5 : Int32) (x6 : Int32) (H : Heap) (locs : List Loc) (ls : Array Slot), mX4_clashWith_68 h k6 x1 x2 x3 x5 x6 = some r → Hp D ad ac LC h s H locs → lv_has ls 7 [(0, .ref (ad 3)), (1, .int x1), (2, .int x2), (3, .int x3), (5, .int x5), (6, .int x6)] → W p l e (rmD 3) s m args below meth c H locs 0 0 (MQ below (QU D ad ac LC (some (.int r)) h s.heap.size) args s 0 0 (Aa ad LC.length s.heap.size)) (F0 m 68 ls []) := by
  obtain ⟨hx, hb, hml, hown, hts, hr, hlk, hC, hI, hR⟩ := id X
  intro x1 x2 x3 x5 x6 H locs ls hm hH hl
  rw [mX4_clashWith_68] at hm
  refine lv_iload hx hb dX4_clashWith_68 (lv_at hl 5 rfl) ?_
  refine lv_istore (lv' := [(4, .int x6), (0, .ref (ad 3)), (1, .int x1), (2, .int x2), (3, .int x3), (5, .int x5), (6, .int x6)]) hx hb dX4_clashWith_70 hl (by decide) rfl (fun ls hl => ?_)
  exact wX4_clashWith_72 X ih6 x1 x2 x3 x6 x5 _ _ _ hm hH (lv_sub hl [1, 2, 3, 4, 0, 5] rfl)
def mX4_clashWith_49 (h : Mm) (k6 : Int32 → Int32 → Int32 → Int32 → Int32 → Option Int32) (x1 : Int32) (x2 : Int32) (x3 : Int32) (x4 : Int32) (x5 : Int32) (t0 : Int32) : Option Int32 := if t0 = 0 then (mX4_clashWith_72 h k6 x1 x2 x3 x4 x5) else (if x4 = 0 then (mX4_clashWith_68 h k6 x1 x2 x3 x5 t0) else (if x4 ≤ t0 then (mX4_clashWith_72 h k6 x1 x2 x3 x4 x5) else (mX4_clashWith_68 h k6 x1 x2 x3 x5 t0)))
set_option maxRecDepth 4000 in
theorem wX4_clashWith_49 {p : Program} {l : Launch} {e : Env} {s : State} {m : MethodId} {args : Array Value} {below : List Frame} {meth : Method} {c : Code} {D : va_G} {ad : Nat → Nat} {ac : Nat → ClassId} {h : Mm} {r : Int32} (X : Fx p s m args meth c cX4_clashWith 7 RX4 (some .int) D ad ac LC rlC) {k6 : Int32 → Int32 → Int32 → Int32 → Int32 → Option Int32} (ih6 : ∀ (x1 : Int32) (x2 : Int32) (x3 : Int32) (x4 : Int32) (x5 : Int32) (H : Heap) (locs : List Loc) (ls : Array Slot), k6 x1 x2 x3 x4 x5 = some r → Hp D ad ac LC h s H locs → lv_has ls 7 [(0, .ref (ad 3)), (1, .int x1), (2, .int x2), (3, .int x3), (4, .int x4), (5, .int x5)] → W p l e (rmD 3) s m args below meth c H locs 0 0 (MQ below (QU D ad ac LC (some (.int r)) h s.heap.size) args s 0 0 (Aa ad LC.length s.heap.size)) (F0 m 6 ls [])) : ∀ (x1 : Int32) (x2 : Int32) (x3 : Int32) (x4 : Int32) (x5 : Int32) (t0 : Int32) (H : Heap) (locs : List Loc) (ls : Array Slot), mX4_clashWith_49 h k6 x1 x2 x3 x4 x5 t0 = some r → Hp D ad ac LC h s H locs → lv_has ls 7 [(0, .ref (ad 3)), (1, .int x1), (2, .int x2), (3, .int x3), (4, .int x4), (5, .int x5)] → W p l e (rmD 3) s m args below meth c H locs 0 0 (MQ below (QU D ad ac LC (some (.int r)) h s.heap.size) args s 0 0 (Aa ad LC.length s.heap.size)) (F0 m 49 ls [.int t0]) := by
  obtain ⟨hx, hb, hml, hown, hts, hr, hlk, hC, hI, hR⟩ := id X
  intro x1 x2 x3 x4 x5 t0 H locs ls hm hH hl
  rw [mX4_clashWith_49] at hm
  refine lv_istore (lv' := [(6, .int t0), (0, .ref (ad 3)), (1, .int x1), (2, .int x2), (3, .int x3), (4, .int x4), (5, .int x5)]) hx hb dX4_clashWith_49 hl (by decide) rfl (fun ls hl => ?_)
  refine lv_iload hx hb dX4_clashWith_51 (lv_at hl 0 rfl) ?_
  refine lv_if_eq hx hb dX4_clashWith_53 (tgt := 72) (by decide) (fun hc => ?_) (fun hc => ?_)
  · rw [if_pos hc] at hm
    exact wX4_clashWith_72 X ih6 x1 x2 x3 x4 x5 _ _ _ hm hH (lv_sub hl [1, 2, 3, 4, 5, 6] rfl)
  · rw [if_neg hc] at hm
    refine lv_iload hx hb dX4_clashWith_56 (lv_at hl 5 rfl) ?_
    refine lv_if_eq hx hb dX4_clashWith_58 (tgt := 68) (by decide) (fun hc => ?_) (fun hc => ?_)
    · rw [if_pos hc] at hm
      exact wX4_clashWith_68 X ih6 x1 x2 x3 x5 t0 _ _ _ hm hH (lv_sub hl [1, 2, 3, 4, 6, 0] rfl)
    · rw [if_neg hc] at hm
      refine lv_iload hx hb dX4_clashWith_61 (lv_at hl 0 rfl) ?_
      refine lv_iload hx hb dX4_clashWith_63 (lv_at hl 5 rfl) ?_
      refine lv_icmp_ge hx hb dX4_clashWith_65 (tgt := 72) (by decide) (fun hc => ?_) (fun hc => ?_)
      · rw [if_pos hc] at hm
        exact wX4_clashWith_72 X ih6 x1 x2 x3 x4 x5 _ _ _ hm hH (lv_sub hl [1, 2, 3, 4, 5, 6] rfl)
      · rw [if_neg hc] at hm
        exact wX4_clashWith_68 X ih6 x1 x2 x3 x5 t0 _ _ _ hm hH (lv_sub hl [1, 2, 3, 4, 6, 0] rfl)
def mX4_clashWith_6 (h : Mm) : Nat → Int32 → Int32 → Int32 → Int32 → Int32 → Option Int32
  | 0, _, _, _, _, _ => none
  | n + 1, x1, x2, x3, x4, x5 => if (h 4 6) ≤ x5 then (some x4) else (if ((x1 >>> (x5 &&& 31)) &&& (1 : Int32)) = 0 then (mX4_clashWith_49 h (mX4_clashWith_6 h n) x1 x2 x3 x4 x5 (0 : Int32)) else (gIn x5 24 (bd1 (mX4_clash h x2 x3 x5 (h 12 x5.toNatClampNeg)) (fun v2 => mX4_clashWith_49 h (mX4_clashWith_6 h n) x1 x2 x3 x4 x5 v2))))
set_option maxRecDepth 4000 in
theorem wX4_clashWith_6 {p : Program} {l : Launch} {e : Env} {s : State} {m : MethodId} {args : Array Value} {below : List Frame} {meth : Method} {c : Code} {D : va_G} {ad : Nat → Nat} {ac : Nat → ClassId} {h : Mm} {r : Int32} (X : Fx p s m args meth c cX4_clashWith 7 RX4 (some .int) D ad ac LC rlC) : ∀ (n : Nat) (x1 : Int32) (x2 : Int32) (x3 : Int32) (x4 : Int32) (x5 : Int32) (H : Heap) (locs : List Loc) (ls : Array Slot), mX4_clashWith_6 h n x1 x2 x3 x4 x5 = some r → Hp D ad ac LC h s H locs → lv_has ls 7 [(0, .ref (ad 3)), (1, .int x1), (2, .int x2), (3, .int x3), (4, .int x4), (5, .int x5)] → W p l e (rmD 3) s m args below meth c H locs 0 0 (MQ below (QU D ad ac LC (some (.int r)) h s.heap.size) args s 0 0 (Aa ad LC.length s.heap.size)) (F0 m 6 ls []) := by
  obtain ⟨hx, hb, hml, hown, hts, hr, hlk, hC, hI, hR⟩ := id X
  intro n
  induction n with
  | zero => intro x1 x2 x3 x4 x5 H locs ls hm; rw [mX4_clashWith_6] at hm; cases hm
  | succ n ih =>
    intro x1 x2 x3 x4 x5 H locs ls hm hH hl
    rw [mX4_clashWith_6] at hm
    refine lv_iload hx hb dX4_clashWith_6 (lv_at hl 5 rfl) ?_
    refine lv_aload_n hx hb dX4_clashWith_8 rfl (lv_at hl 0 rfl) ?_
    refine gR X hH fl_X4_21 lC_3 rfl dX4_clashWith_9 ?_
    refine gI X hH fl_X4_39 lC_4 rfl dX4_clashWith_12 ?_
    refine lv_icmp_ge hx hb dX4_clashWith_15 (tgt := 78) (by decide) (fun hc => ?_) (fun hc => ?_)
    · rw [if_pos hc] at hm
      refine lv_iload hx hb dX4_clashWith_78 (lv_at hl 4 rfl) ?_
      cases hm
      exact retI X hH dX4_clashWith_80
    · rw [if_neg hc] at hm
      refine lv_iload_n hx hb dX4_clashWith_18 rfl (lv_at hl 1 rfl) ?_
      refine lv_iload hx hb dX4_clashWith_19 (lv_at hl 5 rfl) ?_
      refine lv_ishr hx hb dX4_clashWith_21 ?_
      refine lv_iconst (v := 1) hx hb dX4_clashWith_22 (by decide) ?_
      refine lv_iand hx hb dX4_clashWith_23 ?_
      refine lv_if_eq hx hb dX4_clashWith_24 (tgt := 48) (by decide) (fun hc => ?_) (fun hc => ?_)
      · rw [if_pos hc] at hm
        refine lv_iconst (v := 0) hx hb dX4_clashWith_48 (by decide) ?_
        exact wX4_clashWith_49 X ih x1 x2 x3 x4 x5 (0 : Int32) _ _ _ hm hH (lv_sub hl [0, 1, 2, 3, 4, 5] rfl)
      · rw [if_neg hc] at hm
        refine lv_aload_n hx hb dX4_clashWith_27 rfl (lv_at hl 0 rfl) ?_
        refine lv_iload_n hx hb dX4_clashWith_28 rfl (lv_at hl 2 rfl) ?_
        refine lv_iload_n hx hb dX4_clashWith_29 rfl (lv_at hl 3 rfl) ?_
        refine lv_iload hx hb dX4_clashWith_30 (lv_at hl 5 rfl) ?_
        refine lv_aload_n hx hb dX4_clashWith_32 rfl (lv_at hl 0 rfl) ?_
        refine gR X hH fl_X4_28 lC_3 rfl dX4_clashWith_33 ?_
        refine gR X hH fl_X4_49 lC_11 rfl dX4_clashWith_36 ?_
        refine lv_iload hx hb dX4_clashWith_39 (lv_at hl 5 rfl) ?_
        obtain ⟨hin1, hm⟩ := gIn_some hm
        refine ild X hH lC_12 hin1 dX4_clashWith_41 ?_
        obtain ⟨v2, hq, hm⟩ := bd1_some hm
        refine cVi X hH kl_X4_115 kv_X4_clash (mt_X4_clash hq) lC_3 rfl rfl (by decide) hl.1 rfl (Nat.le_of_ble_eq_true rfl) dX4_clashWith_42 (fun H locs hH => ?_)
        refine lv_goto hx hb dX4_clashWith_45 (tgt := 49) (by decide) ?_
        exact wX4_clashWith_49 X ih x1 x2 x3 x4 x5 v2 _ _ _ hm hH (lv_sub hl [0, 1, 2, 3, 4, 5] rfl)
def mX4_clashWith (h : Mm) (a1 : Int32) (a2 : Int32) (a3 : Int32) : Option Int32 := mX4_clashWith_6 h FU a1 a2 a3 (0 : Int32) (0 : Int32)
set_option maxRecDepth 4000 in
theorem mt_X4_clashWith {l : Launch} {D : va_G} {ad : Nat → Nat} {ac : Nat → ClassId} {h : Mm} {a1 : Int32} {a2 : Int32} {a3 : Int32} {r : Int32} (hm : mX4_clashWith h a1 a2 a3 = some r) : Mt l D ad ac LC rlC yX4_clashWith cX4_clashWith 7 (some .int) 3 [.ref (ad 3), .int a1, .int a2, .int a3] h (some (.int r)) h := by
  refine Mt.of (own := RX4) (by decide) rfl (Nat.le_of_ble_eq_true rfl) ?_
  intro p e s m below meth c ls X hH hl
  obtain ⟨hx, hb, hml, hown, hts, hr, hlk, hC, hI, hR⟩ := id X
  have hl : lv_has ls 7 [(0, .ref (ad 3)), (1, .int a1), (2, .int a2), (3, .int a3)] := hl
  rw [mX4_clashWith] at hm
  refine lv_iconst (v := 0) hx hb dX4_clashWith_0 (by decide) ?_
  refine lv_istore (lv' := [(4, .int (0 : Int32)), (0, .ref (ad 3)), (1, .int a1), (2, .int a2), (3, .int a3)]) hx hb dX4_clashWith_1 hl (by decide) rfl (fun ls hl => ?_)
  refine lv_iconst (v := 0) hx hb dX4_clashWith_3 (by decide) ?_
  refine lv_istore (lv' := [(5, .int (0 : Int32)), (4, .int (0 : Int32)), (0, .ref (ad 3)), (1, .int a1), (2, .int a2), (3, .int a3)]) hx hb dX4_clashWith_4 hl (by decide) rfl (fun ls hl => ?_)
  exact wX4_clashWith_6 X FU a1 a2 a3 (0 : Int32) (0 : Int32) _ _ _ hm hH (lv_sub hl [2, 3, 4, 5, 1, 0] rfl)
