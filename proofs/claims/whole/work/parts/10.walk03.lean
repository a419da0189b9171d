/-! X6_lookOut -/
def mX6_lookOut_75 (k7 : Int32 → Mm → Option Mm) (k13 : Int32 → Int32 → Mm → Option Mm) (x1 : Int32) (x2 : Int32) (t0 : Int32) (t1 : Int32) (h : Mm) : Option Mm := gIn t1 128 (mlet (wr h 26 t1.toNatClampNeg t0) (fun h1 => k13 x1 (x2 + 1) h1))
set_option maxRecDepth 4000 in
theorem wX6_lookOut_75 {p : Program} {l : Launch} {e : Env} {s : State} {m : MethodId} {args : Array Value} {below : List Frame} {meth : Method} {c : Code} {D : va_G} {ad : Nat → Nat} {ac : Nat → ClassId} {h' : Mm} (X : Fx p s m args meth c cX6_lookOut 5 RX6 none D ad ac LC rlC) {k7 : Int32 → Mm → Option Mm} {k13 : Int32 → Int32 → Mm → Option Mm} (ih7 : ∀ (x1 : Int32) (h : Mm) (H : Heap) (locs : List Loc) (ls : Array Slot), k7 x1 h = some h' → Hp D ad ac LC h s H locs → lv_has ls 5 [(0, .ref (ad 22)), (1, .int x1)] → W p l e (rmD 1) s m args below meth c H locs 0 0 (MQ below (QU D ad ac LC none h' s.heap.size) args s 0 0 (Aa ad LC.length s.heap.size)) (F0 m 7 ls [])) (ih13 : ∀ (x1 : Int32) (x2 : Int32) (h : Mm) (H : Heap) (locs : List Loc) (ls : Array Slot), k13 x1 x2 h = some h' → Hp D ad ac LC h s H locs → lv_has ls 5 [(0, .ref (ad 22)), (1, .int x1), (2, .int x2)] → W p l e (rmD 1) s m args below meth c H locs 0 0 (MQ below (QU D ad ac LC none h' s.heap.size) args s 0 0 (Aa ad LC.length s.heap.size)) (F0 m 13 ls [])) : ∀ (x1 : Int32) (x2 : Int32) (t0 : Int32) (t1 : Int32) (h : Mm) (H : Heap) (locs : List Loc) (ls : Array Slot), mX6_lookOut_75 k7 k13 x1 x2 t0 t1 h = some h' → Hp D ad ac LC h s H locs → lv_has ls 5 [(0, .ref (ad 22)), (1, .int x1), (2, .int x2)] → W p l e (rmD 1) s m args below meth c H locs 0 0 (MQ below (QU D ad ac LC none h' s.heap.size) args s 0 0 (Aa ad LC.length s.heap.size)) (F0 m 75 ls [.int t0, .int t1, .ref (ad 26)]) := by
  obtain ⟨hx, hb, hml, hown, hts, hr, hlk, hC, hI, hR⟩ := id X
  intro x1 x2 t0 t1 h H locs ls hm hH hl
  rw [mX6_lookOut_75] at hm
  obtain ⟨hin2, hm⟩ := gIn_some hm
  obtain ⟨h1, eh1, hm⟩ := mlet_some hm
  refine ist X hH lC_26 hin2 dX6_lookOut_75 (fun H locs hH => ?_)
  rw [← eh1] at hH
  refine lv_iinc (k := 2) (v := (x2 + 1)) (lv' := [(2, .int (x2 + 1)), (0, .ref (ad 22)), (1, .int x1)]) hx hb dX6_lookOut_76 hl rfl rfl (by decide) rfl (fun ls hl => ?_)
  refine lv_goto hx hb dX6_lookOut_79 (tgt := 13) (by decide) ?_
  exact ih13 x1 (x2 + 1) h1 _ _ _ hm hH (lv_sub hl [1, 2, 0] rfl)
def mX6_lookOut_13 (k7 : Int32 → Mm → Option Mm) : Nat → Int32 → Int32 → Mm → Option Mm
  | 0, _, _, _ => none
  | n + 1, x1, x2, h => if ((1 : Int32) <<< (x1 &&& 31)) ≤ x2 then (k7 (x1 + (-1)) h) else (gIn (((2 : Int32) <<< (x1 &&& 31)) + x2) 128 (mlet (h 26 (((2 : Int32) <<< (x1 &&& 31)) + x2).toNatClampNeg) (fun u2 => gIn ((((2 : Int32) <<< (x1 &&& 31)) + ((1 : Int32) <<< (x1 &&& 31))) + x2) 128 (mlet (h 26 ((((2 : Int32) <<< (x1 &&& 31)) + ((1 : Int32) <<< (x1 &&& 31))) + x2).toNatClampNeg) (fun u4 => gIn x1 6 (if (h 23 x1.toNatClampNeg) = 0 then (mX6_lookOut_75 k7 (mX6_lookOut_13 k7 n) x1 x2 u2 (((1 : Int32) <<< (x1 &&& 31)) + x2) h) else (bd1 (mJ9_min_7cf53 h u2 u4) (fun v6 => mX6_lookOut_75 k7 (mX6_lookOut_13 k7 n) x1 x2 v6 (((1 : Int32) <<< (x1 &&& 31)) + x2) h))))))))
set_option maxRecDepth 4000 in
theorem wX6_lookOut_13 {p : Program} {l : Launch} {e : Env} {s : State} {m : MethodId} {args : Array Value} {below : List Frame} {meth : Method} {c : Code} {D : va_G} {ad : Nat → Nat} {ac : Nat → ClassId} {h' : Mm} (X : Fx p s m args meth c cX6_lookOut 5 RX6 none D ad ac LC rlC) {k7 : Int32 → Mm → Option Mm} (ih7 : ∀ (x1 : Int32) (h : Mm) (H : Heap) (locs : List Loc) (ls : Array Slot), k7 x1 h = some h' → Hp D ad ac LC h s H locs → lv_has ls 5 [(0, .ref (ad 22)), (1, .int x1)] → W p l e (rmD 1) s m args below meth c H locs 0 0 (MQ below (QU D ad ac LC none h' s.heap.size) args s 0 0 (Aa ad LC.length s.heap.size)) (F0 m 7 ls [])) : ∀ (n : Nat) (x1 : Int32) (x2 : Int32) (h : Mm) (H : Heap) (locs : List Loc) (ls : Array Slot), mX6_lookOut_13 k7 n x1 x2 h = some h' → Hp D ad ac LC h s H locs → lv_has ls 5 [(0, .ref (ad 22)), (1, .int x1), (2, .int x2)] → W p l e (rmD 1) s m args below meth c H locs 0 0 (MQ below (QU D ad ac LC none h' s.heap.size) args s 0 0 (Aa ad LC.length s.heap.size)) (F0 m 13 ls []) := by
  obtain ⟨hx, hb, hml, hown, hts, hr, hlk, hC, hI, hR⟩ := id X
  intro n
  induction n with
  | zero => intro x1 x2 h H locs ls hm; rw [mX6_lookOut_13] at hm; cases hm
  | succ n ih =>
    intro x1 x2 h H locs ls hm hH hl
    rw [mX6_lookOut_13] at hm
    refine lv_iload_n hx hb dX6_lookOut_13 rfl (lv_at hl 2 rfl) ?_
    refine lv_iconst (v := 1) hx hb dX6_lookOut_14 (by decide) ?_
    refine lv_iload_n hx hb dX6_lookOut_15 rfl (lv_at hl 1 rfl) ?_
    refine lv_ishl hx hb dX6_lookOut_16 ?_
    refine lv_icmp_ge hx hb dX6_lookOut_17 (tgt := 82) (by decide) (fun hc => ?_) (fun hc => ?_)
    · rw [if_pos hc] at hm
      refine lv_iinc (k := 1) (v := (x1 + (-1))) (lv' := [(1, .int (x1 + (-1))), (0, .ref (ad 22)), (2, .int x2)]) hx hb dX6_lookOut_82 hl rfl rfl (by decide) rfl (fun ls hl => ?_)
      refine lv_goto hx hb dX6_lookOut_85 (tgt := 7) (by decide) ?_
      exact ih7 (x1 + (-1)) h _ _ _ hm hH (lv_sub hl [1, 0] rfl)
    · rw [if_neg hc] at hm
      refine lv_aload_n hx hb dX6_lookOut_20 rfl (lv_at hl 0 rfl) ?_
      refine gR X hH fl_X6_21 lC_22 rfl dX6_lookOut_21 ?_
      refine lv_iconst (v := 2) hx hb dX6_lookOut_24 (by decide) ?_
      refine lv_iload_n hx hb dX6_lookOut_25 rfl (lv_at hl 1 rfl) ?_
      refine lv_ishl hx hb dX6_lookOut_26 ?_
      refine lv_iload_n hx hb dX6_lookOut_27 rfl (lv_at hl 2 rfl) ?_
      refine lv_iadd hx hb dX6_lookOut_28 ?_
      obtain ⟨hin1, hm⟩ := gIn_some hm
      refine ild X hH lC_26 hin1 dX6_lookOut_29 ?_
      obtain ⟨u2, eu2, hm⟩ := mlet_some hm
      refine W.eq (g2 := F0 m 30 ls (.int u2 :: [])) (by rw [eu2]) ?_
      refine lv_istore_n (lv' := [(3, .int u2), (0, .ref (ad 22)), (1, .int x1), (2, .int x2)]) hx hb dX6_lookOut_30 rfl hl (by decide) rfl (fun ls hl => ?_)
      refine lv_aload_n hx hb dX6_lookOut_31 rfl (lv_at hl 1 rfl) ?_
      refine gR X hH fl_X6_21 lC_22 rfl dX6_lookOut_32 ?_
      refine lv_iconst (v := 2) hx hb dX6_lookOut_35 (by decide) ?_
      refine lv_iload_n hx hb dX6_lookOut_36 rfl (lv_at hl 2 rfl) ?_
      refine lv_ishl hx hb dX6_lookOut_37 ?_
      refine lv_iconst (v := 1) hx hb dX6_lookOut_38 (by decide) ?_
      refine lv_iload_n hx hb dX6_lookOut_39 rfl (lv_at hl 2 rfl) ?_
      refine lv_ishl hx hb dX6_lookOut_40 ?_
      refine lv_iadd hx hb dX6_lookOut_41 ?_
      refine lv_iload_n hx hb dX6_lookOut_42 rfl (lv_at hl 3 rfl) ?_
      refine lv_iadd hx hb dX6_lookOut_43 ?_
      obtain ⟨hin3, hm⟩ := gIn_some hm
      refine ild X hH lC_26 hin3 dX6_lookOut_44 ?_
      obtain ⟨u4, eu4, hm⟩ := mlet_some hm
      refine W.eq (g2 := F0 m 45 ls (.int u4 :: [])) (by rw [eu4]) ?_
      refine lv_istore (lv' := [(4, .int u4), (3, .int u2), (0, .ref (ad 22)), (1, .int x1), (2, .int x2)]) hx hb dX6_lookOut_45 hl (by decide) rfl (fun ls hl => ?_)
      refine lv_aload_n hx hb dX6_lookOut_47 rfl (lv_at hl 2 rfl) ?_
      refine gR X hH fl_X6_21 lC_22 rfl dX6_lookOut_48 ?_
      refine lv_iconst (v := 1) hx hb dX6_lookOut_51 (by decide) ?_
      refine lv_iload_n hx hb dX6_lookOut_52 rfl (lv_at hl 3 rfl) ?_
      refine lv_ishl hx hb dX6_lookOut_53 ?_
      refine lv_iload_n hx hb dX6_lookOut_54 rfl (lv_at hl 4 rfl) ?_
      refine lv_iadd hx hb dX6_lookOut_55 ?_
      refine lv_aload_n hx hb dX6_lookOut_56 rfl (lv_at hl 2 rfl) ?_
      refine gR X hH fl_X6_9 lC_22 rfl dX6_lookOut_57 ?_
      refine lv_iload_n hx hb dX6_lookOut_60 rfl (lv_at hl 3 rfl) ?_
      obtain ⟨hin5, hm⟩ := gIn_some hm
      refine ild X hH lC_23 hin5 dX6_lookOut_61 ?_
      refine lv_if_ne hx hb dX6_lookOut_62 (tgt := 69) (by decide) (fun hc => ?_) (fun hc => ?_)
      · rw [if_neg hc] at hm
        refine lv_iload_n hx hb dX6_lookOut_69 rfl (lv_at hl 1 rfl) ?_
        refine lv_iload hx hb dX6_lookOut_70 (lv_at hl 0 rfl) ?_
        obtain ⟨v6, hq, hm⟩ := bd1_some hm
        refine cSi (As := [.int u2, .int u4]) X hH kl_X6_165 ks_J9_min_7cf53 (mt_J9_min_7cf53 hq) rfl (by decide) hl.1 rfl (Nat.le_of_ble_eq_true rfl) dX6_lookOut_72 (fun H locs hH => ?_)
        exact wX6_lookOut_75 X ih7 ih x1 x2 v6 (((1 : Int32) <<< (x1 &&& 31)) + x2) h _ _ _ hm hH (lv_sub hl [2, 3, 4] rfl)
      · rw [if_pos hc] at hm
        refine lv_iload_n hx hb dX6_lookOut_65 rfl (lv_at hl 1 rfl) ?_
        refine lv_goto hx hb dX6_lookOut_66 (tgt := 75) (by decide) ?_
        exact wX6_lookOut_75 X ih7 ih x1 x2 u2 (((1 : Int32) <<< (x1 &&& 31)) + x2) h _ _ _ hm hH (lv_sub hl [2, 3, 4] rfl)
def mX6_lookOut_7 : Nat → Int32 → Mm → Option Mm
  | 0, _, _ => none
  | n + 1, x1, h => if x1 < 0 then (some h) else (mX6_lookOut_13 (mX6_lookOut_7 n) FU x1 (0 : Int32) h)
set_option maxRecDepth 4000 in
theorem wX6_lookOut_7 {p : Program} {l : Launch} {e : Env} {s : State} {m : MethodId} {args : Array Value} {below : List Frame} {meth : Method} {c : Code} {D : va_G} {ad : Nat → Nat} {ac : Nat → ClassId} {h' : Mm} (X : Fx p s m args meth c cX6_lookOut 5 RX6 none D ad ac LC rlC) : ∀ (n : Nat) (x1 : Int32) (h : Mm) (H : Heap) (locs : List Loc) (ls : Array Slot), mX6_lookOut_7 n x1 h = some h' → Hp D ad ac LC h s H locs → lv_has ls 5 [(0, .ref (ad 22)), (1, .int x1)] → W p l e (rmD 1) s m args below meth c H locs 0 0 (MQ below (QU D ad ac LC none h' s.heap.size) args s 0 0 (Aa ad LC.length s.heap.size)) (F0 m 7 ls []) := by
  obtain ⟨hx, hb, hml, hown, hts, hr, hlk, hC, hI, hR⟩ := id X
  intro n
  induction n with
  | zero => intro x1 h H locs ls hm; rw [mX6_lookOut_7] at hm; cases hm
  | succ n ih =>
    intro x1 h H locs ls hm hH hl
    rw [mX6_lookOut_7] at hm
    refine lv_iload_n hx hb dX6_lookOut_7 rfl (lv_at hl 1 rfl) ?_
    refine lv_if_lt hx hb dX6_lookOut_8 (tgt := 88) (by decide) (fun hc => ?_) (fun hc => ?_)
    · rw [if_pos hc] at hm
      cases hm
      exact retV X hH dX6_lookOut_88
    · rw [if_neg hc] at hm
      refine lv_iconst (v := 0) hx hb dX6_lookOut_11 (by decide) ?_
      refine lv_istore_n (lv' := [(2, .int (0 : Int32)), (0, .ref (ad 22)), (1, .int x1)]) hx hb dX6_lookOut_12 rfl hl (by decide) rfl (fun ls hl => ?_)
      exact wX6_lookOut_13 X ih FU x1 (0 : Int32) h _ _ _ hm hH (lv_sub hl [1, 2, 0] rfl)
def mX6_lookOut (h : Mm) : Option Mm := mlet ((h 22 8) - (1 : Int32)) (fun u1 => mX6_lookOut_7 FU u1 h)
set_option maxRecDepth 4000 in
theorem mt_X6_lookOut {l : Launch} {D : va_G} {ad : Nat → Nat} {ac : Nat → ClassId} {h : Mm} {h' : Mm} (hm : mX6_lookOut h = some h') : Mt l D ad ac LC rlC yX6_lookOut cX6_lookOut 5 none 1 [.ref (ad 22)] h none h' := by
  refine Mt.of (own := RX6) (by decide) rfl (Nat.le_of_ble_eq_true rfl) ?_
  intro p e s m below meth c ls X hH hl
  obtain ⟨hx, hb, hml, hown, hts, hr, hlk, hC, hI, hR⟩ := id X
  have hl : lv_has ls 5 [(0, .ref (ad 22))] := hl
  rw [mX6_lookOut] at hm
  refine lv_aload_n hx hb dX6_lookOut_0 rfl (lv_at hl 0 rfl) ?_
  refine gI X hH fl_X6_53 lC_22 rfl dX6_lookOut_1 ?_
  refine lv_iconst (v := 1) hx hb dX6_lookOut_4 (by decide) ?_
  refine lv_isub hx hb dX6_lookOut_5 ?_
  obtain ⟨u1, eu1, hm⟩ := mlet_some hm
  refine W.eq (g2 := F0 m 6 ls (.int u1 :: [])) (by rw [eu1]) ?_
  refine lv_istore_n (lv' := [(1, .int u1), (0, .ref (ad 22))]) hx hb dX6_lookOut_6 rfl hl (by decide) rfl (fun ls hl => ?_)
  exact wX6_lookOut_7 X FU u1 h _ _ _ hm hH (lv_sub hl [1, 0] rfl)
/-! X6_startFromNow -/
def mX6_startFromNow (h : Mm) : Option Mm := gCp (h 22 11) (0 : Int32) (h 22 8) 24 6 (mlet (va_up h 29 (va_cpy (h 12) (h 29) (h 22 11).toNatClampNeg (0 : Int32).toNatClampNeg (h 22 8).toNatClampNeg)) (fun h1 => mlet (wr h1 22 15 (h1 22 7)) (fun h3 => gIn (((1 : Int32) <<< ((h3 22 8) &&& 31)) + (h3 22 7)) 128 (mlet (wr h3 22 13 (h3 26 (((1 : Int32) <<< ((h3 22 8) &&& 31)) + (h3 22 7)).toNatClampNeg)) (fun h5 => mlet (wr h5 22 16 (0 : Int32)) (fun h6 => some h6))))))
set_option maxRecDepth 4000 in
theorem mt_X6_startFromNow {l : Launch} {D : va_G} {ad : Nat → Nat} {ac : Nat → ClassId} {h : Mm} {h' : Mm} (hm : mX6_startFromNow h = some h') : Mt l D ad ac LC rlC yX6_startFromNow cX6_startFromNow 2 none 1 [.ref (ad 22), .ref (ad 3)] h none h' := by
  refine Mt.of (own := RX6) (by decide) rfl (Nat.le_of_ble_eq_true rfl) ?_
  intro p e s m below meth c ls X hH hl
  obtain ⟨hx, hb, hml, hown, hts, hr, hlk, hC, hI, hR⟩ := id X
  have hl : lv_has ls 2 [(0, .ref (ad 22)), (1, .ref (ad 3))] := hl
  rw [mX6_startFromNow] at hm
  refine lv_aload_n hx hb dX6_startFromNow_0 rfl (lv_at hl 1 rfl) ?_
  refine gR X hH fl_X6_171 lC_3 rfl dX6_startFromNow_1 ?_
  refine gR X hH fl_X6_175 lC_11 rfl dX6_startFromNow_4 ?_
  refine lv_aload_n hx hb dX6_startFromNow_7 rfl (lv_at hl 0 rfl) ?_
  refine gI X hH fl_X6_41 lC_22 rfl dX6_startFromNow_8 ?_
  refine lv_aload_n hx hb dX6_startFromNow_11 rfl (lv_at hl 0 rfl) ?_
  refine gR X hH fl_X6_30 lC_22 rfl dX6_startFromNow_12 ?_
  refine lv_iconst (v := 0) hx hb dX6_startFromNow_15 (by decide) ?_
  refine lv_aload_n hx hb dX6_startFromNow_16 rfl (lv_at hl 0 rfl) ?_
  refine gI X hH fl_X6_53 lC_22 rfl dX6_startFromNow_17 ?_
  obtain ⟨hcp2, hm⟩ := gCp_some hm
  obtain ⟨h1, eh1, hm⟩ := mlet_some hm
  refine acp X hH ml_X6_180 lC_12 lC_29 hcp2 (by decide) hl.1 (Nat.le_of_ble_eq_true rfl) dX6_startFromNow_20 (fun H locs hH => ?_)
  rw [← eh1] at hH
  refine lv_aload_n hx hb dX6_startFromNow_23 rfl (lv_at hl 0 rfl) ?_
  refine lv_aload_n hx hb dX6_startFromNow_24 rfl (lv_at hl 0 rfl) ?_
  refine gI X hH fl_X6_63 lC_22 rfl dX6_startFromNow_25 ?_
  obtain ⟨h3, eh3, hm⟩ := mlet_some hm
  refine pI X hH fl_X6_186 fw_6_15 lC_22 rfl dX6_startFromNow_28 (fun H locs hH => ?_)
  rw [← eh3] at hH
  refine lv_aload_n hx hb dX6_startFromNow_31 rfl (lv_at hl 0 rfl) ?_
  refine lv_aload_n hx hb dX6_startFromNow_32 rfl (lv_at hl 0 rfl) ?_
  refine gR X hH fl_X6_21 lC_22 rfl dX6_startFromNow_33 ?_
  refine lv_iconst (v := 1) hx hb dX6_startFromNow_36 (by decide) ?_
  refine lv_aload_n hx hb dX6_startFromNow_37 rfl (lv_at hl 0 rfl) ?_
  refine gI X hH fl_X6_53 lC_22 rfl dX6_startFromNow_38 ?_
  refine lv_ishl hx hb dX6_startFromNow_41 ?_
  refine lv_aload_n hx hb dX6_startFromNow_42 rfl (lv_at hl 0 rfl) ?_
  refine gI X hH fl_X6_63 lC_22 rfl dX6_startFromNow_43 ?_
  refine lv_iadd hx hb dX6_startFromNow_46 ?_
  obtain ⟨hin4, hm⟩ := gIn_some hm
  refine ild X hH lC_26 hin4 dX6_startFromNow_47 ?_
  obtain ⟨h5, eh5, hm⟩ := mlet_some hm
  refine pI X hH fl_X6_189 fw_6_13 lC_22 rfl dX6_startFromNow_48 (fun H locs hH => ?_)
  rw [← eh5] at hH
  refine lv_aload_n hx hb dX6_startFromNow_51 rfl (lv_at hl 0 rfl) ?_
  refine lv_iconst (v := 0) hx hb dX6_startFromNow_52 (by decide) ?_
  obtain ⟨h6, eh6, hm⟩ := mlet_some hm
  refine pI X hH fl_X6_192 fw_6_16 lC_22 rfl dX6_startFromNow_53 (fun H locs hH => ?_)
  rw [← eh6] at hH
  cases hm
  exact retV X hH dX6_startFromNow_56
/-! X6_changesAhead -/
def mX6_changesAhead (h : Mm) (a1 : Int32) (a2 : Int32) : Option Int32 := bd1 (mJ6_bitCount_0f7a4 h ((a2 ^^^ (h 22 7)) &&& (((1 : Int32) <<< (a1 &&& 31)) - (1 : Int32)))) (fun v1 => some v1)
set_option maxRecDepth 4000 in
theorem mt_X6_changesAhead {l : Launch} {D : va_G} {ad : Nat → Nat} {ac : Nat → ClassId} {h : Mm} {a1 : Int32} {a2 : Int32} {r : Int32} (hm : mX6_changesAhead h a1 a2 = some r) : Mt l D ad ac LC rlC yX6_changesAhead cX6_changesAhead 3 (some .int) 1 [.ref (ad 22), .int a1, .int a2] h (some (.int r)) h := by
  refine Mt.of (own := RX6) (by decide) rfl (Nat.le_of_ble_eq_true rfl) ?_
  intro p e s m below meth c ls X hH hl
  obtain ⟨hx, hb, hml, hown, hts, hr, hlk, hC, hI, hR⟩ := id X
  have hl : lv_has ls 3 [(0, .ref (ad 22)), (1, .int a1), (2, .int a2)] := hl
  rw [mX6_changesAhead] at hm
  refine lv_iload_n hx hb dX6_changesAhead_0 rfl (lv_at hl 2 rfl) ?_
  refine lv_aload_n hx hb dX6_changesAhead_1 rfl (lv_at hl 0 rfl) ?_
  refine gI X hH fl_X6_63 lC_22 rfl dX6_changesAhead_2 ?_
  refine lv_ixor hx hb dX6_changesAhead_5 ?_
  refine lv_iconst (v := 1) hx hb dX6_changesAhead_6 (by decide) ?_
  refine lv_iload_n hx hb dX6_changesAhead_7 rfl (lv_at hl 1 rfl) ?_
  refine lv_ishl hx hb dX6_changesAhead_8 ?_
  refine lv_iconst (v := 1) hx hb dX6_changesAhead_9 (by decide) ?_
  refine lv_isub hx hb dX6_changesAhead_10 ?_
  refine lv_iand hx hb dX6_changesAhead_11 ?_
  obtain ⟨v1, hq, hm⟩ := bd1_some hm
  refine cSi (As := [.int ((a2 ^^^ (h 22 7)) &&& (((1 : Int32) <<< (a1 &&& 31)) - (1 : Int32)))]) X hH kl_X6_159 ks_J6_bitCount_0f7a4 (mt_J6_bitCount_0f7a4 hq) rfl (by decide) hl.1 rfl (Nat.le_of_ble_eq_true rfl) dX6_changesAhead_12 (fun H locs hH => ?_)
  cases hm
  exact retI X hH dX6_changesAhead_15
/-! X6_freeAntennas -/
def mX6_freeAntennas_65 (h : Mm) (k23 : Int32 → Int32 → Int32 → Int32 → Option Int32) (x1 : Int32) (x2 : Int32) (x3 : Int32) (x4 : Int32) : Option Int32 := k23 x1 x2 x3 (x4 + 1)
set_option maxRecDepth 4000 in
theorem wX6_freeAntennas_65 {p : Program} {l : Launch} {e : Env} {s : State} {m : MethodId} {args : Array Value} {below : List Frame} {meth : Method} {c : Code} {D : va_G} {ad : Nat → Nat} {ac : Nat → ClassId} {h : Mm} {r : Int32} (X : Fx p s m args meth c cX6_freeAntennas 5 RX6 (some .int) D ad ac LC rlC) {k23 : Int32 → Int32 → Int32 → Int32 → Option Int32} (ih23 : ∀ (x1 : Int32) (x2 : Int32) (x3 : Int32) (x4 : Int32) (H : Heap) (locs : List Loc) (ls : Array Slot), k23 x1 x2 x3 x4 = some r → Hp D ad ac LC h s H locs → lv_has ls 5 [(0, .ref (ad 22)), (1, .int x1), (2, .int x2), (3, .int x3), (4, .int x4)] → W p l e (rmD 0) s m args below meth c H locs 0 0 (MQ below (QU D ad ac LC (some (.int r)) h s.heap.size) args s 0 0 (Aa ad LC.length s.heap.size)) (F0 m 23 ls [])) : ∀ (x1 : Int32) (x2 : Int32) (x3 : Int32) (x4 : Int32) (H : Heap) (locs : List Loc) (ls : Array Slot), mX6_freeAntennas_65 h k23 x1 x2 x3 x4 = some r → Hp D ad ac LC h s H locs → lv_has ls 5 [(0, .ref (ad 22)), (1, .int x1), (2, .int x2), (3, .int x3), (4, .int x4)] → W p l e (rmD 0) s m args below meth c H locs 0 0 (MQ below (QU D ad ac LC (some (.int r)) h s.heap.size) args s 0 0 (Aa ad LC.length s.heap.size)) (F0 m 65 ls []) := by
  obtain ⟨hx, hb, hml, hown, hts, hr, hlk, hC, hI, hR⟩ := id X
  intro x1 x2 x3 x4 H locs ls hm hH hl
  rw [mX6_freeAntennas_65] at hm
  refine lv_iinc (k := 4) (v := (x4 + 1)) (lv' := [(4, .int (x4 + 1)), (0, .ref (ad 22)), (1, .int x1), (2, .int x2), (3, .int x3)]) hx hb dX6_freeAntennas_65 hl rfl rfl (by decide) rfl (fun ls hl => ?_)
  refine lv_goto hx hb dX6_freeAntennas_68 (tgt := 23) (by decide) ?_
  exact ih23 x1 x2 x3 (x4 + 1) _ _ _ hm hH (lv_sub hl [1, 2, 3, 4, 0] rfl)
def mX6_freeAntennas_23 (h : Mm) : Nat → Int32 → Int32 → Int32 → Int32 → Option Int32
  | 0, _, _, _, _ => none
  | n + 1, x1, x2, x3, x4 => if x1 ≤ x4 then (some x3) else (if ((x2 >>> (x4 &&& 31)) &&& (1 : Int32)) = 0 then (mX6_freeAntennas_65 h (mX6_freeAntennas_23 h n) x1 x2 x3 x4) else (gIn ((x4 * (6 : Int32)) + x1) 36 (gIn x4 6 (mlet (x3 &&& (((h 24 ((x4 * (6 : Int32)) + x1).toNatClampNeg) &&& ((1 : Int32) <<< ((h 28 x4.toNatClampNeg) &&& 31))) ^^^ (-1 : Int32))) (fun u3 => mX6_freeAntennas_65 h (mX6_freeAntennas_23 h n) x1 x2 u3 x4)))))
set_option maxRecDepth 4000 in
theorem wX6_freeAntennas_23 {p : Program} {l : Launch} {e : Env} {s : State} {m : MethodId} {args : Array Value} {below : List Frame} {meth : Method} {c : Code} {D : va_G} {ad : Nat → Nat} {ac : Nat → ClassId} {h : Mm} {r : Int32} (X : Fx p s m args meth c cX6_freeAntennas 5 RX6 (some .int) D ad ac LC rlC) : ∀ (n : Nat) (x1 : Int32) (x2 : Int32) (x3 : Int32) (x4 : Int32) (H : Heap) (locs : List Loc) (ls : Array Slot), mX6_freeAntennas_23 h n x1 x2 x3 x4 = some r → Hp D ad ac LC h s H locs → lv_has ls 5 [(0, .ref (ad 22)), (1, .int x1), (2, .int x2), (3, .int x3), (4, .int x4)] → W p l e (rmD 0) s m args below meth c H locs 0 0 (MQ below (QU D ad ac LC (some (.int r)) h s.heap.size) args s 0 0 (Aa ad LC.length s.heap.size)) (F0 m 23 ls []) := by
  obtain ⟨hx, hb, hml, hown, hts, hr, hlk, hC, hI, hR⟩ := id X
  intro n
  induction n with
  | zero => intro x1 x2 x3 x4 H locs ls hm; rw [mX6_freeAntennas_23] at hm; cases hm
  | succ n ih =>
    intro x1 x2 x3 x4 H locs ls hm hH hl
    rw [mX6_freeAntennas_23] at hm
    refine lv_iload hx hb dX6_freeAntennas_23 (lv_at hl 4 rfl) ?_
    refine lv_iload_n hx hb dX6_freeAntennas_25 rfl (lv_at hl 1 rfl) ?_
    refine lv_icmp_ge hx hb dX6_freeAntennas_26 (tgt := 71) (by decide) (fun hc => ?_) (fun hc => ?_)
    · rw [if_pos hc] at hm
      refine lv_iload_n hx hb dX6_freeAntennas_71 rfl (lv_at hl 3 rfl) ?_
      cases hm
      exact retI X hH dX6_freeAntennas_72
    · rw [if_neg hc] at hm
      refine lv_iload_n hx hb dX6_freeAntennas_29 rfl (lv_at hl 2 rfl) ?_
      refine lv_iload hx hb dX6_freeAntennas_30 (lv_at hl 4 rfl) ?_
      refine lv_ishr hx hb dX6_freeAntennas_32 ?_
      refine lv_iconst (v := 1) hx hb dX6_freeAntennas_33 (by decide) ?_
      refine lv_iand hx hb dX6_freeAntennas_34 ?_
      refine lv_if_eq hx hb dX6_freeAntennas_35 (tgt := 65) (by decide) (fun hc => ?_) (fun hc => ?_)
      · rw [if_pos hc] at hm
        exact wX6_freeAntennas_65 X ih x1 x2 x3 x4 _ _ _ hm hH (lv_sub hl [0, 1, 2, 3, 4] rfl)
      · rw [if_neg hc] at hm
        refine lv_iload_n hx hb dX6_freeAntennas_38 rfl (lv_at hl 3 rfl) ?_
        refine lv_aload_n hx hb dX6_freeAntennas_39 rfl (lv_at hl 0 rfl) ?_
        refine gR X hH fl_X6_15 lC_22 rfl dX6_freeAntennas_40 ?_
        refine lv_iload hx hb dX6_freeAntennas_43 (lv_at hl 4 rfl) ?_
        refine lv_bipush (v := 6) hx hb dX6_freeAntennas_45 (by decide) ?_
        refine lv_imul hx hb dX6_freeAntennas_47 ?_
        refine lv_iload_n hx hb dX6_freeAntennas_48 rfl (lv_at hl 1 rfl) ?_
        refine lv_iadd hx hb dX6_freeAntennas_49 ?_
        obtain ⟨hin1, hm⟩ := gIn_some hm
        refine ild X hH lC_24 hin1 dX6_freeAntennas_50 ?_
        refine lv_iconst (v := 1) hx hb dX6_freeAntennas_51 (by decide) ?_
        refine lv_aload_n hx hb dX6_freeAntennas_52 rfl (lv_at hl 0 rfl) ?_
        refine gR X hH fl_X6_27 lC_22 rfl dX6_freeAntennas_53 ?_
        refine lv_iload hx hb dX6_freeAntennas_56 (lv_at hl 4 rfl) ?_
        obtain ⟨hin2, hm⟩ := gIn_some hm
        refine ild X hH lC_28 hin2 dX6_freeAntennas_58 ?_
        refine lv_ishl hx hb dX6_freeAntennas_59 ?_
        refine lv_iand hx hb dX6_freeAntennas_60 ?_
        refine lv_iconst (v := (-1)) hx hb dX6_freeAntennas_61 (by decide) ?_
        refine lv_ixor hx hb dX6_freeAntennas_62 ?_
        refine lv_iand hx hb dX6_freeAntennas_63 ?_
        obtain ⟨u3, eu3, hm⟩ := mlet_some hm
        refine W.eq (g2 := F0 m 64 ls (.int u3 :: [])) (by rw [eu3]) ?_
        refine lv_istore_n (lv' := [(3, .int u3), (0, .ref (ad 22)), (1, .int x1), (2, .int x2), (4, .int x4)]) hx hb dX6_freeAntennas_64 rfl hl (by decide) rfl (fun ls hl => ?_)
        exact wX6_freeAntennas_65 X ih x1 x2 u3 x4 _ _ _ hm hH (lv_sub hl [1, 2, 3, 0, 4] rfl)
def mX6_freeAntennas (h : Mm) (a1 : Int32) (a2 : Int32) : Option Int32 := gIn a1 6 (if ((h 25 a1.toNatClampNeg) &&& a2) = 0 then (gIn a1 6 (mlet (h 23 a1.toNatClampNeg) (fun u3 => mX6_freeAntennas_23 h FU a1 a2 u3 (0 : Int32)))) else (some (0 : Int32)))
set_option maxRecDepth 4000 in
theorem mt_X6_freeAntennas {l : Launch} {D : va_G} {ad : Nat → Nat} {ac : Nat → ClassId} {h : Mm} {a1 : Int32} {a2 : Int32} {r : Int32} (hm : mX6_freeAntennas h a1 a2 = some r) : Mt l D ad ac LC rlC yX6_freeAntennas cX6_freeAntennas 5 (some .int) 0 [.ref (ad 22), .int a1, .int a2] h (some (.int r)) h := by
  refine Mt.of (own := RX6) (by decide) rfl (Nat.le_of_ble_eq_true rfl) ?_
  intro p e s m below meth c ls X hH hl
  obtain ⟨hx, hb, hml, hown, hts, hr, hlk, hC, hI, hR⟩ := id X
  have hl : lv_has ls 5 [(0, .ref (ad 22)), (1, .int a1), (2, .int a2)] := hl
  rw [mX6_freeAntennas] at hm
  refine lv_aload_n hx hb dX6_freeAntennas_0 rfl (lv_at hl 0 rfl) ?_
  refine gR X hH fl_X6_18 lC_22 rfl dX6_freeAntennas_1 ?_
  refine lv_iload_n hx hb dX6_freeAntennas_4 rfl (lv_at hl 1 rfl) ?_
  obtain ⟨hin1, hm⟩ := gIn_some hm
  refine ild X hH lC_25 hin1 dX6_freeAntennas_5 ?_
  refine lv_iload_n hx hb dX6_freeAntennas_6 rfl (lv_at hl 2 rfl) ?_
  refine lv_iand hx hb dX6_freeAntennas_7 ?_
  refine lv_if_eq hx hb dX6_freeAntennas_8 (tgt := 13) (by decide) (fun hc => ?_) (fun hc => ?_)
  · rw [if_pos hc] at hm
    refine lv_aload_n hx hb dX6_freeAntennas_13 rfl (lv_at hl 0 rfl) ?_
    refine gR X hH fl_X6_9 lC_22 rfl dX6_freeAntennas_14 ?_
    refine lv_iload_n hx hb dX6_freeAntennas_17 rfl (lv_at hl 1 rfl) ?_
    obtain ⟨hin2, hm⟩ := gIn_some hm
    refine ild X hH lC_23 hin2 dX6_freeAntennas_18 ?_
    obtain ⟨u3, eu3, hm⟩ := mlet_some hm
    refine W.eq (g2 := F0 m 19 ls (.int u3 :: [])) (by rw [eu3]) ?_
    refine lv_istore_n (lv' := [(3, .int u3), (0, .ref (ad 22)), (1, .int a1), (2, .int a2)]) hx hb dX6_freeAntennas_19 rfl hl (by decide) rfl (fun ls hl => ?_)
    refine lv_iconst (v := 0) hx hb dX6_freeAntennas_20 (by decide) ?_
    refine lv_istore (lv' := [(4, .int (0 : Int32)), (3, .int u3), (0, .ref (ad 22)), (1, .int a1), (2, .int a2)]) hx hb dX6_freeAntennas_21 hl (by decide) rfl (fun ls hl => ?_)
    exact wX6_freeAntennas_23 X FU a1 a2 u3 (0 : Int32) _ _ _ hm hH (lv_sub hl [2, 3, 4, 1, 0] rfl)
  · rw [if_neg hc] at hm
    refine lv_iconst (v := 0) hx hb dX6_freeAntennas_11 (by decide) ?_
    cases hm
    exact retI X hH dX6_freeAntennas_12
/-! X6_keepWay -/
def mX6_keepWay (h : Mm) (a1 : Int32) (a2 : Int32) : Option Mm := gCp (0 : Int32) (0 : Int32) (h 22 8) 6 6 (mlet (va_up h 29 (va_cpy (h 28) (h 29) (0 : Int32).toNatClampNeg (0 : Int32).toNatClampNeg (h 22 8).toNatClampNeg)) (fun h1 => mlet (wr h1 22 15 a1) (fun h3 => gIn (((1 : Int32) <<< ((h3 22 8) &&& 31)) + a1) 128 (mlet (wr h3 22 13 ((h3 26 (((1 : Int32) <<< ((h3 22 8) &&& 31)) + a1).toNatClampNeg) + a2)) (fun h5 => bd1 (mX6_changesAhead h5 (h5 22 8) a1) (fun v6 => mlet (wr h5 22 16 (v6 + a2)) (fun h7 => some h7)))))))
set_option maxRecDepth 4000 in
theorem mt_X6_keepWay {l : Launch} {D : va_G} {ad : Nat → Nat} {ac : Nat → ClassId} {h : Mm} {a1 : Int32} {a2 : Int32} {h' : Mm} (hm : mX6_keepWay h a1 a2 = some h') : Mt l D ad ac LC rlC yX6_keepWay cX6_keepWay 3 none 2 [.ref (ad 22), .int a1, .int a2] h none h' := by
  refine Mt.of (own := RX6) (by decide) rfl (Nat.le_of_ble_eq_true rfl) ?_
  intro p e s m below meth c ls X hH hl
  obtain ⟨hx, hb, hml, hown, hts, hr, hlk, hC, hI, hR⟩ := id X
  have hl : lv_has ls 3 [(0, .ref (ad 22)), (1, .int a1), (2, .int a2)] := hl
  rw [mX6_keepWay] at hm
  refine lv_aload_n hx hb dX6_keepWay_0 rfl (lv_at hl 0 rfl) ?_
  refine gR X hH fl_X6_27 lC_22 rfl dX6_keepWay_1 ?_
  refine lv_iconst (v := 0) hx hb dX6_keepWay_4 (by decide) ?_
  refine lv_aload_n hx hb dX6_keepWay_5 rfl (lv_at hl 0 rfl) ?_
  refine gR X hH fl_X6_30 lC_22 rfl dX6_keepWay_6 ?_
  refine lv_iconst (v := 0) hx hb dX6_keepWay_9 (by decide) ?_
  refine lv_aload_n hx hb dX6_keepWay_10 rfl (lv_at hl 0 rfl) ?_
  refine gI X hH fl_X6_53 lC_22 rfl dX6_keepWay_11 ?_
  obtain ⟨hcp2, hm⟩ := gCp_some hm
  obtain ⟨h1, eh1, hm⟩ := mlet_some hm
  refine acp X hH ml_X6_180 lC_28 lC_29 hcp2 (by decide) hl.1 (Nat.le_of_ble_eq_true rfl) dX6_keepWay_14 (fun H locs hH => ?_)
  rw [← eh1] at hH
  refine lv_aload_n hx hb dX6_keepWay_17 rfl (lv_at hl 0 rfl) ?_
  refine lv_iload_n hx hb dX6_keepWay_18 rfl (lv_at hl 1 rfl) ?_
  obtain ⟨h3, eh3, hm⟩ := mlet_some hm
  refine pI X hH fl_X6_186 fw_6_15 lC_22 rfl dX6_keepWay_19 (fun H locs hH => ?_)
  rw [← eh3] at hH
  refine lv_aload_n hx hb dX6_keepWay_22 rfl (lv_at hl 0 rfl) ?_
  refine lv_aload_n hx hb dX6_keepWay_23 rfl (lv_at hl 0 rfl) ?_
  refine gR X hH fl_X6_21 lC_22 rfl dX6_keepWay_24 ?_
  refine lv_iconst (v := 1) hx hb dX6_keepWay_27 (by decide) ?_
  refine lv_aload_n hx hb dX6_keepWay_28 rfl (lv_at hl 0 rfl) ?_
  refine gI X hH fl_X6_53 lC_22 rfl dX6_keepWay_29 ?_
  refine lv_ishl hx hb dX6_keepWay_32 ?_
  refine lv_iload_n hx hb dX6_keepWay_33 rfl (lv_at hl 1 rfl) ?_
  refine lv_iadd hx hb dX6_keepWay_34 ?_
  obtain ⟨hin4, hm⟩ := gIn_some hm
  refine ild X hH lC_26 hin4 dX6_keepWay_35 ?_
  refine lv_iload_n hx hb dX6_keepWay_36 rfl (lv_at hl 2 rfl) ?_
  refine lv_iadd hx hb dX6_keepWay_37 ?_
  obtain ⟨h5, eh5, hm⟩ := mlet_some hm
  refine pI X hH fl_X6_189 fw_6_13 lC_22 rfl dX6_keepWay_38 (fun H locs hH => ?_)
  rw [← eh5] at hH
  refine lv_aload_n hx hb dX6_keepWay_41 rfl (lv_at hl 0 rfl) ?_
  refine lv_aload_n hx hb dX6_keepWay_42 rfl (lv_at hl 0 rfl) ?_
  refine lv_aload_n hx hb dX6_keepWay_43 rfl (lv_at hl 0 rfl) ?_
  refine gI X hH fl_X6_53 lC_22 rfl dX6_keepWay_44 ?_
  refine lv_iload_n hx hb dX6_keepWay_47 rfl (lv_at hl 1 rfl) ?_
  obtain ⟨v6, hq, hm⟩ := bd1_some hm
  refine cVi X hH kl_X6_195 kv_X6_changesAhead (mt_X6_changesAhead hq) lC_22 rfl rfl (by decide) hl.1 rfl (Nat.le_of_ble_eq_true rfl) dX6_keepWay_48 (fun H locs hH => ?_)
  refine lv_iload_n hx hb dX6_keepWay_51 rfl (lv_at hl 2 rfl) ?_
  refine lv_iadd hx hb dX6_keepWay_52 ?_
  obtain ⟨h7, eh7, hm⟩ := mlet_some hm
  refine pI X hH fl_X6_192 fw_6_16 lC_22 rfl dX6_keepWay_53 (fun H locs hH => ?_)
  rw [← eh7] at hH
  cases hm
  exact retV X hH dX6_keepWay_56
/-! X6_tryPass -/
def mX6_tryPass_166 (kS : Mm → Int32 → Int32 → Int32 → Option Mm) (k98 : Int32 → Int32 → Int32 → Int32 → Int32 → Int32 → Mm → Option Mm) (x2 : Int32) (x3 : Int32) (x4 : Int32) (x5 : Int32) (x6 : Int32) (x7 : Int32) (h : Mm) : Option Mm := k98 x2 x3 x4 x5 x6 (x7 + 1) h
set_option maxRecDepth 4000 in
theorem wX6_tryPass_166 {p : Program} {l : Launch} {e : Env} {s : State} {m : MethodId} {args : Array Value} {below : List Frame} {meth : Method} {c : Code} {D : va_G} {ad : Nat → Nat} {ac : Nat → ClassId} {h' : Mm} (X : Fx p s m args meth c cX6_tryPass 8 RX6 none D ad ac LC rlC) {ds dd : Nat} {kS : Mm → Int32 → Int32 → Int32 → Option Mm} (ihS : ∀ {h : Mm} {a2 a3 a4 : Int32} {h' : Mm}, kS h a2 a3 a4 = some h' → Mt l D ad ac LC rlC yX6_tryPass cX6_tryPass 8 none ds [.ref (ad 22), .ref (ad 3), .int a2, .int a3, .int a4] h none h') (hds : ds + 1 ≤ dd) (hdd : 3 ≤ dd) {k98 : Int32 → Int32 → Int32 → Int32 → Int32 → Int32 → Mm → Option Mm} (ih98 : ∀ (x2 : Int32) (x3 : Int32) (x4 : Int32) (x5 : Int32) (x6 : Int32) (x7 : Int32) (h : Mm) (H : Heap) (locs : List Loc) (ls : Array Slot), k98 x2 x3 x4 x5 x6 x7 h = some h' → Hp D ad ac LC h s H locs → lv_has ls 8 [(0, .ref (ad 22)), (1, .ref (ad 3)), (2, .int x2), (3, .int x3), (4, .int x4), (5, .int x5), (6, .int x6), (7, .int x7)] → W p l e (rmD dd) s m args below meth c H locs 0 0 (MQ below (QU D ad ac LC none h' s.heap.size) args s 0 0 (Aa ad LC.length s.heap.size)) (F0 m 98 ls [])) : ∀ (x2 : Int32) (x3 : Int32) (x4 : Int32) (x5 : Int32) (x6 : Int32) (x7 : Int32) (h : Mm) (H : Heap) (locs : List Loc) (ls : Array Slot), mX6_tryPass_166 kS k98 x2 x3 x4 x5 x6 x7 h = some h' → Hp D ad ac LC h s H locs → lv_has ls 8 [(0, .ref (ad 22)), (1, .ref (ad 3)), (2, .int x2), (3, .int x3), (4, .int x4), (5, .int x5), (6, .int x6), (7, .int x7)] → W p l e (rmD dd) s m args below meth c H locs 0 0 (MQ below (QU D ad ac LC none h' s.heap.size) args s 0 0 (Aa ad LC.length s.heap.size)) (F0 m 166 ls []) := by
  obtain ⟨hx, hb, hml, hown, hts, hr, hlk, hC, hI, hR⟩ := id X
  intro x2 x3 x4 x5 x6 x7 h H locs ls hm hH hl
  rw [mX6_tryPass_166] at hm
  refine lv_iinc (k := 7) (v := (x7 + 1)) (lv' := [(7, .int (x7 + 1)), (0, .ref (ad 22)), (1, .ref (ad 3)), (2, .int x2), (3, .int x3), (4, .int x4), (5, .int x5), (6, .int x6)]) hx hb dX6_tryPass_166 hl rfl rfl (by decide) rfl (fun ls hl => ?_)
  refine lv_goto hx hb dX6_tryPass_169 (tgt := 98) (by decide) ?_
  exact ih98 x2 x3 x4 x5 x6 (x7 + 1) h _ _ _ hm hH (lv_sub hl [1, 2, 3, 4, 5, 6, 7, 0] rfl)
def mX6_tryPass_163 (kS : Mm → Int32 → Int32 → Int32 → Option Mm) (k98 : Int32 → Int32 → Int32 → Int32 → Int32 → Int32 → Mm → Option Mm) (x2 : Int32) (x3 : Int32) (x4 : Int32) (x5 : Int32) (x6 : Int32) (x7 : Int32) (t0 : Int32) (t1 : Int32) (t2 : Int32) (h : Mm) : Option Mm := bdh (kS h t2 t1 t0) (fun h1 => mX6_tryPass_166 kS k98 x2 x3 x4 x5 x6 x7 h1)
set_option maxRecDepth 4000 in
theorem wX6_tryPass_163 {p : Program} {l : Launch} {e : Env} {s : State} {m : MethodId} {args : Array Value} {below : List Frame} {meth : Method} {c : Code} {D : va_G} {ad : Nat → Nat} {ac : Nat → ClassId} {h' : Mm} (X : Fx p s m args meth c cX6_tryPass 8 RX6 none D ad ac LC rlC) {ds dd : Nat} {kS : Mm → Int32 → Int32 → Int32 → Option Mm} (ihS : ∀ {h : Mm} {a2 a3 a4 : Int32} {h' : Mm}, kS h a2 a3 a4 = some h' → Mt l D ad ac LC rlC yX6_tryPass cX6_tryPass 8 none ds [.ref (ad 22), .ref (ad 3), .int a2, .int a3, .int a4] h none h') (hds : ds + 1 ≤ dd) (hdd : 3 ≤ dd) {k98 : Int32 → Int32 → Int32 → Int32 → Int32 → Int32 → Mm → Option Mm} (ih98 : ∀ (x2 : Int32) (x3 : Int32) (x4 : Int32) (x5 : Int32) (x6 : Int32) (x7 : Int32) (h : Mm) (H : Heap) (locs : List Loc) (ls : Array Slot), k98 x2 x3 x4 x5 x6 x7 h = some h' → Hp D ad ac LC h s H locs → lv_has ls 8 [(0, .ref (ad 22)), (1, .ref (ad 3)), (2, .int x2), (3, .int x3), (4, .int x4), (5, .int x5), (6, .int x6), (7, .int x7)] → W p l e (rmD dd) s m args below meth c H locs 0 0 (MQ below (QU D ad ac LC none h' s.heap.size) args s 0 0 (Aa ad LC.length s.heap.size)) (F0 m 98 ls [])) : ∀ (x2 : Int32) (x3 : Int32) (x4 : Int32) (x5 : Int32) (x6 : Int32) (x7 : Int32) (t0 : Int32) (t1 : Int32) (t2 : Int32) (h : Mm) (H : Heap) (locs : List Loc) (ls : Array Slot), mX6_tryPass_163 kS k98 x2 x3 x4 x5 x6 x7 t0 t1 t2 h = some h' → Hp D ad ac LC h s H locs → lv_has ls 8 [(0, .ref (ad 22)), (1, .ref (ad 3)), (2, .int x2), (3, .int x3), (4, .int x4), (5, .int x5), (6, .int x6), (7, .int x7)] → W p l e (rmD dd) s m args below meth c H locs 0 0 (MQ below (QU D ad ac LC none h' s.heap.size) args s 0 0 (Aa ad LC.length s.heap.size)) (F0 m 163 ls [.int t0, .int t1, .int t2, .ref (ad 3), .ref (ad 22)]) := by
  obtain ⟨hx, hb, hml, hown, hts, hr, hlk, hC, hI, hR⟩ := id X
  intro x2 x3 x4 x5 x6 x7 t0 t1 t2 h H locs ls hm hH hl
  rw [mX6_tryPass_163] at hm
  obtain ⟨h1, hq, hm⟩ := bdh_some hm
  refine cSv (As := [.ref (ad 22), .ref (ad 3), .int t2, .int t1, .int t0]) X hH kl_X6_89 ks_X6_tryPass (ihS hq) rfl (by omega) hl.1 rfl (Nat.le_of_ble_eq_true rfl) dX6_tryPass_163 (fun H locs hH => ?_)
  exact wX6_tryPass_166 X ihS hds hdd ih98 x2 x3 x4 x5 x6 x7 h1 _ _ _ hm hH (lv_sub hl [0, 1, 2, 3, 4, 5, 6, 7] rfl)
def mX6_tryPass_154 (kS : Mm → Int32 → Int32 → Int32 → Option Mm) (k98 : Int32 → Int32 → Int32 → Int32 → Int32 → Int32 → Mm → Option Mm) (x2 : Int32) (x3 : Int32) (x4 : Int32) (x5 : Int32) (x6 : Int32) (x7 : Int32) (t0 : Int32) (t1 : Int32) (h : Mm) : Option Mm := mX6_tryPass_163 kS k98 x2 x3 x4 x5 x6 x7 x4 t0 t1 h
set_option maxRecDepth 4000 in
theorem wX6_tryPass_154 {p : Program} {l : Launch} {e : Env} {s : State} {m : MethodId} {args : Array Value} {below : List Frame} {meth : Method} {c : Code} {D : va_G} {ad : Nat → Nat} {ac : Nat → ClassId} {h' : Mm} (X : Fx p s m args meth c cX6_tryPass 8 RX6 none D ad ac LC rlC) {ds dd : Nat} {kS : Mm → Int32 → Int32 → Int32 → Option Mm} (ihS : ∀ {h : Mm} {a2 a3 a4 : Int32} {h' : Mm}, kS h a2 a3 a4 = some h' → Mt l D ad ac LC rlC yX6_tryPass cX6_tryPass 8 none ds [.ref (ad 22), .ref (ad 3), .int a2, .int a3, .int a4] h none h') (hds : ds + 1 ≤ dd) (hdd : 3 ≤ dd) {k98 : Int32 → Int32 → Int32 → Int32 → Int32 → Int32 → Mm → Option Mm} (ih98 : ∀ (x2 : Int32) (x3 : Int32) (x4 : Int32) (x5 : Int32) (x6 : Int32) (x7 : Int32) (h : Mm) (H : Heap) (locs : List Loc) (ls : Array Slot), k98 x2 x3 x4 x5 x6 x7 h = some h' → Hp D ad ac LC h s H locs → lv_has ls 8 [(0, .ref (ad 22)), (1, .ref (ad 3)), (2, .int x2), (3, .int x3), (4, .int x4), (5, .int x5), (6, .int x6), (7, .int x7)] → W p l e (rmD dd) s m args below meth c H locs 0 0 (MQ below (QU D ad ac LC none h' s.heap.size) args s 0 0 (Aa ad LC.length s.heap.size)) (F0 m 98 ls [])) : ∀ (x2 : Int32) (x3 : Int32) (x4 : Int32) (x5 : Int32) (x6 : Int32) (x7 : Int32) (t0 : Int32) (t1 : Int32) (h : Mm) (H : Heap) (locs : List Loc) (ls : Array Slot), mX6_tryPass_154 kS k98 x2 x3 x4 x5 x6 x7 t0 t1 h = some h' → Hp D ad ac LC h s H locs → lv_has ls 8 [(0, .ref (ad 22)), (1, .ref (ad 3)), (2, .int x2), (3, .int x3), (4, .int x4), (5, .int x5), (6, .int x6), (7, .int x7)] → W p l e (rmD dd) s m args below meth c H locs 0 0 (MQ below (QU D ad ac LC none h' s.heap.size) args s 0 0 (Aa ad LC.length s.heap.size)) (F0 m 154 ls [.int t0, .int t1, .ref (ad 3), .ref (ad 22)]) := by
  obtain ⟨hx, hb, hml, hown, hts, hr, hlk, hC, hI, hR⟩ := id X
  intro x2 x3 x4 x5 x6 x7 t0 t1 h H locs ls hm hH hl
  rw [mX6_tryPass_154] at hm
  refine lv_iload hx hb dX6_tryPass_154 (lv_at hl 4 rfl) ?_
  refine lv_goto hx hb dX6_tryPass_156 (tgt := 163) (by decide) ?_
  exact wX6_tryPass_163 X ihS hds hdd ih98 x2 x3 x4 x5 x6 x7 x4 t0 t1 h _ _ _ hm hH (lv_sub hl [0, 1, 2, 3, 4, 5, 6, 7] rfl)
def mX6_tryPass_98 (kS : Mm → Int32 → Int32 → Int32 → Option Mm) : Nat → Int32 → Int32 → Int32 → Int32 → Int32 → Int32 → Mm → Option Mm
  | 0, _, _, _, _, _, _, _ => none
  | n + 1, x2, x3, x4, x5, x6, x7, h => if (h 42 3) ≤ x7 then (some h) else (if ((x5 >>> (x7 &&& 31)) &&& (1 : Int32)) = 0 then (mX6_tryPass_166 kS (mX6_tryPass_98 kS n) x2 x3 x4 x5 x6 x7 h) else (gIn x2 6 (mlet (wr h 28 x2.toNatClampNeg x7) (fun h1 => if x6 = (-1 : Int32) then (mX6_tryPass_154 kS (mX6_tryPass_98 kS n) x2 x3 x4 x5 x6 x7 (x3 ||| ((1 : Int32) <<< (x2 &&& 31))) (x2 + (1 : Int32)) h1) else (if x6 = x7 then (mX6_tryPass_154 kS (mX6_tryPass_98 kS n) x2 x3 x4 x5 x6 x7 (x3 ||| ((1 : Int32) <<< (x2 &&& 31))) (x2 + (1 : Int32)) h1) else (mX6_tryPass_163 kS (mX6_tryPass_98 kS n) x2 x3 x4 x5 x6 x7 (x4 + (1 : Int32)) (x3 ||| ((1 : Int32) <<< (x2 &&& 31))) (x2 + (1 : Int32)) h1))))))
set_option maxRecDepth 4000 in
theorem wX6_tryPass_98 {p : Program} {l : Launch} {e : Env} {s : State} {m : MethodId} {args : Array Value} {below : List Frame} {meth : Method} {c : Code} {D : va_G} {ad : Nat → Nat} {ac : Nat → ClassId} {h' : Mm} (X : Fx p s m args meth c cX6_tryPass 8 RX6 none D ad ac LC rlC) {ds dd : Nat} {kS : Mm → Int32 → Int32 → Int32 → Option Mm} (ihS : ∀ {h : Mm} {a2 a3 a4 : Int32} {h' : Mm}, kS h a2 a3 a4 = some h' → Mt l D ad ac LC rlC yX6_tryPass cX6_tryPass 8 none ds [.ref (ad 22), .ref (ad 3), .int a2, .int a3, .int a4] h none h') (hds : ds + 1 ≤ dd) (hdd : 3 ≤ dd) : ∀ (n : Nat) (x2 : Int32) (x3 : Int32) (x4 : Int32) (x5 : Int32) (x6 : Int32) (x7 : Int32) (h : Mm) (H : Heap) (locs : List Loc) (ls : Array Slot), mX6_tryPass_98 kS n x2 x3 x4 x5 x6 x7 h = some h' → Hp D ad ac LC h s H locs → lv_has ls 8 [(0, .ref (ad 22)), (1, .ref (ad 3)), (2, .int x2), (3, .int x3), (4, .int x4), (5, .int x5), (6, .int x6), (7, .int x7)] → W p l e (rmD dd) s m args below meth c H locs 0 0 (MQ below (QU D ad ac LC none h' s.heap.size) args s 0 0 (Aa ad LC.length s.heap.size)) (F0 m 98 ls []) := by
  obtain ⟨hx, hb, hml, hown, hts, hr, hlk, hC, hI, hR⟩ := id X
  intro n
  induction n with
  | zero => intro x2 x3 x4 x5 x6 x7 h H locs ls hm; rw [mX6_tryPass_98] at hm; cases hm
  | succ n ih =>
    intro x2 x3 x4 x5 x6 x7 h H locs ls hm hH hl
    rw [mX6_tryPass_98] at hm
    refine lv_iload hx hb dX6_tryPass_98 (lv_at hl 7 rfl) ?_
    refine lv_aload_n hx hb dX6_tryPass_100 rfl (lv_at hl 1 rfl) ?_
    refine gR X hH fl_X6_93 lC_3 rfl dX6_tryPass_101 ?_
    refine gR X hH fl_X6_97 lC_30 rfl dX6_tryPass_104 ?_
    refine gI X hH fl_X6_103 lC_42 rfl dX6_tryPass_107 ?_
    refine lv_icmp_ge hx hb dX6_tryPass_110 (tgt := 172) (by decide) (fun hc => ?_) (fun hc => ?_)
    · rw [if_pos hc] at hm
      cases hm
      exact retV X hH dX6_tryPass_172
    · rw [if_neg hc] at hm
      refine lv_iload hx hb dX6_tryPass_113 (lv_at hl 5 rfl) ?_
      refine lv_iload hx hb dX6_tryPass_115 (lv_at hl 7 rfl) ?_
      refine lv_ishr hx hb dX6_tryPass_117 ?_
      refine lv_iconst (v := 1) hx hb dX6_tryPass_118 (by decide) ?_
      refine lv_iand hx hb dX6_tryPass_119 ?_
      refine lv_if_eq hx hb dX6_tryPass_120 (tgt := 166) (by decide) (fun hc => ?_) (fun hc => ?_)
      · rw [if_pos hc] at hm
        exact wX6_tryPass_166 X ihS hds hdd ih x2 x3 x4 x5 x6 x7 h _ _ _ hm hH (lv_sub hl [0, 1, 2, 3, 4, 5, 6, 7] rfl)
      · rw [if_neg hc] at hm
        refine lv_aload_n hx hb dX6_tryPass_123 rfl (lv_at hl 0 rfl) ?_
        refine gR X hH fl_X6_27 lC_22 rfl dX6_tryPass_124 ?_
        refine lv_iload_n hx hb dX6_tryPass_127 rfl (lv_at hl 2 rfl) ?_
        refine lv_iload hx hb dX6_tryPass_128 (lv_at hl 7 rfl) ?_
        obtain ⟨hin2, hm⟩ := gIn_some hm
        obtain ⟨h1, eh1, hm⟩ := mlet_some hm
        refine ist X hH lC_28 hin2 dX6_tryPass_130 (fun H locs hH => ?_)
        rw [← eh1] at hH
        refine lv_aload_n hx hb dX6_tryPass_131 rfl (lv_at hl 0 rfl) ?_
        refine lv_aload_n hx hb dX6_tryPass_132 rfl (lv_at hl 1 rfl) ?_
        refine lv_iload_n hx hb dX6_tryPass_133 rfl (lv_at hl 2 rfl) ?_
        refine lv_iconst (v := 1) hx hb dX6_tryPass_134 (by decide) ?_
        refine lv_iadd hx hb dX6_tryPass_135 ?_
        refine lv_iload_n hx hb dX6_tryPass_136 rfl (lv_at hl 3 rfl) ?_
        refine lv_iconst (v := 1) hx hb dX6_tryPass_137 (by decide) ?_
        refine lv_iload_n hx hb dX6_tryPass_138 rfl (lv_at hl 2 rfl) ?_
        refine lv_ishl hx hb dX6_tryPass_139 ?_
        refine lv_ior hx hb dX6_tryPass_140 ?_
        refine lv_iload hx hb dX6_tryPass_141 (lv_at hl 6 rfl) ?_
        refine lv_iconst (v := (-1)) hx hb dX6_tryPass_143 (by decide) ?_
        refine lv_icmp_eq hx hb dX6_tryPass_144 (tgt := 154) (by decide) (fun hc => ?_) (fun hc => ?_)
        · rw [if_pos hc] at hm
          exact wX6_tryPass_154 X ihS hds hdd ih x2 x3 x4 x5 x6 x7 (x3 ||| ((1 : Int32) <<< (x2 &&& 31))) (x2 + (1 : Int32)) h1 _ _ _ hm hH (lv_sub hl [0, 1, 2, 3, 4, 5, 6, 7] rfl)
        · rw [if_neg hc] at hm
          refine lv_iload hx hb dX6_tryPass_147 (lv_at hl 6 rfl) ?_
          refine lv_iload hx hb dX6_tryPass_149 (lv_at hl 7 rfl) ?_
          refine lv_icmp_ne hx hb dX6_tryPass_151 (tgt := 159) (by decide) (fun hc => ?_) (fun hc => ?_)
          · rw [if_neg hc] at hm
            refine lv_iload hx hb dX6_tryPass_159 (lv_at hl 4 rfl) ?_
            refine lv_iconst (v := 1) hx hb dX6_tryPass_161 (by decide) ?_
            refine lv_iadd hx hb dX6_tryPass_162 ?_
            exact wX6_tryPass_163 X ihS hds hdd ih x2 x3 x4 x5 x6 x7 (x4 + (1 : Int32)) (x3 ||| ((1 : Int32) <<< (x2 &&& 31))) (x2 + (1 : Int32)) h1 _ _ _ hm hH (lv_sub hl [0, 1, 2, 3, 4, 5, 6, 7] rfl)
          · rw [if_pos hc] at hm
            exact wX6_tryPass_154 X ihS hds hdd ih x2 x3 x4 x5 x6 x7 (x3 ||| ((1 : Int32) <<< (x2 &&& 31))) (x2 + (1 : Int32)) h1 _ _ _ hm hH (lv_sub hl [0, 1, 2, 3, 4, 5, 6, 7] rfl)
def mX6_tryPass_body (kS : Mm → Int32 → Int32 → Int32 → Option Mm) (h : Mm) (a2 : Int32) (a3 : Int32) (a4 : Int32) : Option Mm := gIn (((1 : Int32) <<< (a2 &&& 31)) + a3) 128 (if (h 22 13) ≤ ((h 26 (((1 : Int32) <<< (a2 &&& 31)) + a3).toNatClampNeg) + a4) then (some h) else (bd1 (mX6_changesAhead h a2 a3) (fun v2 => if (v2 + a4) ≤ (h 22 12) then (if a2 < (h 22 8) then (gIn a2 6 (mlet (wr h 28 a2.toNatClampNeg (-1 : Int32)) (fun h3 => bdh (kS h3 (a2 + (1 : Int32)) a3 a4) (fun h5 => bd1 (mX6_freeAntennas h5 a2 a3) (fun v6 => gIn ((h5 22 11) + a2) 24 (mlet (h5 12 ((h5 22 11) + a2).toNatClampNeg) (fun u8 => mX6_tryPass_98 kS FU a2 a3 a4 v6 u8 (0 : Int32) h5))))))) else (bdh (mX6_keepWay h a3 a4) (fun h9 => some h9))) else (some h))))
set_option maxRecDepth 4000 in
theorem mtb_X6_tryPass {l : Launch} {D : va_G} {ad : Nat → Nat} {ac : Nat → ClassId} {h : Mm} {a2 : Int32} {a3 : Int32} {a4 : Int32} {h' : Mm} {ds dd : Nat} {kS : Mm → Int32 → Int32 → Int32 → Option Mm} (ihS : ∀ {h : Mm} {a2 a3 a4 : Int32} {h' : Mm}, kS h a2 a3 a4 = some h' → Mt l D ad ac LC rlC yX6_tryPass cX6_tryPass 8 none ds [.ref (ad 22), .ref (ad 3), .int a2, .int a3, .int a4] h none h') (hds : ds + 1 ≤ dd) (hdd : 3 ≤ dd) (hm : mX6_tryPass_body kS h a2 a3 a4 = some h') : Mt l D ad ac LC rlC yX6_tryPass cX6_tryPass 8 none dd [.ref (ad 22), .ref (ad 3), .int a2, .int a3, .int a4] h none h' := by
  refine Mt.of (own := RX6) (by decide) rfl (Nat.le_of_ble_eq_true rfl) ?_
  intro p e s m below meth c ls X hH hl
  obtain ⟨hx, hb, hml, hown, hts, hr, hlk, hC, hI, hR⟩ := id X
  have hl : lv_has ls 8 [(0, .ref (ad 22)), (1, .ref (ad 3)), (2, .int a2), (3, .int a3), (4, .int a4)] := hl
  rw [mX6_tryPass_body] at hm
  refine lv_aload_n hx hb dX6_tryPass_0 rfl (lv_at hl 0 rfl) ?_
  refine gR X hH fl_X6_21 lC_22 rfl dX6_tryPass_1 ?_
  refine lv_iconst (v := 1) hx hb dX6_tryPass_4 (by decide) ?_
  refine lv_iload_n hx hb dX6_tryPass_5 rfl (lv_at hl 2 rfl) ?_
  refine lv_ishl hx hb dX6_tryPass_6 ?_
  refine lv_iload_n hx hb dX6_tryPass_7 rfl (lv_at hl 3 rfl) ?_
  refine lv_iadd hx hb dX6_tryPass_8 ?_
  obtain ⟨hin1, hm⟩ := gIn_some hm
  refine ild X hH lC_26 hin1 dX6_tryPass_9 ?_
  refine lv_iload hx hb dX6_tryPass_10 (lv_at hl 4 rfl) ?_
  refine lv_iadd hx hb dX6_tryPass_12 ?_
  refine lv_aload_n hx hb dX6_tryPass_13 rfl (lv_at hl 0 rfl) ?_
  refine gI X hH fl_X6_189 lC_22 rfl dX6_tryPass_14 ?_
  refine lv_icmp_ge hx hb dX6_tryPass_17 (tgt := 36) (by decide) (fun hc => ?_) (fun hc => ?_)
  · rw [if_pos hc] at hm
    cases hm
    exact retV X hH dX6_tryPass_36
  · rw [if_neg hc] at hm
    refine lv_aload_n hx hb dX6_tryPass_20 rfl (lv_at hl 0 rfl) ?_
    refine lv_iload_n hx hb dX6_tryPass_21 rfl (lv_at hl 2 rfl) ?_
    refine lv_iload_n hx hb dX6_tryPass_22 rfl (lv_at hl 3 rfl) ?_
    obtain ⟨v2, hq, hm⟩ := bd1_some hm
    refine cVi X hH kl_X6_195 kv_X6_changesAhead (mt_X6_changesAhead hq) lC_22 rfl rfl (by omega) hl.1 rfl (Nat.le_of_ble_eq_true rfl) dX6_tryPass_23 (fun H locs hH => ?_)
    refine lv_iload hx hb dX6_tryPass_26 (lv_at hl 4 rfl) ?_
    refine lv_iadd hx hb dX6_tryPass_28 ?_
    refine lv_aload_n hx hb dX6_tryPass_29 rfl (lv_at hl 0 rfl) ?_
    refine gI X hH fl_X6_44 lC_22 rfl dX6_tryPass_30 ?_
    refine lv_icmp_le hx hb dX6_tryPass_33 (tgt := 37) (by decide) (fun hc => ?_) (fun hc => ?_)
    · rw [if_pos hc] at hm
      refine lv_iload_n hx hb dX6_tryPass_37 rfl (lv_at hl 2 rfl) ?_
      refine lv_aload_n hx hb dX6_tryPass_38 rfl (lv_at hl 0 rfl) ?_
      refine gI X hH fl_X6_53 lC_22 rfl dX6_tryPass_39 ?_
      refine lv_icmp_lt hx hb dX6_tryPass_42 (tgt := 53) (by decide) (fun hc => ?_) (fun hc => ?_)
      · rw [if_pos hc] at hm
        refine lv_aload_n hx hb dX6_tryPass_53 rfl (lv_at hl 0 rfl) ?_
        refine gR X hH fl_X6_27 lC_22 rfl dX6_tryPass_54 ?_
        refine lv_iload_n hx hb dX6_tryPass_57 rfl (lv_at hl 2 rfl) ?_
        refine lv_iconst (v := (-1)) hx hb dX6_tryPass_58 (by decide) ?_
        obtain ⟨hin4, hm⟩ := gIn_some hm
        obtain ⟨h3, eh3, hm⟩ := mlet_some hm
        refine ist X hH lC_28 hin4 dX6_tryPass_59 (fun H locs hH => ?_)
        rw [← eh3] at hH
        refine lv_aload_n hx hb dX6_tryPass_60 rfl (lv_at hl 0 rfl) ?_
        refine lv_aload_n hx hb dX6_tryPass_61 rfl (lv_at hl 1 rfl) ?_
        refine lv_iload_n hx hb dX6_tryPass_62 rfl (lv_at hl 2 rfl) ?_
        refine lv_iconst (v := 1) hx hb dX6_tryPass_63 (by decide) ?_
        refine lv_iadd hx hb dX6_tryPass_64 ?_
        refine lv_iload_n hx hb dX6_tryPass_65 rfl (lv_at hl 3 rfl) ?_
        refine lv_iload hx hb dX6_tryPass_66 (lv_at hl 4 rfl) ?_
        obtain ⟨h5, hq, hm⟩ := bdh_some hm
        refine cSv (As := [.ref (ad 22), .ref (ad 3), .int (a2 + (1 : Int32)), .int a3, .int a4]) X hH kl_X6_89 ks_X6_tryPass (ihS hq) rfl (by omega) hl.1 rfl (Nat.le_of_ble_eq_true rfl) dX6_tryPass_68 (fun H locs hH => ?_)
        refine lv_aload_n hx hb dX6_tryPass_71 rfl (lv_at hl 0 rfl) ?_
        refine lv_iload_n hx hb dX6_tryPass_72 rfl (lv_at hl 2 rfl) ?_
        refine lv_iload_n hx hb dX6_tryPass_73 rfl (lv_at hl 3 rfl) ?_
        obtain ⟨v6, hq, hm⟩ := bd1_some hm
        refine cVi X hH kl_X6_202 kv_X6_freeAntennas (mt_X6_freeAntennas hq) lC_22 rfl rfl (by omega) hl.1 rfl (Nat.le_of_ble_eq_true rfl) dX6_tryPass_74 (fun H locs hH => ?_)
        refine lv_istore (lv' := [(5, .int v6), (0, .ref (ad 22)), (1, .ref (ad 3)), (2, .int a2), (3, .int a3), (4, .int a4)]) hx hb dX6_tryPass_77 hl (by decide) rfl (fun ls hl => ?_)
        refine lv_aload_n hx hb dX6_tryPass_79 rfl (lv_at hl 2 rfl) ?_
        refine gR X hH fl_X6_171 lC_3 rfl dX6_tryPass_80 ?_
        refine gR X hH fl_X6_175 lC_11 rfl dX6_tryPass_83 ?_
        refine lv_aload_n hx hb dX6_tryPass_86 rfl (lv_at hl 1 rfl) ?_
        refine gI X hH fl_X6_41 lC_22 rfl dX6_tryPass_87 ?_
        refine lv_iload_n hx hb dX6_tryPass_90 rfl (lv_at hl 3 rfl) ?_
        refine lv_iadd hx hb dX6_tryPass_91 ?_
        obtain ⟨hin7, hm⟩ := gIn_some hm
        refine ild X hH lC_12 hin7 dX6_tryPass_92 ?_
        obtain ⟨u8, eu8, hm⟩ := mlet_some hm
        refine W.eq (g2 := F0 m 93 ls (.int u8 :: [])) (by rw [eu8]) ?_
        refine lv_istore (lv' := [(6, .int u8), (5, .int v6), (0, .ref (ad 22)), (1, .ref (ad 3)), (2, .int a2), (3, .int a3), (4, .int a4)]) hx hb dX6_tryPass_93 hl (by decide) rfl (fun ls hl => ?_)
        refine lv_iconst (v := 0) hx hb dX6_tryPass_95 (by decide) ?_
        refine lv_istore (lv' := [(7, .int (0 : Int32)), (6, .int u8), (5, .int v6), (0, .ref (ad 22)), (1, .ref (ad 3)), (2, .int a2), (3, .int a3), (4, .int a4)]) hx hb dX6_tryPass_96 hl (by decide) rfl (fun ls hl => ?_)
        exact wX6_tryPass_98 X ihS hds hdd FU a2 a3 a4 v6 u8 (0 : Int32) h5 _ _ _ hm hH (lv_sub hl [3, 4, 5, 6, 7, 2, 1, 0] rfl)
      · rw [if_neg hc] at hm
        refine lv_aload_n hx hb dX6_tryPass_45 rfl (lv_at hl 0 rfl) ?_
        refine lv_iload_n hx hb dX6_tryPass_46 rfl (lv_at hl 3 rfl) ?_
        refine lv_iload hx hb dX6_tryPass_47 (lv_at hl 4 rfl) ?_
        obtain ⟨h9, hq, hm⟩ := bdh_some hm
        refine cVv X hH kl_X6_198 kv_X6_keepWay (mt_X6_keepWay hq) lC_22 rfl rfl (by omega) hl.1 rfl (Nat.le_of_ble_eq_true rfl) dX6_tryPass_49 (fun H locs hH => ?_)
        cases hm
        exact retV X hH dX6_tryPass_52
    · rw [if_neg hc] at hm
      cases hm
      exact retV X hH dX6_tryPass_36
def mX6_tryPass : Nat → Mm → Int32 → Int32 → Int32 → Option Mm
  | 0, _, _, _, _ => none
  | n + 1, h, a2, a3, a4 => mX6_tryPass_body (mX6_tryPass n) h a2 a3 a4
theorem mt_X6_tryPass {l : Launch} {D : va_G} {ad : Nat → Nat} {ac : Nat → ClassId} : ∀ (n : Nat) {h : Mm} {a2 a3 a4 : Int32} {h' : Mm}, mX6_tryPass n h a2 a3 a4 = some h' → Mt l D ad ac LC rlC yX6_tryPass cX6_tryPass 8 none (3 + n) [.ref (ad 22), .ref (ad 3), .int a2, .int a3, .int a4] h none h' := by
  intro n
  induction n with
  | zero => intro h a2 a3 a4 h' hm; rw [mX6_tryPass] at hm; cases hm
  | succ n ih => intro h a2 a3 a4 h' hm; rw [mX6_tryPass] at hm; exact mtb_X6_tryPass (ds := 3 + n) (dd := 3 + (n + 1)) ih (by omega) (by omega) hm
/-! X6_find -/
def mX6_find_132 (h : Mm) : Option Mm := bdh (mX6_rankMasks h) (fun h1 => bdh (mX6_lookOut h1) (fun h2 => bdh (mX6_startFromNow h2) (fun h3 => bdh (mX6_tryPass 8 h3 (0 : Int32) (0 : Int32) (0 : Int32)) (fun h4 => mlet (wr h4 22 9 (1 : Int32)) (fun h5 => some h5)))))
set_option maxRecDepth 4000 in
theorem wX6_find_132 {p : Program} {l : Launch} {e : Env} {s : State} {m : MethodId} {args : Array Value} {below : List Frame} {meth : Method} {c : Code} {D : va_G} {ad : Nat → Nat} {ac : Nat → ClassId} {h' : Mm} (X : Fx p s m args meth c cX6_find 7 RX6 none D ad ac LC rlC) : ∀ (h : Mm) (H : Heap) (locs : List Loc) (ls : Array Slot), mX6_find_132 h = some h' → Hp D ad ac LC h s H locs → lv_has ls 7 [(0, .ref (ad 22)), (1, .ref (ad 3))] → W p l e (rmD 12) s m args below meth c H locs 0 0 (MQ below (QU D ad ac LC none h' s.heap.size) args s 0 0 (Aa ad LC.length s.heap.size)) (F0 m 132 ls []) := by
  obtain ⟨hx, hb, hml, hown, hts, hr, hlk, hC, hI, hR⟩ := id X
  intro h H locs ls hm hH hl
  rw [mX6_find_132] at hm
  refine lv_aload_n hx hb dX6_find_132 rfl (lv_at hl 0 rfl) ?_
  obtain ⟨h1, hq, hm⟩ := bdh_some hm
  refine cVv X hH kl_X6_80 kv_X6_rankMasks (mt_X6_rankMasks hq) lC_22 rfl rfl (by decide) hl.1 rfl (Nat.le_of_ble_eq_true rfl) dX6_find_133 (fun H locs hH => ?_)
  refine lv_aload_n hx hb dX6_find_136 rfl (lv_at hl 0 rfl) ?_
  obtain ⟨h2, hq, hm⟩ := bdh_some hm
  refine cVv X hH kl_X6_83 kv_X6_lookOut (mt_X6_lookOut hq) lC_22 rfl rfl (by decide) hl.1 rfl (Nat.le_of_ble_eq_true rfl) dX6_find_137 (fun H locs hH => ?_)
  refine lv_aload_n hx hb dX6_find_140 rfl (lv_at hl 0 rfl) ?_
  refine lv_aload_n hx hb dX6_find_141 rfl (lv_at hl 1 rfl) ?_
  obtain ⟨h3, hq, hm⟩ := bdh_some hm
  refine cVv X hH kl_X6_86 kv_X6_startFromNow (mt_X6_startFromNow hq) lC_22 rfl rfl (by decide) hl.1 rfl (Nat.le_of_ble_eq_true rfl) dX6_find_142 (fun H locs hH => ?_)
  refine lv_aload_n hx hb dX6_find_145 rfl (lv_at hl 0 rfl) ?_
  refine lv_aload_n hx hb dX6_find_146 rfl (lv_at hl 1 rfl) ?_
  refine lv_iconst (v := 0) hx hb dX6_find_147 (by decide) ?_
  refine lv_iconst (v := 0) hx hb dX6_find_148 (by decide) ?_
  refine lv_iconst (v := 0) hx hb dX6_find_149 (by decide) ?_
  obtain ⟨h4, hq, hm⟩ := bdh_some hm
  refine cSv (As := [.ref (ad 22), .ref (ad 3), .int (0 : Int32), .int (0 : Int32), .int (0 : Int32)]) X hH kl_X6_89 ks_X6_tryPass (mt_X6_tryPass 8 hq) rfl (by decide) hl.1 rfl (Nat.le_of_ble_eq_true rfl) dX6_find_150 (fun H locs hH => ?_)
  refine lv_aload_n hx hb dX6_find_153 rfl (lv_at hl 0 rfl) ?_
  refine lv_iconst (v := 1) hx hb dX6_find_154 (by decide) ?_
  obtain ⟨h5, eh5, hm⟩ := mlet_some hm
  refine pF X hH fl_X6_33 fw_6_9 lC_22 rfl (x := (1 : Int32)) rfl rfl dX6_find_155 (fun H locs hH => ?_)
  rw [← eh5] at hH
  cases hm
  exact retV X hH dX6_find_158
def mX6_find_34 (x3 : Int32) (x4 : Int32) (x5 : Int32) (h : Mm) : Option Mm := mlet (wr h 22 10 x3) (fun h1 => mlet (wr h1 22 11 x4) (fun h2 => mlet (wr h2 22 12 x5) (fun h3 => bd1 (mX4_windowSize h3 x4) (fun v4 => mlet (wr h3 22 8 v4) (fun h5 => mlet (((1 : Int32) <<< ((h5 22 8) &&& 31)) - (1 : Int32)) (fun u6 => bd1 (mX4_contactBits h5) (fun v7 => mlet (wr h5 22 6 (v7 &&& ((u6 <<< (x4 &&& 31)) ^^^ (-1 : Int32)))) (fun h8 => bd1 (mX4_contactBits h8) (fun v9 => mlet (wr h8 22 7 ((v9 >>> (x4 &&& 31)) &&& u6)) (fun h10 => bdh (mX6_findOpen h10) (fun h11 => bdh (mX6_findApart h11) (fun h12 => if (h12 22 10) = 0 then (bdh (mX6_weighVolumes h12) (fun h14 => mX6_find_132  h14)) else (bdh (mX6_weighLosses h12) (fun h13 => mX6_find_132  h13))))))))))))))
set_option maxRecDepth 4000 in
theorem wX6_find_34 {p : Program} {l : Launch} {e : Env} {s : State} {m : MethodId} {args : Array Value} {below : List Frame} {meth : Method} {c : Code} {D : va_G} {ad : Nat → Nat} {ac : Nat → ClassId} {h' : Mm} (X : Fx p s m args meth c cX6_find 7 RX6 none D ad ac LC rlC) : ∀ (x3 : Int32) (x4 : Int32) (x5 : Int32) (h : Mm) (H : Heap) (locs : List Loc) (ls : Array Slot), mX6_find_34 x3 x4 x5 h = some h' → Hp D ad ac LC h s H locs → lv_has ls 7 [(0, .ref (ad 22)), (1, .ref (ad 3)), (2, .ref (ad 15)), (3, .int x3), (4, .int x4), (5, .int x5)] → W p l e (rmD 12) s m args below meth c H locs 0 0 (MQ below (QU D ad ac LC none h' s.heap.size) args s 0 0 (Aa ad LC.length s.heap.size)) (F0 m 34 ls []) := by
  obtain ⟨hx, hb, hml, hown, hts, hr, hlk, hC, hI, hR⟩ := id X
  intro x3 x4 x5 h H locs ls hm hH hl
  rw [mX6_find_34] at hm
  refine lv_aload_n hx hb dX6_find_34 rfl (lv_at hl 0 rfl) ?_
  refine lv_iload_n hx hb dX6_find_35 rfl (lv_at hl 3 rfl) ?_
  obtain ⟨h1, eh1, hm⟩ := mlet_some hm
  refine pI X hH fl_X6_37 fw_6_10 lC_22 rfl dX6_find_36 (fun H locs hH => ?_)
  rw [← eh1] at hH
  refine lv_aload_n hx hb dX6_find_39 rfl (lv_at hl 0 rfl) ?_
  refine lv_iload hx hb dX6_find_40 (lv_at hl 4 rfl) ?_
  obtain ⟨h2, eh2, hm⟩ := mlet_some hm
  refine pI X hH fl_X6_41 fw_6_11 lC_22 rfl dX6_find_42 (fun H locs hH => ?_)
  rw [← eh2] at hH
  refine lv_aload_n hx hb dX6_find_45 rfl (lv_at hl 0 rfl) ?_
  refine lv_iload hx hb dX6_find_46 (lv_at hl 5 rfl) ?_
  obtain ⟨h3, eh3, hm⟩ := mlet_some hm
  refine pI X hH fl_X6_44 fw_6_12 lC_22 rfl dX6_find_48 (fun H locs hH => ?_)
  rw [← eh3] at hH
  refine lv_aload_n hx hb dX6_find_51 rfl (lv_at hl 0 rfl) ?_
  refine lv_aload_n hx hb dX6_find_52 rfl (lv_at hl 1 rfl) ?_
  refine lv_iload hx hb dX6_find_53 (lv_at hl 4 rfl) ?_
  obtain ⟨v4, hq, hm⟩ := bd1_some hm
  refine cVi X hH kl_X6_47 kv_X4_windowSize (mt_X4_windowSize hq) lC_3 rfl rfl (by decide) hl.1 rfl (Nat.le_of_ble_eq_true rfl) dX6_find_55 (fun H locs hH => ?_)
  obtain ⟨h5, eh5, hm⟩ := mlet_some hm
  refine pI X hH fl_X6_53 fw_6_8 lC_22 rfl dX6_find_58 (fun H locs hH => ?_)
  rw [← eh5] at hH
  refine lv_iconst (v := 1) hx hb dX6_find_61 (by decide) ?_
  refine lv_aload_n hx hb dX6_find_62 rfl (lv_at hl 0 rfl) ?_
  refine gI X hH fl_X6_53 lC_22 rfl dX6_find_63 ?_
  refine lv_ishl hx hb dX6_find_66 ?_
  refine lv_iconst (v := 1) hx hb dX6_find_67 (by decide) ?_
  refine lv_isub hx hb dX6_find_68 ?_
  obtain ⟨u6, eu6, hm⟩ := mlet_some hm
  refine W.eq (g2 := F0 m 69 ls (.int u6 :: [])) (by rw [eu6]) ?_
  refine lv_istore (lv' := [(6, .int u6), (0, .ref (ad 22)), (1, .ref (ad 3)), (2, .ref (ad 15)), (3, .int x3), (4, .int x4), (5, .int x5)]) hx hb dX6_find_69 hl (by decide) rfl (fun ls hl => ?_)
  refine lv_aload_n hx hb dX6_find_71 rfl (lv_at hl 1 rfl) ?_
  refine lv_aload_n hx hb dX6_find_72 rfl (lv_at hl 2 rfl) ?_
  obtain ⟨v7, hq, hm⟩ := bd1_some hm
  refine cVi X hH kl_X6_56 kv_X4_contactBits (mt_X4_contactBits hq) lC_3 rfl rfl (by decide) hl.1 rfl (Nat.le_of_ble_eq_true rfl) dX6_find_73 (fun H locs hH => ?_)
  refine lv_iload hx hb dX6_find_76 (lv_at hl 0 rfl) ?_
  refine lv_iload hx hb dX6_find_78 (lv_at hl 5 rfl) ?_
  refine lv_ishl hx hb dX6_find_80 ?_
  refine lv_iconst (v := (-1)) hx hb dX6_find_81 (by decide) ?_
  refine lv_ixor hx hb dX6_find_82 ?_
  refine lv_iand hx hb dX6_find_83 ?_
  obtain ⟨h8, eh8, hm⟩ := mlet_some hm
  refine pI X hH fl_X6_60 fw_6_6 lC_22 rfl dX6_find_84 (fun H locs hH => ?_)
  rw [← eh8] at hH
  refine lv_aload_n hx hb dX6_find_87 rfl (lv_at hl 1 rfl) ?_
  refine lv_aload_n hx hb dX6_find_88 rfl (lv_at hl 2 rfl) ?_
  obtain ⟨v9, hq, hm⟩ := bd1_some hm
  refine cVi X hH kl_X6_56 kv_X4_contactBits (mt_X4_contactBits hq) lC_3 rfl rfl (by decide) hl.1 rfl (Nat.le_of_ble_eq_true rfl) dX6_find_89 (fun H locs hH => ?_)
  refine lv_iload hx hb dX6_find_92 (lv_at hl 5 rfl) ?_
  refine lv_ishr hx hb dX6_find_94 ?_
  refine lv_iload hx hb dX6_find_95 (lv_at hl 0 rfl) ?_
  refine lv_iand hx hb dX6_find_97 ?_
  obtain ⟨h10, eh10, hm⟩ := mlet_some hm
  refine pI X hH fl_X6_63 fw_6_7 lC_22 rfl dX6_find_98 (fun H locs hH => ?_)
  rw [← eh10] at hH
  refine lv_aload_n hx hb dX6_find_101 rfl (lv_at hl 1 rfl) ?_
  refine lv_aload_n hx hb dX6_find_102 rfl (lv_at hl 2 rfl) ?_
  obtain ⟨h11, hq, hm⟩ := bdh_some hm
  refine cVv X hH kl_X6_66 kv_X6_findOpen (mt_X6_findOpen hq) lC_22 rfl rfl (by decide) hl.1 rfl (Nat.le_of_ble_eq_true rfl) dX6_find_103 (fun H locs hH => ?_)
  refine lv_aload_n hx hb dX6_find_106 rfl (lv_at hl 1 rfl) ?_
  refine lv_aload_n hx hb dX6_find_107 rfl (lv_at hl 2 rfl) ?_
  obtain ⟨h12, hq, hm⟩ := bdh_some hm
  refine cVv X hH kl_X6_70 kv_X6_findApart (mt_X6_findApart hq) lC_22 rfl rfl (by decide) hl.1 rfl (Nat.le_of_ble_eq_true rfl) dX6_find_108 (fun H locs hH => ?_)
  refine lv_aload_n hx hb dX6_find_111 rfl (lv_at hl 1 rfl) ?_
  refine gI X hH fl_X6_37 lC_22 rfl dX6_find_112 ?_
  refine lv_if_ne hx hb dX6_find_115 (tgt := 126) (by decide) (fun hc => ?_) (fun hc => ?_)
  · rw [if_neg hc] at hm
    refine lv_aload_n hx hb dX6_find_126 rfl (lv_at hl 1 rfl) ?_
    refine lv_aload_n hx hb dX6_find_127 rfl (lv_at hl 2 rfl) ?_
    refine lv_aload_n hx hb dX6_find_128 rfl (lv_at hl 3 rfl) ?_
    obtain ⟨h13, hq, hm⟩ := bdh_some hm
    refine cVv X hH kl_X6_76 kv_X6_weighLosses (mt_X6_weighLosses hq) lC_22 rfl rfl (by decide) hl.1 rfl (Nat.le_of_ble_eq_true rfl) dX6_find_129 (fun H locs hH => ?_)
    exact wX6_find_132 X  h13 _ _ _ hm hH (lv_sub hl [1, 2] rfl)
  · rw [if_pos hc] at hm
    refine lv_aload_n hx hb dX6_find_118 rfl (lv_at hl 1 rfl) ?_
    refine lv_aload_n hx hb dX6_find_119 rfl (lv_at hl 2 rfl) ?_
    obtain ⟨h14, hq, hm⟩ := bdh_some hm
    refine cVv X hH kl_X6_73 kv_X6_weighVolumes (mt_X6_weighVolumes hq) lC_22 rfl rfl (by decide) hl.1 rfl (Nat.le_of_ble_eq_true rfl) dX6_find_120 (fun H locs hH => ?_)
    refine lv_goto hx hb dX6_find_123 (tgt := 132) (by decide) ?_
    exact wX6_find_132 X  h14 _ _ _ hm hH (lv_sub hl [1, 2] rfl)
def mX6_find (h : Mm) (a3 : Int32) (a4 : Int32) (a5 : Int32) : Option Mm := if (h 22 9) = 0 then (mX6_find_34 a3 a4 a5 h) else (if (h 22 10) = a3 then (if (h 22 11) = a4 then (if (h 22 12) = a5 then (some h) else (mX6_find_34 a3 a4 a5 h)) else (mX6_find_34 a3 a4 a5 h)) else (mX6_find_34 a3 a4 a5 h))
set_option maxRecDepth 4000 in
theorem mt_X6_find {l : Launch} {D : va_G} {ad : Nat → Nat} {ac : Nat → ClassId} {h : Mm} {a3 : Int32} {a4 : Int32} {a5 : Int32} {h' : Mm} (hm : mX6_find h a3 a4 a5 = some h') : Mt l D ad ac LC rlC yX6_find cX6_find 7 none 12 [.ref (ad 22), .ref (ad 3), .ref (ad 15), .int a3, .int a4, .int a5] h none h' := by
  refine Mt.of (own := RX6) (by decide) rfl (Nat.le_of_ble_eq_true rfl) ?_
  intro p e s m below meth c ls X hH hl
  obtain ⟨hx, hb, hml, hown, hts, hr, hlk, hC, hI, hR⟩ := id X
  have hl : lv_has ls 7 [(0, .ref (ad 22)), (1, .ref (ad 3)), (2, .ref (ad 15)), (3, .int a3), (4, .int a4), (5, .int a5)] := hl
  rw [mX6_find] at hm
  refine lv_aload_n hx hb dX6_find_0 rfl (lv_at hl 0 rfl) ?_
  refine gI X hH fl_X6_33 lC_22 rfl dX6_find_1 ?_
  refine lv_if_eq hx hb dX6_find_4 (tgt := 34) (by decide) (fun hc => ?_) (fun hc => ?_)
  · rw [if_pos hc] at hm
    exact wX6_find_34 X a3 a4 a5 h _ _ _ hm hH (lv_sub hl [0, 1, 2, 3, 4, 5] rfl)
  · rw [if_neg hc] at hm
    refine lv_aload_n hx hb dX6_find_7 rfl (lv_at hl 0 rfl) ?_
    refine gI X hH fl_X6_37 lC_22 rfl dX6_find_8 ?_
    refine lv_iload_n hx hb dX6_find_11 rfl (lv_at hl 3 rfl) ?_
    refine lv_icmp_ne hx hb dX6_find_12 (tgt := 34) (by decide) (fun hc => ?_) (fun hc => ?_)
    · rw [if_neg hc] at hm
      exact wX6_find_34 X a3 a4 a5 h _ _ _ hm hH (lv_sub hl [0, 1, 2, 3, 4, 5] rfl)
    · rw [if_pos hc] at hm
      refine lv_aload_n hx hb dX6_find_15 rfl (lv_at hl 0 rfl) ?_
      refine gI X hH fl_X6_41 lC_22 rfl dX6_find_16 ?_
      refine lv_iload hx hb dX6_find_19 (lv_at hl 4 rfl) ?_
      refine lv_icmp_ne hx hb dX6_find_21 (tgt := 34) (by decide) (fun hc => ?_) (fun hc => ?_)
      · rw [if_neg hc] at hm
        exact wX6_find_34 X a3 a4 a5 h _ _ _ hm hH (lv_sub hl [0, 1, 2, 3, 4, 5] rfl)
      · rw [if_pos hc] at hm
        refine lv_aload_n hx hb dX6_find_24 rfl (lv_at hl 0 rfl) ?_
        refine gI X hH fl_X6_44 lC_22 rfl dX6_find_25 ?_
        refine lv_iload hx hb dX6_find_28 (lv_at hl 5 rfl) ?_
        refine lv_icmp_ne hx hb dX6_find_30 (tgt := 34) (by decide) (fun hc => ?_) (fun hc => ?_)
        · rw [if_neg hc] at hm
          exact wX6_find_34 X a3 a4 a5 h _ _ _ hm hH (lv_sub hl [0, 1, 2, 3, 4, 5] rfl)
        · rw [if_pos hc] at hm
          cases hm
          exact retV X hH dX6_find_33
