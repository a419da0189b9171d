/-! X11_fills_0_20 -/
def mX11_fills_0_20_85 (k24 : Int32 → Mm → Option Mm) (x2 : Int32) (h : Mm) : Option Mm := k24 (x2 + 1) h
set_option maxRecDepth 4000 in
theorem wX11_fills_0_20_85 {p : Program} {l : Launch} {e : Env} {s : State} {m : MethodId} {args : Array Value} {below : List Frame} {meth : Method} {c : Code} {D : va_G} {ad : Nat → Nat} {ac : Nat → ClassId} {h' : Mm} (X : Fx p s m args meth c cX11_fills 4 RX11 none D ad ac LM []) {k24 : Int32 → Mm → Option Mm} (ih24 : ∀ (x2 : Int32) (h : Mm) (H : Heap) (locs : List Loc) (ls : Array Slot), k24 x2 h = some h' → Hp D ad ac LM h s H locs → lv_has ls 4 [(0, .ref (ad 0)), (1, .ref (ad 20)), (2, .int x2)] → W p l e (rmD 2) s m args below meth c H locs 0 0 (MQ below (QU D ad ac LM none h' s.heap.size) args s 0 0 (Aa ad LM.length s.heap.size)) (F0 m 24 ls [])) : ∀ (x2 : Int32) (h : Mm) (H : Heap) (locs : List Loc) (ls : Array Slot), mX11_fills_0_20_85 k24 x2 h = some h' → Hp D ad ac LM h s H locs → lv_has ls 4 [(0, .ref (ad 0)), (1, .ref (ad 20)), (2, .int x2)] → W p l e (rmD 2) s m args below meth c H locs 0 0 (MQ below (QU D ad ac LM none h' s.heap.size) args s 0 0 (Aa ad LM.length s.heap.size)) (F0 m 85 ls []) := by
  obtain ⟨hx, hb, hml, hown, hts, hr, hlk, hC, hI, hR⟩ := id X
  intro x2 h H locs ls hm hH hl
  rw [mX11_fills_0_20_85] at hm
  refine lv_iinc (k := 2) (v := (x2 + 1)) (lv' := [(2, .int (x2 + 1)), (0, .ref (ad 0)), (1, .ref (ad 20))]) hx hb dX11_fills_85 hl rfl rfl (by decide) rfl (fun ls hl => ?_)
  refine lv_goto hx hb dX11_fills_88 (tgt := 24) (by decide) ?_
  exact ih24 (x2 + 1) h _ _ _ hm hH (lv_sub hl [1, 2, 0] rfl)
def mX11_fills_0_20_39 (k24 : Int32 → Mm → Option Mm) : Nat → Int32 → Int32 → Mm → Option Mm
  | 0, _, _, _ => none
  | n + 1, x2, x3, h => gIn x2 24 (if (h 11 x2.toNatClampNeg) < x3 then (mX11_fills_0_20_85 k24 x2 h) else (gIn x2 24 (if (h 20 x2.toNatClampNeg) = (-4 : Int32) then (mX11_fills_0_20_85 k24 x2 h) else (gIn x2 24 (bd1 (mX11_rateAt h x2 x3) (fun v4 => gIn (((60 : Int32) * (h 12 x2.toNatClampNeg)) + x3) 240 (mlet (wr h 24 (((60 : Int32) * (h 12 x2.toNatClampNeg)) + x3).toNatClampNeg v4) (fun h5 => mX11_fills_0_20_39 k24 n x2 (x3 + 1) h5))))))))
set_option maxRecDepth 4000 in
theorem wX11_fills_0_20_39 {p : Program} {l : Launch} {e : Env} {s : State} {m : MethodId} {args : Array Value} {below : List Frame} {meth : Method} {c : Code} {D : va_G} {ad : Nat → Nat} {ac : Nat → ClassId} {h' : Mm} (X : Fx p s m args meth c cX11_fills 4 RX11 none D ad ac LM []) {k24 : Int32 → Mm → Option Mm} (ih24 : ∀ (x2 : Int32) (h : Mm) (H : Heap) (locs : List Loc) (ls : Array Slot), k24 x2 h = some h' → Hp D ad ac LM h s H locs → lv_has ls 4 [(0, .ref (ad 0)), (1, .ref (ad 20)), (2, .int x2)] → W p l e (rmD 2) s m args below meth c H locs 0 0 (MQ below (QU D ad ac LM none h' s.heap.size) args s 0 0 (Aa ad LM.length s.heap.size)) (F0 m 24 ls [])) : ∀ (n : Nat) (x2 : Int32) (x3 : Int32) (h : Mm) (H : Heap) (locs : List Loc) (ls : Array Slot), mX11_fills_0_20_39 k24 n x2 x3 h = some h' → Hp D ad ac LM h s H locs → lv_has ls 4 [(0, .ref (ad 0)), (1, .ref (ad 20)), (2, .int x2), (3, .int x3)] → W p l e (rmD 2) s m args below meth c H locs 0 0 (MQ below (QU D ad ac LM none h' s.heap.size) args s 0 0 (Aa ad LM.length s.heap.size)) (F0 m 39 ls []) := by
  obtain ⟨hx, hb, hml, hown, hts, hr, hlk, hC, hI, hR⟩ := id X
  intro n
  induction n with
  | zero => intro x2 x3 h H locs ls hm; rw [mX11_fills_0_20_39] at hm; cases hm
  | succ n ih =>
    intro x2 x3 h H locs ls hm hH hl
    rw [mX11_fills_0_20_39] at hm
    refine lv_iload_n hx hb dX11_fills_39 rfl (lv_at hl 3 rfl) ?_
    refine lv_aload_n hx hb dX11_fills_40 rfl (lv_at hl 0 rfl) ?_
    refine gR X hH fl_X11_40 lM_0 rfl dX11_fills_41 ?_
    refine lv_iload_n hx hb dX11_fills_44 rfl (lv_at hl 2 rfl) ?_
    obtain ⟨hin1, hm⟩ := gIn_some hm
    refine ild X hH lM_11 hin1 dX11_fills_45 ?_
    refine lv_icmp_gt hx hb dX11_fills_46 (tgt := 85) (by decide) (fun hc => ?_) (fun hc => ?_)
    · rw [if_pos hc] at hm
      exact wX11_fills_0_20_85 X ih24 x2 h _ _ _ hm hH (lv_sub hl [0, 1, 2] rfl)
    · rw [if_neg hc] at hm
      refine lv_aload_n hx hb dX11_fills_49 rfl (lv_at hl 1 rfl) ?_
      refine lv_iload_n hx hb dX11_fills_50 rfl (lv_at hl 2 rfl) ?_
      obtain ⟨hin2, hm⟩ := gIn_some hm
      refine ild X hH lM_20 hin2 dX11_fills_51 ?_
      refine lv_bipush (v := (-4)) hx hb dX11_fills_52 (by decide) ?_
      refine lv_icmp_eq hx hb dX11_fills_54 (tgt := 85) (by decide) (fun hc => ?_) (fun hc => ?_)
      · rw [if_pos hc] at hm
        exact wX11_fills_0_20_85 X ih24 x2 h _ _ _ hm hH (lv_sub hl [0, 1, 2] rfl)
      · rw [if_neg hc] at hm
        refine lv_aload_n hx hb dX11_fills_57 rfl (lv_at hl 0 rfl) ?_
        refine gR X hH fl_X11_79 lM_0 rfl dX11_fills_58 ?_
        refine lv_bipush (v := 60) hx hb dX11_fills_61 (by decide) ?_
        refine lv_aload_n hx hb dX11_fills_63 rfl (lv_at hl 0 rfl) ?_
        refine gR X hH fl_X11_43 lM_0 rfl dX11_fills_64 ?_
        refine lv_iload_n hx hb dX11_fills_67 rfl (lv_at hl 2 rfl) ?_
        obtain ⟨hin3, hm⟩ := gIn_some hm
        refine ild X hH lM_12 hin3 dX11_fills_68 ?_
        refine lv_imul hx hb dX11_fills_69 ?_
        refine lv_iload_n hx hb dX11_fills_70 rfl (lv_at hl 3 rfl) ?_
        refine lv_iadd hx hb dX11_fills_71 ?_
        refine lv_aload_n hx hb dX11_fills_72 rfl (lv_at hl 0 rfl) ?_
        refine lv_iload_n hx hb dX11_fills_73 rfl (lv_at hl 2 rfl) ?_
        refine lv_iload_n hx hb dX11_fills_74 rfl (lv_at hl 3 rfl) ?_
        obtain ⟨v4, hq, hm⟩ := bd1_some hm
        refine cVi X hH kl_X11_156 kv_X11_rateAt (mt_X11_rateAt hq) lM_0 rfl rfl (by decide) hl.1 rfl (Nat.le_of_ble_eq_true rfl) dX11_fills_75 (fun H locs hH => ?_)
        obtain ⟨hin6, hm⟩ := gIn_some hm
        obtain ⟨h5, eh5, hm⟩ := mlet_some hm
        refine ist X hH lM_24 hin6 dX11_fills_78 (fun H locs hH => ?_)
        rw [← eh5] at hH
        refine lv_iinc (k := 3) (v := (x3 + 1)) (lv' := [(3, .int (x3 + 1)), (0, .ref (ad 0)), (1, .ref (ad 20)), (2, .int x2)]) hx hb dX11_fills_79 hl rfl rfl (by decide) rfl (fun ls hl => ?_)
        refine lv_goto hx hb dX11_fills_82 (tgt := 39) (by decide) ?_
        exact ih x2 (x3 + 1) h5 _ _ _ hm hH (lv_sub hl [1, 2, 3, 0] rfl)
def mX11_fills_0_20_24 : Nat → Int32 → Mm → Option Mm
  | 0, _, _ => none
  | n + 1, x2, h => if (h 0 16) ≤ x2 then (some h) else (gIn x2 24 (mlet (h 10 x2.toNatClampNeg) (fun u2 => mX11_fills_0_20_39 (mX11_fills_0_20_24 n) FU x2 u2 h)))
set_option maxRecDepth 4000 in
theorem wX11_fills_0_20_24 {p : Program} {l : Launch} {e : Env} {s : State} {m : MethodId} {args : Array Value} {below : List Frame} {meth : Method} {c : Code} {D : va_G} {ad : Nat → Nat} {ac : Nat → ClassId} {h' : Mm} (X : Fx p s m args meth c cX11_fills 4 RX11 none D ad ac LM []) : ∀ (n : Nat) (x2 : Int32) (h : Mm) (H : Heap) (locs : List Loc) (ls : Array Slot), mX11_fills_0_20_24 n x2 h = some h' → Hp D ad ac LM h s H locs → lv_has ls 4 [(0, .ref (ad 0)), (1, .ref (ad 20)), (2, .int x2)] → W p l e (rmD 2) s m args below meth c H locs 0 0 (MQ below (QU D ad ac LM none h' s.heap.size) args s 0 0 (Aa ad LM.length s.heap.size)) (F0 m 24 ls []) := by
  obtain ⟨hx, hb, hml, hown, hts, hr, hlk, hC, hI, hR⟩ := id X
  intro n
  induction n with
  | zero => intro x2 h H locs ls hm; rw [mX11_fills_0_20_24] at hm; cases hm
  | succ n ih =>
    intro x2 h H locs ls hm hH hl
    rw [mX11_fills_0_20_24] at hm
    refine lv_iload_n hx hb dX11_fills_24 rfl (lv_at hl 2 rfl) ?_
    refine lv_aload_n hx hb dX11_fills_25 rfl (lv_at hl 0 rfl) ?_
    refine gI X hH fl_X11_124 lM_0 rfl dX11_fills_26 ?_
    refine lv_icmp_ge hx hb dX11_fills_29 (tgt := 91) (by decide) (fun hc => ?_) (fun hc => ?_)
    · rw [if_pos hc] at hm
      cases hm
      exact retV X hH dX11_fills_91
    · rw [if_neg hc] at hm
      refine lv_aload_n hx hb dX11_fills_32 rfl (lv_at hl 0 rfl) ?_
      refine gR X hH fl_X11_37 lM_0 rfl dX11_fills_33 ?_
      refine lv_iload_n hx hb dX11_fills_36 rfl (lv_at hl 2 rfl) ?_
      obtain ⟨hin1, hm⟩ := gIn_some hm
      refine ild X hH lM_10 hin1 dX11_fills_37 ?_
      obtain ⟨u2, eu2, hm⟩ := mlet_some hm
      refine W.eq (g2 := F0 m 38 ls (.int u2 :: [])) (by rw [eu2]) ?_
      refine lv_istore_n (lv' := [(3, .int u2), (0, .ref (ad 0)), (1, .ref (ad 20)), (2, .int x2)]) hx hb dX11_fills_38 rfl hl (by decide) rfl (fun ls hl => ?_)
      exact wX11_fills_0_20_39 X ih FU x2 u2 h _ _ _ hm hH (lv_sub hl [1, 2, 3, 0] rfl)
def mX11_fills_0_20_2 : Nat → Int32 → Mm → Option Mm
  | 0, _, _ => none
  | n + 1, x2, h => if (240 : Int32) ≤ x2 then (mX11_fills_0_20_24 FU (0 : Int32) h) else (gIn x2 240 (mlet (wr h 24 x2.toNatClampNeg (0 : Int32)) (fun h1 => mX11_fills_0_20_2 n (x2 + 1) h1)))
set_option maxRecDepth 4000 in
theorem wX11_fills_0_20_2 {p : Program} {l : Launch} {e : Env} {s : State} {m : MethodId} {args : Array Value} {below : List Frame} {meth : Method} {c : Code} {D : va_G} {ad : Nat → Nat} {ac : Nat → ClassId} {h' : Mm} (X : Fx p s m args meth c cX11_fills 4 RX11 none D ad ac LM []) : ∀ (n : Nat) (x2 : Int32) (h : Mm) (H : Heap) (locs : List Loc) (ls : Array Slot), mX11_fills_0_20_2 n x2 h = some h' → Hp D ad ac LM h s H locs → lv_has ls 4 [(0, .ref (ad 0)), (1, .ref (ad 20)), (2, .int x2)] → W p l e (rmD 2) s m args below meth c H locs 0 0 (MQ below (QU D ad ac LM none h' s.heap.size) args s 0 0 (Aa ad LM.length s.heap.size)) (F0 m 2 ls []) := by
  obtain ⟨hx, hb, hml, hown, hts, hr, hlk, hC, hI, hR⟩ := id X
  intro n
  induction n with
  | zero => intro x2 h H locs ls hm; rw [mX11_fills_0_20_2] at hm; cases hm
  | succ n ih =>
    intro x2 h H locs ls hm hH hl
    rw [mX11_fills_0_20_2] at hm
    refine lv_iload_n hx hb dX11_fills_2 rfl (lv_at hl 2 rfl) ?_
    refine lv_sipush (v := 240) hx hb dX11_fills_3 (by decide) ?_
    refine lv_icmp_ge hx hb dX11_fills_6 (tgt := 22) (by decide) (fun hc => ?_) (fun hc => ?_)
    · rw [if_pos hc] at hm
      refine lv_iconst (v := 0) hx hb dX11_fills_22 (by decide) ?_
      refine lv_istore_n (lv' := [(2, .int (0 : Int32)), (0, .ref (ad 0)), (1, .ref (ad 20))]) hx hb dX11_fills_23 rfl hl (by decide) rfl (fun ls hl => ?_)
      exact wX11_fills_0_20_24 X FU (0 : Int32) h _ _ _ hm hH (lv_sub hl [1, 2, 0] rfl)
    · rw [if_neg hc] at hm
      refine lv_aload_n hx hb dX11_fills_9 rfl (lv_at hl 0 rfl) ?_
      refine gR X hH fl_X11_79 lM_0 rfl dX11_fills_10 ?_
      refine lv_iload_n hx hb dX11_fills_13 rfl (lv_at hl 2 rfl) ?_
      refine lv_iconst (v := 0) hx hb dX11_fills_14 (by decide) ?_
      obtain ⟨hin2, hm⟩ := gIn_some hm
      obtain ⟨h1, eh1, hm⟩ := mlet_some hm
      refine ist X hH lM_24 hin2 dX11_fills_15 (fun H locs hH => ?_)
      rw [← eh1] at hH
      refine lv_iinc (k := 2) (v := (x2 + 1)) (lv' := [(2, .int (x2 + 1)), (0, .ref (ad 0)), (1, .ref (ad 20))]) hx hb dX11_fills_16 hl rfl rfl (by decide) rfl (fun ls hl => ?_)
      refine lv_goto hx hb dX11_fills_19 (tgt := 2) (by decide) ?_
      exact ih (x2 + 1) h1 _ _ _ hm hH (lv_sub hl [1, 2, 0] rfl)
def mX11_fills_0_20 (h : Mm) : Option Mm := mX11_fills_0_20_2 FU (0 : Int32) h
set_option maxRecDepth 4000 in
theorem mt_X11_fills_0_20 {l : Launch} {D : va_G} {ad : Nat → Nat} {ac : Nat → ClassId} {h : Mm} {h' : Mm} (hm : mX11_fills_0_20 h = some h') : Mt l D ad ac LM [] yX11_fills cX11_fills 4 none 2 [.ref (ad 0), .ref (ad 20)] h none h' := by
  refine Mt.of (own := RX11) (by decide) rfl (Nat.le_of_ble_eq_true rfl) ?_
  intro p e s m below meth c ls X hH hl
  obtain ⟨hx, hb, hml, hown, hts, hr, hlk, hC, hI, hR⟩ := id X
  have hl : lv_has ls 4 [(0, .ref (ad 0)), (1, .ref (ad 20))] := hl
  rw [mX11_fills_0_20] at hm
  refine lv_iconst (v := 0) hx hb dX11_fills_0 (by decide) ?_
  refine lv_istore_n (lv' := [(2, .int (0 : Int32)), (0, .ref (ad 0)), (1, .ref (ad 20))]) hx hb dX11_fills_1 rfl hl (by decide) rfl (fun ls hl => ?_)
  exact wX11_fills_0_20_2 X FU (0 : Int32) h _ _ _ hm hH (lv_sub hl [1, 2, 0] rfl)
/-! X11_flows -/
def mX11_flows_196 (k31 : Int32 → Int32 → Int32 → Mm → Option Mm) (x1 : Int32) (x2 : Int32) (x3 : Int32) (h : Mm) : Option Mm := k31 x1 x2 (x3 + 1) h
set_option maxRecDepth 4000 in
theorem wX11_flows_196 {p : Program} {l : Launch} {e : Env} {s : State} {m : MethodId} {args : Array Value} {below : List Frame} {meth : Method} {c : Code} {D : va_G} {ad : Nat → Nat} {ac : Nat → ClassId} {h' : Mm} (X : Fx p s m args meth c cX11_flows 6 RX11 none D ad ac LM []) {k31 : Int32 → Int32 → Int32 → Mm → Option Mm} (ih31 : ∀ (x1 : Int32) (x2 : Int32) (x3 : Int32) (h : Mm) (H : Heap) (locs : List Loc) (ls : Array Slot), k31 x1 x2 x3 h = some h' → Hp D ad ac LM h s H locs → lv_has ls 6 [(0, .ref (ad 0)), (1, .int x1), (2, .int x2), (3, .int x3)] → W p l e (rmD 0) s m args below meth c H locs 0 0 (MQ below (QU D ad ac LM none h' s.heap.size) args s 0 0 (Aa ad LM.length s.heap.size)) (F0 m 31 ls [])) : ∀ (x1 : Int32) (x2 : Int32) (x3 : Int32) (h : Mm) (H : Heap) (locs : List Loc) (ls : Array Slot), mX11_flows_196 k31 x1 x2 x3 h = some h' → Hp D ad ac LM h s H locs → lv_has ls 6 [(0, .ref (ad 0)), (1, .int x1), (2, .int x2), (3, .int x3)] → W p l e (rmD 0) s m args below meth c H locs 0 0 (MQ below (QU D ad ac LM none h' s.heap.size) args s 0 0 (Aa ad LM.length s.heap.size)) (F0 m 196 ls []) := by
  obtain ⟨hx, hb, hml, hown, hts, hr, hlk, hC, hI, hR⟩ := id X
  intro x1 x2 x3 h H locs ls hm hH hl
  rw [mX11_flows_196] at hm
  refine lv_iinc (k := 3) (v := (x3 + 1)) (lv' := [(3, .int (x3 + 1)), (0, .ref (ad 0)), (1, .int x1), (2, .int x2)]) hx hb dX11_flows_196 hl rfl rfl (by decide) rfl (fun ls hl => ?_)
  refine lv_goto hx hb dX11_flows_199 (tgt := 31) (by decide) ?_
  exact ih31 x1 x2 (x3 + 1) h _ _ _ hm hH (lv_sub hl [1, 2, 3, 0] rfl)
def mX11_flows_195 (k31 : Int32 → Int32 → Int32 → Mm → Option Mm) (x1 : Int32) (x2 : Int32) (x3 : Int32) (t0 : Int32) (t1 : Int32) (h : Mm) : Option Mm := gIn t1 4 (mlet (wr h 23 t1.toNatClampNeg t0) (fun h1 => mX11_flows_196 k31 x1 x2 x3 h1))
set_option maxRecDepth 4000 in
theorem wX11_flows_195 {p : Program} {l : Launch} {e : Env} {s : State} {m : MethodId} {args : Array Value} {below : List Frame} {meth : Method} {c : Code} {D : va_G} {ad : Nat → Nat} {ac : Nat → ClassId} {h' : Mm} (X : Fx p s m args meth c cX11_flows 6 RX11 none D ad ac LM []) {k31 : Int32 → Int32 → Int32 → Mm → Option Mm} (ih31 : ∀ (x1 : Int32) (x2 : Int32) (x3 : Int32) (h : Mm) (H : Heap) (locs : List Loc) (ls : Array Slot), k31 x1 x2 x3 h = some h' → Hp D ad ac LM h s H locs → lv_has ls 6 [(0, .ref (ad 0)), (1, .int x1), (2, .int x2), (3, .int x3)] → W p l e (rmD 0) s m args below meth c H locs 0 0 (MQ below (QU D ad ac LM none h' s.heap.size) args s 0 0 (Aa ad LM.length s.heap.size)) (F0 m 31 ls [])) : ∀ (x1 : Int32) (x2 : Int32) (x3 : Int32) (t0 : Int32) (t1 : Int32) (h : Mm) (H : Heap) (locs : List Loc) (ls : Array Slot), mX11_flows_195 k31 x1 x2 x3 t0 t1 h = some h' → Hp D ad ac LM h s H locs → lv_has ls 6 [(0, .ref (ad 0)), (1, .int x1), (2, .int x2), (3, .int x3)] → W p l e (rmD 0) s m args below meth c H locs 0 0 (MQ below (QU D ad ac LM none h' s.heap.size) args s 0 0 (Aa ad LM.length s.heap.size)) (F0 m 195 ls [.int t0, .int t1, .ref (ad 23)]) := by
  obtain ⟨hx, hb, hml, hown, hts, hr, hlk, hC, hI, hR⟩ := id X
  intro x1 x2 x3 t0 t1 h H locs ls hm hH hl
  rw [mX11_flows_195] at hm
  obtain ⟨hin2, hm⟩ := gIn_some hm
  obtain ⟨h1, eh1, hm⟩ := mlet_some hm
  refine ist X hH lM_23 hin2 dX11_flows_195 (fun H locs hH => ?_)
  rw [← eh1] at hH
  exact wX11_flows_196 X ih31 x1 x2 x3 h1 _ _ _ hm hH (lv_sub hl [0, 1, 2, 3] rfl)
def mX11_flows_97 (k31 : Int32 → Int32 → Int32 → Mm → Option Mm) (x1 : Int32) (x2 : Int32) (x3 : Int32) (t0 : Int32) (h : Mm) : Option Mm := gIn (0 : Int32) 4 (gIn (0 : Int32) 4 (mlet (wr h 23 (0 : Int32).toNatClampNeg ((h 23 (0 : Int32).toNatClampNeg) - t0)) (fun h2 => gIn (2 : Int32) 4 (gIn (2 : Int32) 4 (mlet (wr h2 23 (2 : Int32).toNatClampNeg ((h2 23 (2 : Int32).toNatClampNeg) + t0)) (fun h5 => gIn (0 : Int32) 4 (gIn (((5 : Int32) * x1) + (3 : Int32)) 20 (mlet ((h5 23 (0 : Int32).toNatClampNeg) - ((2 : Int32) * (h5 2 (((5 : Int32) * x1) + (3 : Int32)).toNatClampNeg))) (fun u9 => if u9 ≤ 0 then (mX11_flows_196 k31 x1 x2 x3 h5) else (gIn (0 : Int32) 4 (gIn (0 : Int32) 4 (mlet (wr h5 23 (0 : Int32).toNatClampNeg ((h5 23 (0 : Int32).toNatClampNeg) - u9)) (fun h11 => gIn (1 : Int32) 4 (gIn (1 : Int32) 4 (mlet (wr h11 23 (1 : Int32).toNatClampNeg ((h11 23 (1 : Int32).toNatClampNeg) + u9)) (fun h14 => gIn (3 : Int32) 4 (if (h14 23 (3 : Int32).toNatClampNeg) = (-4 : Int32) then (mX11_flows_195 k31 x1 x2 x3 x3 (3 : Int32) h14) else (gIn (3 : Int32) 4 (mX11_flows_195 k31 x1 x2 x3 (h14 23 (3 : Int32).toNatClampNeg) (3 : Int32) h14)))))))))))))))))))
set_option maxRecDepth 4000 in
theorem wX11_flows_97 {p : Program} {l : Launch} {e : Env} {s : State} {m : MethodId} {args : Array Value} {below : List Frame} {meth : Method} {c : Code} {D : va_G} {ad : Nat → Nat} {ac : Nat → ClassId} {h' : Mm} (X : Fx p s m args meth c cX11_flows 6 RX11 none D ad ac LM []) {k31 : Int32 → Int32 → Int32 → Mm → Option Mm} (ih31 : ∀ (x1 : Int32) (x2 : Int32) (x3 : Int32) (h : Mm) (H : Heap) (locs : List Loc) (ls : Array Slot), k31 x1 x2 x3 h = some h' → Hp D ad ac LM h s H locs → lv_has ls 6 [(0, .ref (ad 0)), (1, .int x1), (2, .int x2), (3, .int x3)] → W p l e (rmD 0) s m args below meth c H locs 0 0 (MQ below (QU D ad ac LM none h' s.heap.size) args s 0 0 (Aa ad LM.length s.heap.size)) (F0 m 31 ls [])) : ∀ (x1 : Int32) (x2 : Int32) (x3 : Int32) (t0 : Int32) (h : Mm) (H : Heap) (locs : List Loc) (ls : Array Slot), mX11_flows_97 k31 x1 x2 x3 t0 h = some h' → Hp D ad ac LM h s H locs → lv_has ls 6 [(0, .ref (ad 0)), (1, .int x1), (2, .int x2), (3, .int x3)] → W p l e (rmD 0) s m args below meth c H locs 0 0 (MQ below (QU D ad ac LM none h' s.heap.size) args s 0 0 (Aa ad LM.length s.heap.size)) (F0 m 97 ls [.int t0]) := by
  obtain ⟨hx, hb, hml, hown, hts, hr, hlk, hC, hI, hR⟩ := id X
  intro x1 x2 x3 t0 h H locs ls hm hH hl
  rw [mX11_flows_97] at hm
  refine lv_istore (lv' := [(4, .int t0), (0, .ref (ad 0)), (1, .int x1), (2, .int x2), (3, .int x3)]) hx hb dX11_flows_97 hl (by decide) rfl (fun ls hl => ?_)
  refine lv_aload_n hx hb dX11_flows_99 rfl (lv_at hl 1 rfl) ?_
  refine gR X hH fl_X11_76 lM_0 rfl dX11_flows_100 ?_
  refine lv_iconst (v := 0) hx hb dX11_flows_103 (by decide) ?_
  refine lv_dup2_11 hx hb dX11_flows_104 rfl rfl ?_
  obtain ⟨hin1, hm⟩ := gIn_some hm
  refine ild X hH lM_23 hin1 dX11_flows_105 ?_
  refine lv_iload hx hb dX11_flows_106 (lv_at hl 0 rfl) ?_
  refine lv_isub hx hb dX11_flows_108 ?_
  obtain ⟨hin3, hm⟩ := gIn_some hm
  obtain ⟨h2, eh2, hm⟩ := mlet_some hm
  refine ist X hH lM_23 hin3 dX11_flows_109 (fun H locs hH => ?_)
  rw [← eh2] at hH
  refine lv_aload_n hx hb dX11_flows_110 rfl (lv_at hl 1 rfl) ?_
  refine gR X hH fl_X11_76 lM_0 rfl dX11_flows_111 ?_
  refine lv_iconst (v := 2) hx hb dX11_flows_114 (by decide) ?_
  refine lv_dup2_11 hx hb dX11_flows_115 rfl rfl ?_
  obtain ⟨hin4, hm⟩ := gIn_some hm
  refine ild X hH lM_23 hin4 dX11_flows_116 ?_
  refine lv_iload hx hb dX11_flows_117 (lv_at hl 0 rfl) ?_
  refine lv_iadd hx hb dX11_flows_119 ?_
  obtain ⟨hin6, hm⟩ := gIn_some hm
  obtain ⟨h5, eh5, hm⟩ := mlet_some hm
  refine ist X hH lM_23 hin6 dX11_flows_120 (fun H locs hH => ?_)
  rw [← eh5] at hH
  refine lv_aload_n hx hb dX11_flows_121 rfl (lv_at hl 1 rfl) ?_
  refine gR X hH fl_X11_76 lM_0 rfl dX11_flows_122 ?_
  refine lv_iconst (v := 0) hx hb dX11_flows_125 (by decide) ?_
  obtain ⟨hin7, hm⟩ := gIn_some hm
  refine ild X hH lM_23 hin7 dX11_flows_126 ?_
  refine lv_iconst (v := 2) hx hb dX11_flows_127 (by decide) ?_
  refine lv_aload_n hx hb dX11_flows_128 rfl (lv_at hl 1 rfl) ?_
  refine gR X hH fl_X11_13 lM_0 rfl dX11_flows_129 ?_
  refine lv_iconst (v := 5) hx hb dX11_flows_132 (by decide) ?_
  refine lv_iload_n hx hb dX11_flows_133 rfl (lv_at hl 2 rfl) ?_
  refine lv_imul hx hb dX11_flows_134 ?_
  refine lv_iconst (v := 3) hx hb dX11_flows_135 (by decide) ?_
  refine lv_iadd hx hb dX11_flows_136 ?_
  obtain ⟨hin8, hm⟩ := gIn_some hm
  refine ild X hH lM_2 hin8 dX11_flows_137 ?_
  refine lv_imul hx hb dX11_flows_138 ?_
  refine lv_isub hx hb dX11_flows_139 ?_
  obtain ⟨u9, eu9, hm⟩ := mlet_some hm
  refine W.eq (g2 := F0 m 140 ls (.int u9 :: [])) (by rw [eu9]) ?_
  refine lv_istore (lv' := [(5, .int u9), (4, .int t0), (0, .ref (ad 0)), (1, .int x1), (2, .int x2), (3, .int x3)]) hx hb dX11_flows_140 hl (by decide) rfl (fun ls hl => ?_)
  refine lv_iload hx hb dX11_flows_142 (lv_at hl 0 rfl) ?_
  refine lv_if_le hx hb dX11_flows_144 (tgt := 196) (by decide) (fun hc => ?_) (fun hc => ?_)
  · rw [if_pos hc] at hm
    exact wX11_flows_196 X ih31 x1 x2 x3 h5 _ _ _ hm hH (lv_sub hl [2, 3, 4, 5] rfl)
  · rw [if_neg hc] at hm
    refine lv_aload_n hx hb dX11_flows_147 rfl (lv_at hl 2 rfl) ?_
    refine gR X hH fl_X11_76 lM_0 rfl dX11_flows_148 ?_
    refine lv_iconst (v := 0) hx hb dX11_flows_151 (by decide) ?_
    refine lv_dup2_11 hx hb dX11_flows_152 rfl rfl ?_
    obtain ⟨hin10, hm⟩ := gIn_some hm
    refine ild X hH lM_23 hin10 dX11_flows_153 ?_
    refine lv_iload hx hb dX11_flows_154 (lv_at hl 0 rfl) ?_
    refine lv_isub hx hb dX11_flows_156 ?_
    obtain ⟨hin12, hm⟩ := gIn_some hm
    obtain ⟨h11, eh11, hm⟩ := mlet_some hm
    refine ist X hH lM_23 hin12 dX11_flows_157 (fun H locs hH => ?_)
    rw [← eh11] at hH
    refine lv_aload_n hx hb dX11_flows_158 rfl (lv_at hl 2 rfl) ?_
    refine gR X hH fl_X11_76 lM_0 rfl dX11_flows_159 ?_
    refine lv_iconst (v := 1) hx hb dX11_flows_162 (by decide) ?_
    refine lv_dup2_11 hx hb dX11_flows_163 rfl rfl ?_
    obtain ⟨hin13, hm⟩ := gIn_some hm
    refine ild X hH lM_23 hin13 dX11_flows_164 ?_
    refine lv_iload hx hb dX11_flows_165 (lv_at hl 0 rfl) ?_
    refine lv_iadd hx hb dX11_flows_167 ?_
    obtain ⟨hin15, hm⟩ := gIn_some hm
    obtain ⟨h14, eh14, hm⟩ := mlet_some hm
    refine ist X hH lM_23 hin15 dX11_flows_168 (fun H locs hH => ?_)
    rw [← eh14] at hH
    refine lv_aload_n hx hb dX11_flows_169 rfl (lv_at hl 2 rfl) ?_
    refine gR X hH fl_X11_76 lM_0 rfl dX11_flows_170 ?_
    refine lv_iconst (v := 3) hx hb dX11_flows_173 (by decide) ?_
    refine lv_aload_n hx hb dX11_flows_174 rfl (lv_at hl 2 rfl) ?_
    refine gR X hH fl_X11_76 lM_0 rfl dX11_flows_175 ?_
    refine lv_iconst (v := 3) hx hb dX11_flows_178 (by decide) ?_
    obtain ⟨hin16, hm⟩ := gIn_some hm
    refine ild X hH lM_23 hin16 dX11_flows_179 ?_
    refine lv_bipush (v := (-4)) hx hb dX11_flows_180 (by decide) ?_
    refine lv_icmp_ne hx hb dX11_flows_182 (tgt := 189) (by decide) (fun hc => ?_) (fun hc => ?_)
    · rw [if_neg hc] at hm
      refine lv_aload_n hx hb dX11_flows_189 rfl (lv_at hl 2 rfl) ?_
      refine gR X hH fl_X11_76 lM_0 rfl dX11_flows_190 ?_
      refine lv_iconst (v := 3) hx hb dX11_flows_193 (by decide) ?_
      obtain ⟨hin17, hm⟩ := gIn_some hm
      refine ild X hH lM_23 hin17 dX11_flows_194 ?_
      exact wX11_flows_195 X ih31 x1 x2 x3 (h14 23 (3 : Int32).toNatClampNeg) (3 : Int32) h14 _ _ _ hm hH (lv_sub hl [2, 3, 4, 5] rfl)
    · rw [if_pos hc] at hm
      refine lv_iload_n hx hb dX11_flows_185 rfl (lv_at hl 5 rfl) ?_
      refine lv_goto hx hb dX11_flows_186 (tgt := 195) (by decide) ?_
      exact wX11_flows_195 X ih31 x1 x2 x3 x3 (3 : Int32) h14 _ _ _ hm hH (lv_sub hl [2, 3, 4, 5] rfl)
def mX11_flows_31 : Nat → Int32 → Int32 → Int32 → Mm → Option Mm
  | 0, _, _, _, _ => none
  | n + 1, x1, x2, x3, h => if x2 < x3 then (some h) else (gIn (0 : Int32) 4 (gIn (((5 : Int32) * x1) + (4 : Int32)) 20 (gIn (0 : Int32) 4 (mlet (wr h 23 (0 : Int32).toNatClampNeg ((h 23 (0 : Int32).toNatClampNeg) + ((2 : Int32) * (h 2 (((5 : Int32) * x1) + (4 : Int32)).toNatClampNeg)))) (fun h3 => gIn (((60 : Int32) * x1) + x3) 240 (gIn (0 : Int32) 4 (if (h3 23 (0 : Int32).toNatClampNeg) ≤ (h3 24 (((60 : Int32) * x1) + x3).toNatClampNeg) then (gIn (0 : Int32) 4 (mX11_flows_97 (mX11_flows_31 n) x1 x2 x3 (h3 23 (0 : Int32).toNatClampNeg) h3)) else (gIn (((60 : Int32) * x1) + x3) 240 (mX11_flows_97 (mX11_flows_31 n) x1 x2 x3 (h3 24 (((60 : Int32) * x1) + x3).toNatClampNeg) h3)))))))))
set_option maxRecDepth 4000 in
theorem wX11_flows_31 {p : Program} {l : Launch} {e : Env} {s : State} {m : MethodId} {args : Array Value} {below : List Frame} {meth : Method} {c : Code} {D : va_G} {ad : Nat → Nat} {ac : Nat → ClassId} {h' : Mm} (X : Fx p s m args meth c cX11_flows 6 RX11 none D ad ac LM []) : ∀ (n : Nat) (x1 : Int32) (x2 : Int32) (x3 : Int32) (h : Mm) (H : Heap) (locs : List Loc) (ls : Array Slot), mX11_flows_31 n x1 x2 x3 h = some h' → Hp D ad ac LM h s H locs → lv_has ls 6 [(0, .ref (ad 0)), (1, .int x1), (2, .int x2), (3, .int x3)] → W p l e (rmD 0) s m args below meth c H locs 0 0 (MQ below (QU D ad ac LM none h' s.heap.size) args s 0 0 (Aa ad LM.length s.heap.size)) (F0 m 31 ls []) := by
  obtain ⟨hx, hb, hml, hown, hts, hr, hlk, hC, hI, hR⟩ := id X
  intro n
  induction n with
  | zero => intro x1 x2 x3 h H locs ls hm; rw [mX11_flows_31] at hm; cases hm
  | succ n ih =>
    intro x1 x2 x3 h H locs ls hm hH hl
    rw [mX11_flows_31] at hm
    refine lv_iload_n hx hb dX11_flows_31 rfl (lv_at hl 3 rfl) ?_
    refine lv_iload_n hx hb dX11_flows_32 rfl (lv_at hl 2 rfl) ?_
    refine lv_icmp_gt hx hb dX11_flows_33 (tgt := 202) (by decide) (fun hc => ?_) (fun hc => ?_)
    · rw [if_pos hc] at hm
      cases hm
      exact retV X hH dX11_flows_202
    · rw [if_neg hc] at hm
      refine lv_aload_n hx hb dX11_flows_36 rfl (lv_at hl 0 rfl) ?_
      refine gR X hH fl_X11_76 lM_0 rfl dX11_flows_37 ?_
      refine lv_iconst (v := 0) hx hb dX11_flows_40 (by decide) ?_
      refine lv_dup2_11 hx hb dX11_flows_41 rfl rfl ?_
      obtain ⟨hin1, hm⟩ := gIn_some hm
      refine ild X hH lM_23 hin1 dX11_flows_42 ?_
      refine lv_iconst (v := 2) hx hb dX11_flows_43 (by decide) ?_
      refine lv_aload_n hx hb dX11_flows_44 rfl (lv_at hl 0 rfl) ?_
      refine gR X hH fl_X11_13 lM_0 rfl dX11_flows_45 ?_
      refine lv_iconst (v := 5) hx hb dX11_flows_48 (by decide) ?_
      refine lv_iload_n hx hb dX11_flows_49 rfl (lv_at hl 1 rfl) ?_
      refine lv_imul hx hb dX11_flows_50 ?_
      refine lv_iconst (v := 4) hx hb dX11_flows_51 (by decide) ?_
      refine lv_iadd hx hb dX11_flows_52 ?_
      obtain ⟨hin2, hm⟩ := gIn_some hm
      refine ild X hH lM_2 hin2 dX11_flows_53 ?_
      refine lv_imul hx hb dX11_flows_54 ?_
      refine lv_iadd hx hb dX11_flows_55 ?_
      obtain ⟨hin4, hm⟩ := gIn_some hm
      obtain ⟨h3, eh3, hm⟩ := mlet_some hm
      refine ist X hH lM_23 hin4 dX11_flows_56 (fun H locs hH => ?_)
      rw [← eh3] at hH
      refine lv_aload_n hx hb dX11_flows_57 rfl (lv_at hl 0 rfl) ?_
      refine gR X hH fl_X11_79 lM_0 rfl dX11_flows_58 ?_
      refine lv_bipush (v := 60) hx hb dX11_flows_61 (by decide) ?_
      refine lv_iload_n hx hb dX11_flows_63 rfl (lv_at hl 1 rfl) ?_
      refine lv_imul hx hb dX11_flows_64 ?_
      refine lv_iload_n hx hb dX11_flows_65 rfl (lv_at hl 3 rfl) ?_
      refine lv_iadd hx hb dX11_flows_66 ?_
      obtain ⟨hin5, hm⟩ := gIn_some hm
      refine ild X hH lM_24 hin5 dX11_flows_67 ?_
      refine lv_aload_n hx hb dX11_flows_68 rfl (lv_at hl 0 rfl) ?_
      refine gR X hH fl_X11_76 lM_0 rfl dX11_flows_69 ?_
      refine lv_iconst (v := 0) hx hb dX11_flows_72 (by decide) ?_
      obtain ⟨hin6, hm⟩ := gIn_some hm
      refine ild X hH lM_23 hin6 dX11_flows_73 ?_
      refine lv_icmp_ge hx hb dX11_flows_74 (tgt := 91) (by decide) (fun hc => ?_) (fun hc => ?_)
      · rw [if_pos hc] at hm
        refine lv_aload_n hx hb dX11_flows_91 rfl (lv_at hl 0 rfl) ?_
        refine gR X hH fl_X11_76 lM_0 rfl dX11_flows_92 ?_
        refine lv_iconst (v := 0) hx hb dX11_flows_95 (by decide) ?_
        obtain ⟨hin7, hm⟩ := gIn_some hm
        refine ild X hH lM_23 hin7 dX11_flows_96 ?_
        exact wX11_flows_97 X ih x1 x2 x3 (h3 23 (0 : Int32).toNatClampNeg) h3 _ _ _ hm hH (lv_sub hl [0, 1, 2, 3] rfl)
      · rw [if_neg hc] at hm
        refine lv_aload_n hx hb dX11_flows_77 rfl (lv_at hl 0 rfl) ?_
        refine gR X hH fl_X11_79 lM_0 rfl dX11_flows_78 ?_
        refine lv_bipush (v := 60) hx hb dX11_flows_81 (by decide) ?_
        refine lv_iload_n hx hb dX11_flows_83 rfl (lv_at hl 1 rfl) ?_
        refine lv_imul hx hb dX11_flows_84 ?_
        refine lv_iload_n hx hb dX11_flows_85 rfl (lv_at hl 3 rfl) ?_
        refine lv_iadd hx hb dX11_flows_86 ?_
        obtain ⟨hin8, hm⟩ := gIn_some hm
        refine ild X hH lM_24 hin8 dX11_flows_87 ?_
        refine lv_goto hx hb dX11_flows_88 (tgt := 97) (by decide) ?_
        exact wX11_flows_97 X ih x1 x2 x3 (h3 24 (((60 : Int32) * x1) + x3).toNatClampNeg) h3 _ _ _ hm hH (lv_sub hl [0, 1, 2, 3] rfl)
def mX11_flows (h : Mm) (a1 : Int32) (a2 : Int32) : Option Mm := gIn (0 : Int32) 4 (mlet (wr h 23 (0 : Int32).toNatClampNeg (0 : Int32)) (fun h1 => gIn (1 : Int32) 4 (mlet (wr h1 23 (1 : Int32).toNatClampNeg (0 : Int32)) (fun h3 => gIn (2 : Int32) 4 (mlet (wr h3 23 (2 : Int32).toNatClampNeg (0 : Int32)) (fun h5 => gIn (3 : Int32) 4 (mlet (wr h5 23 (3 : Int32).toNatClampNeg (-4 : Int32)) (fun h7 => mX11_flows_31 FU a1 a2 (0 : Int32) h7))))))))
set_option maxRecDepth 4000 in
theorem mt_X11_flows {l : Launch} {D : va_G} {ad : Nat → Nat} {ac : Nat → ClassId} {h : Mm} {a1 : Int32} {a2 : Int32} {h' : Mm} (hm : mX11_flows h a1 a2 = some h') : Mt l D ad ac LM [] yX11_flows cX11_flows 6 none 0 [.ref (ad 0), .int a1, .int a2] h none h' := by
  refine Mt.of (own := RX11) (by decide) rfl (Nat.le_of_ble_eq_true rfl) ?_
  intro p e s m below meth c ls X hH hl
  obtain ⟨hx, hb, hml, hown, hts, hr, hlk, hC, hI, hR⟩ := id X
  have hl : lv_has ls 6 [(0, .ref (ad 0)), (1, .int a1), (2, .int a2)] := hl
  rw [mX11_flows] at hm
  refine lv_aload_n hx hb dX11_flows_0 rfl (lv_at hl 0 rfl) ?_
  refine gR X hH fl_X11_76 lM_0 rfl dX11_flows_1 ?_
  refine lv_iconst (v := 0) hx hb dX11_flows_4 (by decide) ?_
  refine lv_iconst (v := 0) hx hb dX11_flows_5 (by decide) ?_
  obtain ⟨hin2, hm⟩ := gIn_some hm
  obtain ⟨h1, eh1, hm⟩ := mlet_some hm
  refine ist X hH lM_23 hin2 dX11_flows_6 (fun H locs hH => ?_)
  rw [← eh1] at hH
  refine lv_aload_n hx hb dX11_flows_7 rfl (lv_at hl 0 rfl) ?_
  refine gR X hH fl_X11_76 lM_0 rfl dX11_flows_8 ?_
  refine lv_iconst (v := 1) hx hb dX11_flows_11 (by decide) ?_
  refine lv_iconst (v := 0) hx hb dX11_flows_12 (by decide) ?_
  obtain ⟨hin4, hm⟩ := gIn_some hm
  obtain ⟨h3, eh3, hm⟩ := mlet_some hm
  refine ist X hH lM_23 hin4 dX11_flows_13 (fun H locs hH => ?_)
  rw [← eh3] at hH
  refine lv_aload_n hx hb dX11_flows_14 rfl (lv_at hl 0 rfl) ?_
  refine gR X hH fl_X11_76 lM_0 rfl dX11_flows_15 ?_
  refine lv_iconst (v := 2) hx hb dX11_flows_18 (by decide) ?_
  refine lv_iconst (v := 0) hx hb dX11_flows_19 (by decide) ?_
  obtain ⟨hin6, hm⟩ := gIn_some hm
  obtain ⟨h5, eh5, hm⟩ := mlet_some hm
  refine ist X hH lM_23 hin6 dX11_flows_20 (fun H locs hH => ?_)
  rw [← eh5] at hH
  refine lv_aload_n hx hb dX11_flows_21 rfl (lv_at hl 0 rfl) ?_
  refine gR X hH fl_X11_76 lM_0 rfl dX11_flows_22 ?_
  refine lv_iconst (v := 3) hx hb dX11_flows_25 (by decide) ?_
  refine lv_bipush (v := (-4)) hx hb dX11_flows_26 (by decide) ?_
  obtain ⟨hin8, hm⟩ := gIn_some hm
  obtain ⟨h7, eh7, hm⟩ := mlet_some hm
  refine ist X hH lM_23 hin8 dX11_flows_28 (fun H locs hH => ?_)
  rw [← eh7] at hH
  refine lv_iconst (v := 0) hx hb dX11_flows_29 (by decide) ?_
  refine lv_istore_n (lv' := [(3, .int (0 : Int32)), (0, .ref (ad 0)), (1, .int a1), (2, .int a2)]) hx hb dX11_flows_30 rfl hl (by decide) rfl (fun ls hl => ?_)
  exact wX11_flows_31 X FU a1 a2 (0 : Int32) h7 _ _ _ hm hH (lv_sub hl [1, 2, 3, 0] rfl)
/-! X11_lost_0_20 -/
def mX11_lost_0_20_9 : Nat → Int32 → Int32 → Mm → Option (Int32 × Mm)
  | 0, _, _, _ => none
  | n + 1, x2, x3, h => gIn (0 : Int32) 3 (if (h 5 (0 : Int32).toNatClampNeg) ≤ x3 then (some (x2, h)) else (bdh (mX11_flows h x3 (59 : Int32)) (fun h2 => gIn (1 : Int32) 4 (mlet (x2 + (h2 23 (1 : Int32).toNatClampNeg)) (fun u4 => mX11_lost_0_20_9 n u4 (x3 + 1) h2)))))
set_option maxRecDepth 4000 in
theorem wX11_lost_0_20_9 {p : Program} {l : Launch} {e : Env} {s : State} {m : MethodId} {args : Array Value} {below : List Frame} {meth : Method} {c : Code} {D : va_G} {ad : Nat → Nat} {ac : Nat → ClassId} {r : Int32} {h' : Mm} (X : Fx p s m args meth c cX11_lost 4 RX11 (some .int) D ad ac LM []) : ∀ (n : Nat) (x2 : Int32) (x3 : Int32) (h : Mm) (H : Heap) (locs : List Loc) (ls : Array Slot), mX11_lost_0_20_9 n x2 x3 h = some (r, h') → Hp D ad ac LM h s H locs → lv_has ls 4 [(0, .ref (ad 0)), (2, .int x2), (3, .int x3)] → W p l e (rmD 3) s m args below meth c H locs 0 0 (MQ below (QU D ad ac LM (some (.int r)) h' s.heap.size) args s 0 0 (Aa ad LM.length s.heap.size)) (F0 m 9 ls []) := by
  obtain ⟨hx, hb, hml, hown, hts, hr, hlk, hC, hI, hR⟩ := id X
  intro n
  induction n with
  | zero => intro x2 x3 h H locs ls hm; rw [mX11_lost_0_20_9] at hm; cases hm
  | succ n ih =>
    intro x2 x3 h H locs ls hm hH hl
    rw [mX11_lost_0_20_9] at hm
    refine lv_iload_n hx hb dX11_lost_9 rfl (lv_at hl 2 rfl) ?_
    refine lv_aload_n hx hb dX11_lost_10 rfl (lv_at hl 0 rfl) ?_
    refine gR X hH fl_X11_22 lM_0 rfl dX11_lost_11 ?_
    refine lv_iconst (v := 0) hx hb dX11_lost_14 (by decide) ?_
    obtain ⟨hin1, hm⟩ := gIn_some hm
    refine ild X hH lM_5 hin1 dX11_lost_15 ?_
    refine lv_icmp_ge hx hb dX11_lost_16 (tgt := 41) (by decide) (fun hc => ?_) (fun hc => ?_)
    · rw [if_pos hc] at hm
      refine lv_iload_n hx hb dX11_lost_41 rfl (lv_at hl 1 rfl) ?_
      cases hm
      exact retI X hH dX11_lost_42
    · rw [if_neg hc] at hm
      refine lv_aload_n hx hb dX11_lost_19 rfl (lv_at hl 0 rfl) ?_
      refine lv_iload_n hx hb dX11_lost_20 rfl (lv_at hl 2 rfl) ?_
      refine lv_bipush (v := 59) hx hb dX11_lost_21 (by decide) ?_
      obtain ⟨h2, hq, hm⟩ := bdh_some hm
      refine cVv X hH kl_X11_185 kv_X11_flows (mt_X11_flows hq) lM_0 rfl rfl (by decide) hl.1 rfl (Nat.le_of_ble_eq_true rfl) dX11_lost_23 (fun H locs hH => ?_)
      refine lv_iload_n hx hb dX11_lost_26 rfl (lv_at hl 1 rfl) ?_
      refine lv_aload_n hx hb dX11_lost_27 rfl (lv_at hl 0 rfl) ?_
      refine gR X hH fl_X11_76 lM_0 rfl dX11_lost_28 ?_
      refine lv_iconst (v := 1) hx hb dX11_lost_31 (by decide) ?_
      obtain ⟨hin3, hm⟩ := gIn_some hm
      refine ild X hH lM_23 hin3 dX11_lost_32 ?_
      refine lv_iadd hx hb dX11_lost_33 ?_
      obtain ⟨u4, eu4, hm⟩ := mlet_some hm
      refine W.eq (g2 := F0 m 34 ls (.int u4 :: [])) (by rw [eu4]) ?_
      refine lv_istore_n (lv' := [(2, .int u4), (0, .ref (ad 0)), (3, .int x3)]) hx hb dX11_lost_34 rfl hl (by decide) rfl (fun ls hl => ?_)
      refine lv_iinc (k := 2) (v := (x3 + 1)) (lv' := [(3, .int (x3 + 1)), (2, .int u4), (0, .ref (ad 0))]) hx hb dX11_lost_35 hl rfl rfl (by decide) rfl (fun ls hl => ?_)
      refine lv_goto hx hb dX11_lost_38 (tgt := 9) (by decide) ?_
      exact ih u4 (x3 + 1) h2 _ _ _ hm hH (lv_sub hl [2, 1, 0] rfl)
def mX11_lost_0_20 (h : Mm) : Option (Int32 × Mm) := bdh (mX11_fills_0_20 h) (fun h1 => mX11_lost_0_20_9 FU (0 : Int32) (0 : Int32) h1)
set_option maxRecDepth 4000 in
theorem mt_X11_lost_0_20 {l : Launch} {D : va_G} {ad : Nat → Nat} {ac : Nat → ClassId} {h : Mm} {r : Int32} {h' : Mm} (hm : mX11_lost_0_20 h = some (r, h')) : Mt l D ad ac LM [] yX11_lost cX11_lost 4 (some .int) 3 [.ref (ad 0), .ref (ad 20)] h (some (.int r)) h' := by
  refine Mt.of (own := RX11) (by decide) rfl (Nat.le_of_ble_eq_true rfl) ?_
  intro p e s m below meth c ls X hH hl
  obtain ⟨hx, hb, hml, hown, hts, hr, hlk, hC, hI, hR⟩ := id X
  have hl : lv_has ls 4 [(0, .ref (ad 0)), (1, .ref (ad 20))] := hl
  rw [mX11_lost_0_20] at hm
  refine lv_iconst (v := 0) hx hb dX11_lost_0 (by decide) ?_
  refine lv_istore_n (lv' := [(2, .int (0 : Int32)), (0, .ref (ad 0)), (1, .ref (ad 20))]) hx hb dX11_lost_1 rfl hl (by decide) rfl (fun ls hl => ?_)
  refine lv_aload_n hx hb dX11_lost_2 rfl (lv_at hl 1 rfl) ?_
  refine lv_aload_n hx hb dX11_lost_3 rfl (lv_at hl 2 rfl) ?_
  obtain ⟨h1, hq, hm⟩ := bdh_some hm
  refine cVv X hH kl_X11_181 kv_X11_fills (mt_X11_fills_0_20 hq) lM_0 rfl rfl (by decide) hl.1 rfl (Nat.le_of_ble_eq_true rfl) dX11_lost_4 (fun H locs hH => ?_)
  refine lv_iconst (v := 0) hx hb dX11_lost_7 (by decide) ?_
  refine lv_istore_n (lv' := [(3, .int (0 : Int32)), (2, .int (0 : Int32)), (0, .ref (ad 0)), (1, .ref (ad 20))]) hx hb dX11_lost_8 rfl hl (by decide) rfl (fun ls hl => ?_)
  exact wX11_lost_0_20_9 X FU (0 : Int32) (0 : Int32) h1 _ _ _ hm hH (lv_sub hl [2, 1, 0] rfl)
/-! X11_volumeOf_0_20 -/
def mX11_volumeOf_0_20_34 (h : Mm) (k6 : Int32 → Int32 → Int32 → Option Int32) (x3 : Int32) (x5 : Int32) (t0 : Int32) (t1 : Int32) : Option Int32 := mlet (t1 + t0) (fun u1 => k6 x3 u1 (x5 + 1))
set_option maxRecDepth 4000 in
theorem wX11_volumeOf_0_20_34 {p : Program} {l : Launch} {e : Env} {s : State} {m : MethodId} {args : Array Value} {below : List Frame} {meth : Method} {c : Code} {D : va_G} {ad : Nat → Nat} {ac : Nat → ClassId} {h : Mm} {r : Int32} (X : Fx p s m args meth c cX11_volumeOf 6 RX11 (some .int) D ad ac LM []) {k6 : Int32 → Int32 → Int32 → Option Int32} (ih6 : ∀ (x3 : Int32) (x4 : Int32) (x5 : Int32) (H : Heap) (locs : List Loc) (ls : Array Slot), k6 x3 x4 x5 = some r → Hp D ad ac LM h s H locs → lv_has ls 6 [(0, .ref (ad 0)), (1, .ref (ad 20)), (3, .int x3), (4, .int x4), (5, .int x5)] → W p l e (rmD 0) s m args below meth c H locs 0 0 (MQ below (QU D ad ac LM (some (.int r)) h s.heap.size) args s 0 0 (Aa ad LM.length s.heap.size)) (F0 m 6 ls [])) : ∀ (x3 : Int32) (x5 : Int32) (t0 : Int32) (t1 : Int32) (H : Heap) (locs : List Loc) (ls : Array Slot), mX11_volumeOf_0_20_34 h k6 x3 x5 t0 t1 = some r → Hp D ad ac LM h s H locs → lv_has ls 6 [(0, .ref (ad 0)), (1, .ref (ad 20)), (3, .int x3), (5, .int x5)] → W p l e (rmD 0) s m args below meth c H locs 0 0 (MQ below (QU D ad ac LM (some (.int r)) h s.heap.size) args s 0 0 (Aa ad LM.length s.heap.size)) (F0 m 34 ls [.int t0, .int t1]) := by
  obtain ⟨hx, hb, hml, hown, hts, hr, hlk, hC, hI, hR⟩ := id X
  intro x3 x5 t0 t1 H locs ls hm hH hl
  rw [mX11_volumeOf_0_20_34] at hm
  refine lv_iadd hx hb dX11_volumeOf_34 ?_
  obtain ⟨u1, eu1, hm⟩ := mlet_some hm
  refine W.eq (g2 := F0 m 35 ls (.int u1 :: [])) (by rw [eu1]) ?_
  refine lv_istore (lv' := [(4, .int u1), (0, .ref (ad 0)), (1, .ref (ad 20)), (3, .int x3), (5, .int x5)]) hx hb dX11_volumeOf_35 hl (by decide) rfl (fun ls hl => ?_)
  refine lv_iinc (k := 4) (v := (x5 + 1)) (lv' := [(5, .int (x5 + 1)), (4, .int u1), (0, .ref (ad 0)), (1, .ref (ad 20)), (3, .int x3)]) hx hb dX11_volumeOf_37 hl rfl rfl (by decide) rfl (fun ls hl => ?_)
  refine lv_goto hx hb dX11_volumeOf_40 (tgt := 6) (by decide) ?_
  exact ih6 x3 u1 (x5 + 1) _ _ _ hm hH (lv_sub hl [2, 3, 4, 1, 0] rfl)
def mX11_volumeOf_0_20_6 (h : Mm) : Nat → Int32 → Int32 → Int32 → Option Int32
  | 0, _, _, _ => none
  | n + 1, x3, x4, x5 => if x3 ≤ x5 then (some x4) else (gIn x5 24 (if (h 20 x5.toNatClampNeg) = (-4 : Int32) then (mX11_volumeOf_0_20_34 h (mX11_volumeOf_0_20_6 h n) x3 x5 (0 : Int32) x4) else (gIn x5 24 (mX11_volumeOf_0_20_34 h (mX11_volumeOf_0_20_6 h n) x3 x5 (h 14 x5.toNatClampNeg) x4))))
set_option maxRecDepth 4000 in
theorem wX11_volumeOf_0_20_6 {p : Program} {l : Launch} {e : Env} {s : State} {m : MethodId} {args : Array Value} {below : List Frame} {meth : Method} {c : Code} {D : va_G} {ad : Nat → Nat} {ac : Nat → ClassId} {h : Mm} {r : Int32} (X : Fx p s m args meth c cX11_volumeOf 6 RX11 (some .int) D ad ac LM []) : ∀ (n : Nat) (x3 : Int32) (x4 : Int32) (x5 : Int32) (H : Heap) (locs : List Loc) (ls : Array Slot), mX11_volumeOf_0_20_6 h n x3 x4 x5 = some r → Hp D ad ac LM h s H locs → lv_has ls 6 [(0, .ref (ad 0)), (1, .ref (ad 20)), (3, .int x3), (4, .int x4), (5, .int x5)] → W p l e (rmD 0) s m args below meth c H locs 0 0 (MQ below (QU D ad ac LM (some (.int r)) h s.heap.size) args s 0 0 (Aa ad LM.length s.heap.size)) (F0 m 6 ls []) := by
  obtain ⟨hx, hb, hml, hown, hts, hr, hlk, hC, hI, hR⟩ := id X
  intro n
  induction n with
  | zero => intro x3 x4 x5 H locs ls hm; rw [mX11_volumeOf_0_20_6] at hm; cases hm
  | succ n ih =>
    intro x3 x4 x5 H locs ls hm hH hl
    rw [mX11_volumeOf_0_20_6] at hm
    refine lv_iload hx hb dX11_volumeOf_6 (lv_at hl 4 rfl) ?_
    refine lv_iload_n hx hb dX11_volumeOf_8 rfl (lv_at hl 2 rfl) ?_
    refine lv_icmp_ge hx hb dX11_volumeOf_9 (tgt := 43) (by decide) (fun hc => ?_) (fun hc => ?_)
    · rw [if_pos hc] at hm
      refine lv_iload hx hb dX11_volumeOf_43 (lv_at hl 3 rfl) ?_
      cases hm
      exact retI X hH dX11_volumeOf_45
    · rw [if_neg hc] at hm
      refine lv_iload hx hb dX11_volumeOf_12 (lv_at hl 3 rfl) ?_
      refine lv_aload_n hx hb dX11_volumeOf_14 rfl (lv_at hl 1 rfl) ?_
      refine lv_iload hx hb dX11_volumeOf_15 (lv_at hl 4 rfl) ?_
      obtain ⟨hin1, hm⟩ := gIn_some hm
      refine ild X hH lM_20 hin1 dX11_volumeOf_17 ?_
      refine lv_bipush (v := (-4)) hx hb dX11_volumeOf_18 (by decide) ?_
      refine lv_icmp_eq hx hb dX11_volumeOf_20 (tgt := 33) (by decide) (fun hc => ?_) (fun hc => ?_)
      · rw [if_pos hc] at hm
        refine lv_iconst (v := 0) hx hb dX11_volumeOf_33 (by decide) ?_
        exact wX11_volumeOf_0_20_34 X ih x3 x5 (0 : Int32) x4 _ _ _ hm hH (lv_sub hl [0, 1, 2, 4] rfl)
      · rw [if_neg hc] at hm
        refine lv_aload_n hx hb dX11_volumeOf_23 rfl (lv_at hl 0 rfl) ?_
        refine gR X hH fl_X11_49 lM_0 rfl dX11_volumeOf_24 ?_
        refine lv_iload hx hb dX11_volumeOf_27 (lv_at hl 4 rfl) ?_
        obtain ⟨hin2, hm⟩ := gIn_some hm
        refine ild X hH lM_14 hin2 dX11_volumeOf_29 ?_
        refine lv_goto hx hb dX11_volumeOf_30 (tgt := 34) (by decide) ?_
        exact wX11_volumeOf_0_20_34 X ih x3 x5 (h 14 x5.toNatClampNeg) x4 _ _ _ hm hH (lv_sub hl [0, 1, 2, 4] rfl)
def mX11_volumeOf_0_20 (h : Mm) (a2 : Int32) (a3 : Int32) : Option Int32 := mX11_volumeOf_0_20_6 h FU a3 (0 : Int32) a2
set_option maxRecDepth 4000 in
theorem mt_X11_volumeOf_0_20 {l : Launch} {D : va_G} {ad : Nat → Nat} {ac : Nat → ClassId} {h : Mm} {a2 : Int32} {a3 : Int32} {r : Int32} (hm : mX11_volumeOf_0_20 h a2 a3 = some r) : Mt l D ad ac LM [] yX11_volumeOf cX11_volumeOf 6 (some .int) 0 [.ref (ad 0), .ref (ad 20), .int a2, .int a3] h (some (.int r)) h := by
  refine Mt.of (own := RX11) (by decide) rfl (Nat.le_of_ble_eq_true rfl) ?_
  intro p e s m below meth c ls X hH hl
  obtain ⟨hx, hb, hml, hown, hts, hr, hlk, hC, hI, hR⟩ := id X
  have hl : lv_has ls 6 [(0, .ref (ad 0)), (1, .ref (ad 20)), (2, .int a2), (3, .int a3)] := hl
  rw [mX11_volumeOf_0_20] at hm
  refine lv_iconst (v := 0) hx hb dX11_volumeOf_0 (by decide) ?_
  refine lv_istore (lv' := [(4, .int (0 : Int32)), (0, .ref (ad 0)), (1, .ref (ad 20)), (2, .int a2), (3, .int a3)]) hx hb dX11_volumeOf_1 hl (by decide) rfl (fun ls hl => ?_)
  refine lv_iload_n hx hb dX11_volumeOf_3 rfl (lv_at hl 3 rfl) ?_
  refine lv_istore (lv' := [(5, .int a2), (4, .int (0 : Int32)), (0, .ref (ad 0)), (1, .ref (ad 20)), (2, .int a2), (3, .int a3)]) hx hb dX11_volumeOf_4 hl (by decide) rfl (fun ls hl => ?_)
  exact wX11_volumeOf_0_20_6 X FU a3 (0 : Int32) a2 _ _ _ hm hH (lv_sub hl [2, 3, 5, 1, 0] rfl)
/-! X11_isLess -/
def mX11_isLess (h : Mm) (a1 : Int32) (a2 : Int32) (a3 : Int32) : Option Int32 := gIn (0 : Int32) 4 (if a1 = (h 22 (0 : Int32).toNatClampNeg) then (gIn (1 : Int32) 4 (if a2 = (h 22 (1 : Int32).toNatClampNeg) then (gIn (2 : Int32) 4 (if (h 22 (2 : Int32).toNatClampNeg) ≤ a3 then (some (0 : Int32)) else (some (1 : Int32)))) else (gIn (1 : Int32) 4 (if (h 22 (1 : Int32).toNatClampNeg) ≤ a2 then (some (0 : Int32)) else (some (1 : Int32)))))) else (gIn (0 : Int32) 4 (if (h 22 (0 : Int32).toNatClampNeg) ≤ a1 then (some (0 : Int32)) else (some (1 : Int32)))))
set_option maxRecDepth 4000 in
theorem mt_X11_isLess {l : Launch} {D : va_G} {ad : Nat → Nat} {ac : Nat → ClassId} {h : Mm} {a1 : Int32} {a2 : Int32} {a3 : Int32} {r : Int32} (hm : mX11_isLess h a1 a2 a3 = some r) : Mt l D ad ac LM [] yX11_isLess cX11_isLess 4 (some .boolean) 0 [.ref (ad 0), .int a1, .int a2, .int a3] h (some (.int r)) h := by
  refine Mt.of (own := RX11) (by decide) rfl (Nat.le_of_ble_eq_true rfl) ?_
  intro p e s m below meth c ls X hH hl
  obtain ⟨hx, hb, hml, hown, hts, hr, hlk, hC, hI, hR⟩ := id X
  have hl : lv_has ls 4 [(0, .ref (ad 0)), (1, .int a1), (2, .int a2), (3, .int a3)] := hl
  rw [mX11_isLess] at hm
  refine lv_iload_n hx hb dX11_isLess_0 rfl (lv_at hl 1 rfl) ?_
  refine lv_aload_n hx hb dX11_isLess_1 rfl (lv_at hl 0 rfl) ?_
  refine gR X hH fl_X11_73 lM_0 rfl dX11_isLess_2 ?_
  refine lv_iconst (v := 0) hx hb dX11_isLess_5 (by decide) ?_
  obtain ⟨hin1, hm⟩ := gIn_some hm
  refine ild X hH lM_22 hin1 dX11_isLess_6 ?_
  refine lv_icmp_eq hx hb dX11_isLess_7 (tgt := 28) (by decide) (fun hc => ?_) (fun hc => ?_)
  · rw [if_pos hc] at hm
    refine lv_iload_n hx hb dX11_isLess_28 rfl (lv_at hl 2 rfl) ?_
    refine lv_aload_n hx hb dX11_isLess_29 rfl (lv_at hl 0 rfl) ?_
    refine gR X hH fl_X11_73 lM_0 rfl dX11_isLess_30 ?_
    refine lv_iconst (v := 1) hx hb dX11_isLess_33 (by decide) ?_
    obtain ⟨hin2, hm⟩ := gIn_some hm
    refine ild X hH lM_22 hin2 dX11_isLess_34 ?_
    refine lv_icmp_eq hx hb dX11_isLess_35 (tgt := 56) (by decide) (fun hc => ?_) (fun hc => ?_)
    · rw [if_pos hc] at hm
      refine lv_iload_n hx hb dX11_isLess_56 rfl (lv_at hl 3 rfl) ?_
      refine lv_aload_n hx hb dX11_isLess_57 rfl (lv_at hl 0 rfl) ?_
      refine gR X hH fl_X11_73 lM_0 rfl dX11_isLess_58 ?_
      refine lv_iconst (v := 2) hx hb dX11_isLess_61 (by decide) ?_
      obtain ⟨hin3, hm⟩ := gIn_some hm
      refine ild X hH lM_22 hin3 dX11_isLess_62 ?_
      refine lv_icmp_ge hx hb dX11_isLess_63 (tgt := 70) (by decide) (fun hc => ?_) (fun hc => ?_)
      · rw [if_pos hc] at hm
        refine lv_iconst (v := 0) hx hb dX11_isLess_70 (by decide) ?_
        cases hm
        exact retZ X hH rfl dX11_isLess_71
      · rw [if_neg hc] at hm
        refine lv_iconst (v := 1) hx hb dX11_isLess_66 (by decide) ?_
        refine lv_goto hx hb dX11_isLess_67 (tgt := 71) (by decide) ?_
        cases hm
        exact retZ X hH rfl dX11_isLess_71
    · rw [if_neg hc] at hm
      refine lv_iload_n hx hb dX11_isLess_38 rfl (lv_at hl 2 rfl) ?_
      refine lv_aload_n hx hb dX11_isLess_39 rfl (lv_at hl 0 rfl) ?_
      refine gR X hH fl_X11_73 lM_0 rfl dX11_isLess_40 ?_
      refine lv_iconst (v := 1) hx hb dX11_isLess_43 (by decide) ?_
      obtain ⟨hin4, hm⟩ := gIn_some hm
      refine ild X hH lM_22 hin4 dX11_isLess_44 ?_
      refine lv_icmp_ge hx hb dX11_isLess_45 (tgt := 52) (by decide) (fun hc => ?_) (fun hc => ?_)
      · rw [if_pos hc] at hm
        refine lv_iconst (v := 0) hx hb dX11_isLess_52 (by decide) ?_
        refine lv_goto hx hb dX11_isLess_53 (tgt := 71) (by decide) ?_
        cases hm
        exact retZ X hH rfl dX11_isLess_71
      · rw [if_neg hc] at hm
        refine lv_iconst (v := 1) hx hb dX11_isLess_48 (by decide) ?_
        refine lv_goto hx hb dX11_isLess_49 (tgt := 71) (by decide) ?_
        cases hm
        exact retZ X hH rfl dX11_isLess_71
  · rw [if_neg hc] at hm
    refine lv_iload_n hx hb dX11_isLess_10 rfl (lv_at hl 1 rfl) ?_
    refine lv_aload_n hx hb dX11_isLess_11 rfl (lv_at hl 0 rfl) ?_
    refine gR X hH fl_X11_73 lM_0 rfl dX11_isLess_12 ?_
    refine lv_iconst (v := 0) hx hb dX11_isLess_15 (by decide) ?_
    obtain ⟨hin5, hm⟩ := gIn_some hm
    refine ild X hH lM_22 hin5 dX11_isLess_16 ?_
    refine lv_icmp_ge hx hb dX11_isLess_17 (tgt := 24) (by decide) (fun hc => ?_) (fun hc => ?_)
    · rw [if_pos hc] at hm
      refine lv_iconst (v := 0) hx hb dX11_isLess_24 (by decide) ?_
      refine lv_goto hx hb dX11_isLess_25 (tgt := 71) (by decide) ?_
      cases hm
      exact retZ X hH rfl dX11_isLess_71
    · rw [if_neg hc] at hm
      refine lv_iconst (v := 1) hx hb dX11_isLess_20 (by decide) ?_
      refine lv_goto hx hb dX11_isLess_21 (tgt := 71) (by decide) ?_
      cases hm
      exact retZ X hH rfl dX11_isLess_71
