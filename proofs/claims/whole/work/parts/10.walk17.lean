/-! X11_sees -/
def mX11_sees_51 (h : Mm) (x2 : Int32) (t0 : Int32) : Option Int32 := gIn (((2 : Int32) * x2) + (1 : Int32)) 6 (if (h 3 (((2 : Int32) * x2) + (1 : Int32)).toNatClampNeg) ≤ t0 then (some (0 : Int32)) else (some (1 : Int32)))
set_option maxRecDepth 4000 in
theorem wX11_sees_51 {p : Program} {l : Launch} {e : Env} {s : State} {m : MethodId} {args : Array Value} {below : List Frame} {meth : Method} {c : Code} {D : va_G} {ad : Nat → Nat} {ac : Nat → ClassId} {h : Mm} {r : Int32} (X : Fx p s m args meth c cX11_sees 6 RX11 (some .boolean) D ad ac LM []) : ∀ (x2 : Int32) (t0 : Int32) (H : Heap) (locs : List Loc) (ls : Array Slot), mX11_sees_51 h x2 t0 = some r → Hp D ad ac LM h s H locs → lv_has ls 6 [(0, .ref (ad 0)), (2, .int x2)] → W p l e (rmD 0) s m args below meth c H locs 0 0 (MQ below (QU D ad ac LM (some (.int r)) h s.heap.size) args s 0 0 (Aa ad LM.length s.heap.size)) (F0 m 51 ls [.int t0]) := by
  obtain ⟨hx, hb, hml, hown, hts, hr, hlk, hC, hI, hR⟩ := id X
  intro x2 t0 H locs ls hm hH hl
  rw [mX11_sees_51] at hm
  refine lv_aload_n hx hb dX11_sees_51 rfl (lv_at hl 0 rfl) ?_
  refine gR X hH fl_X11_16 lM_0 rfl dX11_sees_52 ?_
  refine lv_iconst (v := 2) hx hb dX11_sees_55 (by decide) ?_
  refine lv_iload_n hx hb dX11_sees_56 rfl (lv_at hl 1 rfl) ?_
  refine lv_imul hx hb dX11_sees_57 ?_
  refine lv_iconst (v := 1) hx hb dX11_sees_58 (by decide) ?_
  refine lv_iadd hx hb dX11_sees_59 ?_
  obtain ⟨hin1, hm⟩ := gIn_some hm
  refine ild X hH lM_3 hin1 dX11_sees_60 ?_
  refine lv_icmp_ge hx hb dX11_sees_61 (tgt := 68) (by decide) (fun hc => ?_) (fun hc => ?_)
  · rw [if_pos hc] at hm
    refine lv_iconst (v := 0) hx hb dX11_sees_68 (by decide) ?_
    cases hm
    exact retZ X hH rfl dX11_sees_69
  · rw [if_neg hc] at hm
    refine lv_iconst (v := 1) hx hb dX11_sees_64 (by decide) ?_
    refine lv_goto hx hb dX11_sees_65 (tgt := 69) (by decide) ?_
    cases hm
    exact retZ X hH rfl dX11_sees_69
def mX11_sees (h : Mm) (a1 : Int32) (a2 : Int32) (a3 : Int32) : Option Int32 := gIn (((5 : Int32) * a1) + (1 : Int32)) 20 (mlet (h 2 (((5 : Int32) * a1) + (1 : Int32)).toNatClampNeg) (fun u2 => gIn ((5 : Int32) * a1) 20 (gIn ((2 : Int32) * a2) 6 (gNz u2 (mlet (((a3 - (h 2 ((5 : Int32) * a1).toNatClampNeg)) - (h 3 ((2 : Int32) * a2).toNatClampNeg)) - ((a3 - (h 2 ((5 : Int32) * a1).toNatClampNeg)) - (h 3 ((2 : Int32) * a2).toNatClampNeg)) / u2 * u2) (fun u5 => if 0 ≤ u5 then (mX11_sees_51 h a2 u5) else (mX11_sees_51 h a2 (u5 + u2))))))))
set_option maxRecDepth 4000 in
theorem mt_X11_sees {l : Launch} {D : va_G} {ad : Nat → Nat} {ac : Nat → ClassId} {h : Mm} {a1 : Int32} {a2 : Int32} {a3 : Int32} {r : Int32} (hm : mX11_sees h a1 a2 a3 = some r) : Mt l D ad ac LM [] yX11_sees cX11_sees 6 (some .boolean) 0 [.ref (ad 0), .int a1, .int a2, .int a3] h (some (.int r)) h := by
  refine Mt.of (own := RX11) (by decide) rfl (Nat.le_of_ble_eq_true rfl) ?_
  intro p e s m below meth c ls X hH hl
  obtain ⟨hx, hb, hml, hown, hts, hr, hlk, hC, hI, hR⟩ := id X
  have hl : lv_has ls 6 [(0, .ref (ad 0)), (1, .int a1), (2, .int a2), (3, .int a3)] := hl
  rw [mX11_sees] at hm
  refine lv_aload_n hx hb dX11_sees_0 rfl (lv_at hl 0 rfl) ?_
  refine gR X hH fl_X11_13 lM_0 rfl dX11_sees_1 ?_
  refine lv_iconst (v := 5) hx hb dX11_sees_4 (by decide) ?_
  refine lv_iload_n hx hb dX11_sees_5 rfl (lv_at hl 1 rfl) ?_
  refine lv_imul hx hb dX11_sees_6 ?_
  refine lv_iconst (v := 1) hx hb dX11_sees_7 (by decide) ?_
  refine lv_iadd hx hb dX11_sees_8 ?_
  obtain ⟨hin1, hm⟩ := gIn_some hm
  refine ild X hH lM_2 hin1 dX11_sees_9 ?_
  obtain ⟨u2, eu2, hm⟩ := mlet_some hm
  refine W.eq (g2 := F0 m 10 ls (.int u2 :: [])) (by rw [eu2]) ?_
  refine lv_istore (lv' := [(4, .int u2), (0, .ref (ad 0)), (1, .int a1), (2, .int a2), (3, .int a3)]) hx hb dX11_sees_10 hl (by decide) rfl (fun ls hl => ?_)
  refine lv_iload_n hx hb dX11_sees_12 rfl (lv_at hl 4 rfl) ?_
  refine lv_aload_n hx hb dX11_sees_13 rfl (lv_at hl 1 rfl) ?_
  refine gR X hH fl_X11_13 lM_0 rfl dX11_sees_14 ?_
  refine lv_iconst (v := 5) hx hb dX11_sees_17 (by decide) ?_
  refine lv_iload_n hx hb dX11_sees_18 rfl (lv_at hl 2 rfl) ?_
  refine lv_imul hx hb dX11_sees_19 ?_
  obtain ⟨hin3, hm⟩ := gIn_some hm
  refine ild X hH lM_2 hin3 dX11_sees_20 ?_
  refine lv_isub hx hb dX11_sees_21 ?_
  refine lv_aload_n hx hb dX11_sees_22 rfl (lv_at hl 1 rfl) ?_
  refine gR X hH fl_X11_16 lM_0 rfl dX11_sees_23 ?_
  refine lv_iconst (v := 2) hx hb dX11_sees_26 (by decide) ?_
  refine lv_iload_n hx hb dX11_sees_27 rfl (lv_at hl 3 rfl) ?_
  refine lv_imul hx hb dX11_sees_28 ?_
  obtain ⟨hin4, hm⟩ := gIn_some hm
  refine ild X hH lM_3 hin4 dX11_sees_29 ?_
  refine lv_isub hx hb dX11_sees_30 ?_
  refine lv_iload hx hb dX11_sees_31 (lv_at hl 0 rfl) ?_
  obtain ⟨hnz, hm⟩ := gNz_some hm
  refine lv_irem hx hb dX11_sees_33 hnz ?_
  obtain ⟨u5, eu5, hm⟩ := mlet_some hm
  refine W.eq (g2 := F0 m 34 ls (.int u5 :: [])) (by rw [eu5]) ?_
  refine lv_istore (lv' := [(5, .int u5), (4, .int u2), (0, .ref (ad 0)), (1, .int a1), (2, .int a2), (3, .int a3)]) hx hb dX11_sees_34 hl (by decide) rfl (fun ls hl => ?_)
  refine lv_iload hx hb dX11_sees_36 (lv_at hl 0 rfl) ?_
  refine lv_if_ge hx hb dX11_sees_38 (tgt := 49) (by decide) (fun hc => ?_) (fun hc => ?_)
  · rw [if_pos hc] at hm
    refine lv_iload hx hb dX11_sees_49 (lv_at hl 0 rfl) ?_
    exact wX11_sees_51 X a2 u5 _ _ _ hm hH (lv_sub hl [2, 4] rfl)
  · rw [if_neg hc] at hm
    refine lv_iload hx hb dX11_sees_41 (lv_at hl 0 rfl) ?_
    refine lv_iload hx hb dX11_sees_43 (lv_at hl 1 rfl) ?_
    refine lv_iadd hx hb dX11_sees_45 ?_
    refine lv_goto hx hb dX11_sees_46 (tgt := 51) (by decide) ?_
    exact wX11_sees_51 X a2 (u5 + u2) _ _ _ hm hH (lv_sub hl [2, 4] rfl)
/-! X11_lays -/
def mX11_lays_273 : Nat → Int32 → Mm → Option Mm
  | 0, _, _ => none
  | n + 1, x1, h => if (4 : Int32) ≤ x1 then (mlet (wr h 0 19 (0 : Int32)) (fun h1 => some h1)) else (gIn ((24 : Int32) + ((2 : Int32) * x1)) 32 (mlet (wr h 15 ((24 : Int32) + ((2 : Int32) * x1)).toNatClampNeg (1 : Int32)) (fun h2 => gIn (((24 : Int32) + ((2 : Int32) * x1)) + (1 : Int32)) 32 (mlet (wr h2 15 (((24 : Int32) + ((2 : Int32) * x1)) + (1 : Int32)).toNatClampNeg (0 : Int32)) (fun h4 => mX11_lays_273 n (x1 + 1) h4)))))
set_option maxRecDepth 4000 in
theorem wX11_lays_273 {p : Program} {l : Launch} {e : Env} {s : State} {m : MethodId} {args : Array Value} {below : List Frame} {meth : Method} {c : Code} {D : va_G} {ad : Nat → Nat} {ac : Nat → ClassId} {h' : Mm} (X : Fx p s m args meth c cX11_lays 8 RX11 none D ad ac LM []) : ∀ (n : Nat) (x1 : Int32) (h : Mm) (H : Heap) (locs : List Loc) (ls : Array Slot), mX11_lays_273 n x1 h = some h' → Hp D ad ac LM h s H locs → lv_has ls 8 [(0, .ref (ad 0)), (1, .int x1)] → W p l e (rmD 1) s m args below meth c H locs 0 0 (MQ below (QU D ad ac LM none h' s.heap.size) args s 0 0 (Aa ad LM.length s.heap.size)) (F0 m 273 ls []) := by
  obtain ⟨hx, hb, hml, hown, hts, hr, hlk, hC, hI, hR⟩ := id X
  intro n
  induction n with
  | zero => intro x1 h H locs ls hm; rw [mX11_lays_273] at hm; cases hm
  | succ n ih =>
    intro x1 h H locs ls hm hH hl
    rw [mX11_lays_273] at hm
    refine lv_iload_n hx hb dX11_lays_273 rfl (lv_at hl 1 rfl) ?_
    refine lv_iconst (v := 4) hx hb dX11_lays_274 (by decide) ?_
    refine lv_icmp_ge hx hb dX11_lays_275 (tgt := 310) (by decide) (fun hc => ?_) (fun hc => ?_)
    · rw [if_pos hc] at hm
      refine lv_aload_n hx hb dX11_lays_310 rfl (lv_at hl 0 rfl) ?_
      refine lv_iconst (v := 0) hx hb dX11_lays_311 (by decide) ?_
      obtain ⟨h1, eh1, hm⟩ := mlet_some hm
      refine pI X hH fl_X11_135 fw_11_19 lM_0 rfl dX11_lays_312 (fun H locs hH => ?_)
      rw [← eh1] at hH
      cases hm
      exact retV X hH dX11_lays_315
    · rw [if_neg hc] at hm
      refine lv_aload_n hx hb dX11_lays_278 rfl (lv_at hl 0 rfl) ?_
      refine gR X hH fl_X11_52 lM_0 rfl dX11_lays_279 ?_
      refine lv_bipush (v := 24) hx hb dX11_lays_282 (by decide) ?_
      refine lv_iconst (v := 2) hx hb dX11_lays_284 (by decide) ?_
      refine lv_iload_n hx hb dX11_lays_285 rfl (lv_at hl 1 rfl) ?_
      refine lv_imul hx hb dX11_lays_286 ?_
      refine lv_iadd hx hb dX11_lays_287 ?_
      refine lv_iconst (v := 1) hx hb dX11_lays_288 (by decide) ?_
      obtain ⟨hin3, hm⟩ := gIn_some hm
      obtain ⟨h2, eh2, hm⟩ := mlet_some hm
      refine ist X hH lM_15 hin3 dX11_lays_289 (fun H locs hH => ?_)
      rw [← eh2] at hH
      refine lv_aload_n hx hb dX11_lays_290 rfl (lv_at hl 0 rfl) ?_
      refine gR X hH fl_X11_52 lM_0 rfl dX11_lays_291 ?_
      refine lv_bipush (v := 24) hx hb dX11_lays_294 (by decide) ?_
      refine lv_iconst (v := 2) hx hb dX11_lays_296 (by decide) ?_
      refine lv_iload_n hx hb dX11_lays_297 rfl (lv_at hl 1 rfl) ?_
      refine lv_imul hx hb dX11_lays_298 ?_
      refine lv_iadd hx hb dX11_lays_299 ?_
      refine lv_iconst (v := 1) hx hb dX11_lays_300 (by decide) ?_
      refine lv_iadd hx hb dX11_lays_301 ?_
      refine lv_iconst (v := 0) hx hb dX11_lays_302 (by decide) ?_
      obtain ⟨hin5, hm⟩ := gIn_some hm
      obtain ⟨h4, eh4, hm⟩ := mlet_some hm
      refine ist X hH lM_15 hin5 dX11_lays_303 (fun H locs hH => ?_)
      rw [← eh4] at hH
      refine lv_iinc (k := 1) (v := (x1 + 1)) (lv' := [(1, .int (x1 + 1)), (0, .ref (ad 0))]) hx hb dX11_lays_304 hl rfl rfl (by decide) rfl (fun ls hl => ?_)
      refine lv_goto hx hb dX11_lays_307 (tgt := 273) (by decide) ?_
      exact ih (x1 + 1) h4 _ _ _ hm hH (lv_sub hl [1, 0] rfl)
def mX11_lays_251 : Nat → Int32 → Mm → Option Mm
  | 0, _, _ => none
  | n + 1, x1, h => if (24 : Int32) ≤ x1 then (mX11_lays_273 FU (0 : Int32) h) else (gIn x1 32 (mlet (wr h 15 x1.toNatClampNeg (-4 : Int32)) (fun h1 => mX11_lays_251 n (x1 + 1) h1)))
set_option maxRecDepth 4000 in
theorem wX11_lays_251 {p : Program} {l : Launch} {e : Env} {s : State} {m : MethodId} {args : Array Value} {below : List Frame} {meth : Method} {c : Code} {D : va_G} {ad : Nat → Nat} {ac : Nat → ClassId} {h' : Mm} (X : Fx p s m args meth c cX11_lays 8 RX11 none D ad ac LM []) : ∀ (n : Nat) (x1 : Int32) (h : Mm) (H : Heap) (locs : List Loc) (ls : Array Slot), mX11_lays_251 n x1 h = some h' → Hp D ad ac LM h s H locs → lv_has ls 8 [(0, .ref (ad 0)), (1, .int x1)] → W p l e (rmD 1) s m args below meth c H locs 0 0 (MQ below (QU D ad ac LM none h' s.heap.size) args s 0 0 (Aa ad LM.length s.heap.size)) (F0 m 251 ls []) := by
  obtain ⟨hx, hb, hml, hown, hts, hr, hlk, hC, hI, hR⟩ := id X
  intro n
  induction n with
  | zero => intro x1 h H locs ls hm; rw [mX11_lays_251] at hm; cases hm
  | succ n ih =>
    intro x1 h H locs ls hm hH hl
    rw [mX11_lays_251] at hm
    refine lv_iload_n hx hb dX11_lays_251 rfl (lv_at hl 1 rfl) ?_
    refine lv_bipush (v := 24) hx hb dX11_lays_252 (by decide) ?_
    refine lv_icmp_ge hx hb dX11_lays_254 (tgt := 271) (by decide) (fun hc => ?_) (fun hc => ?_)
    · rw [if_pos hc] at hm
      refine lv_iconst (v := 0) hx hb dX11_lays_271 (by decide) ?_
      refine lv_istore_n (lv' := [(1, .int (0 : Int32)), (0, .ref (ad 0))]) hx hb dX11_lays_272 rfl hl (by decide) rfl (fun ls hl => ?_)
      exact wX11_lays_273 X FU (0 : Int32) h _ _ _ hm hH (lv_sub hl [1, 0] rfl)
    · rw [if_neg hc] at hm
      refine lv_aload_n hx hb dX11_lays_257 rfl (lv_at hl 0 rfl) ?_
      refine gR X hH fl_X11_52 lM_0 rfl dX11_lays_258 ?_
      refine lv_iload_n hx hb dX11_lays_261 rfl (lv_at hl 1 rfl) ?_
      refine lv_bipush (v := (-4)) hx hb dX11_lays_262 (by decide) ?_
      obtain ⟨hin2, hm⟩ := gIn_some hm
      obtain ⟨h1, eh1, hm⟩ := mlet_some hm
      refine ist X hH lM_15 hin2 dX11_lays_264 (fun H locs hH => ?_)
      rw [← eh1] at hH
      refine lv_iinc (k := 1) (v := (x1 + 1)) (lv' := [(1, .int (x1 + 1)), (0, .ref (ad 0))]) hx hb dX11_lays_265 hl rfl rfl (by decide) rfl (fun ls hl => ?_)
      refine lv_goto hx hb dX11_lays_268 (tgt := 251) (by decide) ?_
      exact ih (x1 + 1) h1 _ _ _ hm hH (lv_sub hl [1, 0] rfl)
def mX11_lays_237 (k7 : Int32 → Mm → Option Mm) (k15 : Int32 → Int32 → Mm → Option Mm) (x1 : Int32) (x2 : Int32) (h : Mm) : Option Mm := k15 x1 (x2 + 1) h
set_option maxRecDepth 4000 in
theorem wX11_lays_237 {p : Program} {l : Launch} {e : Env} {s : State} {m : MethodId} {args : Array Value} {below : List Frame} {meth : Method} {c : Code} {D : va_G} {ad : Nat → Nat} {ac : Nat → ClassId} {h' : Mm} (X : Fx p s m args meth c cX11_lays 8 RX11 none D ad ac LM []) {k7 : Int32 → Mm → Option Mm} {k15 : Int32 → Int32 → Mm → Option Mm} (ih7 : ∀ (x1 : Int32) (h : Mm) (H : Heap) (locs : List Loc) (ls : Array Slot), k7 x1 h = some h' → Hp D ad ac LM h s H locs → lv_has ls 8 [(0, .ref (ad 0)), (1, .int x1)] → W p l e (rmD 1) s m args below meth c H locs 0 0 (MQ below (QU D ad ac LM none h' s.heap.size) args s 0 0 (Aa ad LM.length s.heap.size)) (F0 m 7 ls [])) (ih15 : ∀ (x1 : Int32) (x2 : Int32) (h : Mm) (H : Heap) (locs : List Loc) (ls : Array Slot), k15 x1 x2 h = some h' → Hp D ad ac LM h s H locs → lv_has ls 8 [(0, .ref (ad 0)), (1, .int x1), (2, .int x2)] → W p l e (rmD 1) s m args below meth c H locs 0 0 (MQ below (QU D ad ac LM none h' s.heap.size) args s 0 0 (Aa ad LM.length s.heap.size)) (F0 m 15 ls [])) : ∀ (x1 : Int32) (x2 : Int32) (h : Mm) (H : Heap) (locs : List Loc) (ls : Array Slot), mX11_lays_237 k7 k15 x1 x2 h = some h' → Hp D ad ac LM h s H locs → lv_has ls 8 [(0, .ref (ad 0)), (1, .int x1), (2, .int x2)] → W p l e (rmD 1) s m args below meth c H locs 0 0 (MQ below (QU D ad ac LM none h' s.heap.size) args s 0 0 (Aa ad LM.length s.heap.size)) (F0 m 237 ls []) := by
  obtain ⟨hx, hb, hml, hown, hts, hr, hlk, hC, hI, hR⟩ := id X
  intro x1 x2 h H locs ls hm hH hl
  rw [mX11_lays_237] at hm
  refine lv_iinc (k := 2) (v := (x2 + 1)) (lv' := [(2, .int (x2 + 1)), (0, .ref (ad 0)), (1, .int x1)]) hx hb dX11_lays_237 hl rfl rfl (by decide) rfl (fun ls hl => ?_)
  refine lv_goto hx hb dX11_lays_240 (tgt := 15) (by decide) ?_
  exact ih15 x1 (x2 + 1) h _ _ _ hm hH (lv_sub hl [1, 2, 0] rfl)
def mX11_lays_187 (k7 : Int32 → Mm → Option Mm) (k15 : Int32 → Int32 → Mm → Option Mm) : Nat → Int32 → Int32 → Int32 → Int32 → Int32 → Mm → Option Mm
  | 0, _, _, _, _, _, _ => none
  | n + 1, x1, x2, x3, x6, x7, h => if (x6 - x1) < x7 then (mlet (wr h 0 16 ((h 0 16) + (1 : Int32))) (fun h1 => mX11_lays_237 k7 k15 x1 x2 h1)) else (gIn (h 0 16) 24 (bd1 (mX11_rateOf h x3 x7 ((x6 - x1) + (1 : Int32))) (fun v3 => gIn (h 0 16) 24 (mlet (wr h 14 (h 0 16).toNatClampNeg ((h 14 (h 0 16).toNatClampNeg) + v3)) (fun h4 => mX11_lays_187 k7 k15 n x1 x2 x3 x6 (x7 + 1) h4)))))
set_option maxRecDepth 4000 in
theorem wX11_lays_187 {p : Program} {l : Launch} {e : Env} {s : State} {m : MethodId} {args : Array Value} {below : List Frame} {meth : Method} {c : Code} {D : va_G} {ad : Nat → Nat} {ac : Nat → ClassId} {h' : Mm} (X : Fx p s m args meth c cX11_lays 8 RX11 none D ad ac LM []) {k7 : Int32 → Mm → Option Mm} {k15 : Int32 → Int32 → Mm → Option Mm} (ih7 : ∀ (x1 : Int32) (h : Mm) (H : Heap) (locs : List Loc) (ls : Array Slot), k7 x1 h = some h' → Hp D ad ac LM h s H locs → lv_has ls 8 [(0, .ref (ad 0)), (1, .int x1)] → W p l e (rmD 1) s m args below meth c H locs 0 0 (MQ below (QU D ad ac LM none h' s.heap.size) args s 0 0 (Aa ad LM.length s.heap.size)) (F0 m 7 ls [])) (ih15 : ∀ (x1 : Int32) (x2 : Int32) (h : Mm) (H : Heap) (locs : List Loc) (ls : Array Slot), k15 x1 x2 h = some h' → Hp D ad ac LM h s H locs → lv_has ls 8 [(0, .ref (ad 0)), (1, .int x1), (2, .int x2)] → W p l e (rmD 1) s m args below meth c H locs 0 0 (MQ below (QU D ad ac LM none h' s.heap.size) args s 0 0 (Aa ad LM.length s.heap.size)) (F0 m 15 ls [])) : ∀ (n : Nat) (x1 : Int32) (x2 : Int32) (x3 : Int32) (x6 : Int32) (x7 : Int32) (h : Mm) (H : Heap) (locs : List Loc) (ls : Array Slot), mX11_lays_187 k7 k15 n x1 x2 x3 x6 x7 h = some h' → Hp D ad ac LM h s H locs → lv_has ls 8 [(0, .ref (ad 0)), (1, .int x1), (2, .int x2), (3, .int x3), (6, .int x6), (7, .int x7)] → W p l e (rmD 1) s m args below meth c H locs 0 0 (MQ below (QU D ad ac LM none h' s.heap.size) args s 0 0 (Aa ad LM.length s.heap.size)) (F0 m 187 ls []) := by
  obtain ⟨hx, hb, hml, hown, hts, hr, hlk, hC, hI, hR⟩ := id X
  intro n
  induction n with
  | zero => intro x1 x2 x3 x6 x7 h H locs ls hm; rw [mX11_lays_187] at hm; cases hm
  | succ n ih =>
    intro x1 x2 x3 x6 x7 h H locs ls hm hH hl
    rw [mX11_lays_187] at hm
    refine lv_iload hx hb dX11_lays_187 (lv_at hl 5 rfl) ?_
    refine lv_iload hx hb dX11_lays_189 (lv_at hl 4 rfl) ?_
    refine lv_iload_n hx hb dX11_lays_191 rfl (lv_at hl 1 rfl) ?_
    refine lv_isub hx hb dX11_lays_192 ?_
    refine lv_icmp_gt hx hb dX11_lays_193 (tgt := 227) (by decide) (fun hc => ?_) (fun hc => ?_)
    · rw [if_pos hc] at hm
      refine lv_aload_n hx hb dX11_lays_227 rfl (lv_at hl 0 rfl) ?_
      refine lv_dup hx hb dX11_lays_228 rfl ?_
      refine gI X hH fl_X11_124 lM_0 rfl dX11_lays_229 ?_
      refine lv_iconst (v := 1) hx hb dX11_lays_232 (by decide) ?_
      refine lv_iadd hx hb dX11_lays_233 ?_
      obtain ⟨h1, eh1, hm⟩ := mlet_some hm
      refine pI X hH fl_X11_124 fw_11_16 lM_0 rfl dX11_lays_234 (fun H locs hH => ?_)
      rw [← eh1] at hH
      exact wX11_lays_237 X ih7 ih15 x1 x2 h1 _ _ _ hm hH (lv_sub hl [0, 1, 2] rfl)
    · rw [if_neg hc] at hm
      refine lv_aload_n hx hb dX11_lays_196 rfl (lv_at hl 0 rfl) ?_
      refine gR X hH fl_X11_49 lM_0 rfl dX11_lays_197 ?_
      refine lv_aload_n hx hb dX11_lays_200 rfl (lv_at hl 0 rfl) ?_
      refine gI X hH fl_X11_124 lM_0 rfl dX11_lays_201 ?_
      refine lv_dup2_11 hx hb dX11_lays_204 rfl rfl ?_
      obtain ⟨hin2, hm⟩ := gIn_some hm
      refine ild X hH lM_14 hin2 dX11_lays_205 ?_
      refine lv_aload_n hx hb dX11_lays_206 rfl (lv_at hl 0 rfl) ?_
      refine lv_iload_n hx hb dX11_lays_207 rfl (lv_at hl 3 rfl) ?_
      refine lv_iload hx hb dX11_lays_208 (lv_at hl 5 rfl) ?_
      refine lv_iload hx hb dX11_lays_210 (lv_at hl 4 rfl) ?_
      refine lv_iload_n hx hb dX11_lays_212 rfl (lv_at hl 1 rfl) ?_
      refine lv_isub hx hb dX11_lays_213 ?_
      refine lv_iconst (v := 1) hx hb dX11_lays_214 (by decide) ?_
      refine lv_iadd hx hb dX11_lays_215 ?_
      obtain ⟨v3, hq, hm⟩ := bd1_some hm
      refine cVi X hH kl_X11_131 kv_X11_rateOf (mt_X11_rateOf hq) lM_0 rfl rfl (by decide) hl.1 rfl (Nat.le_of_ble_eq_true rfl) dX11_lays_216 (fun H locs hH => ?_)
      refine lv_iadd hx hb dX11_lays_219 ?_
      obtain ⟨hin5, hm⟩ := gIn_some hm
      obtain ⟨h4, eh4, hm⟩ := mlet_some hm
      refine ist X hH lM_14 hin5 dX11_lays_220 (fun H locs hH => ?_)
      rw [← eh4] at hH
      refine lv_iinc (k := 5) (v := (x7 + 1)) (lv' := [(7, .int (x7 + 1)), (0, .ref (ad 0)), (1, .int x1), (2, .int x2), (3, .int x3), (6, .int x6)]) hx hb dX11_lays_221 hl rfl rfl (by decide) rfl (fun ls hl => ?_)
      refine lv_goto hx hb dX11_lays_224 (tgt := 187) (by decide) ?_
      exact ih x1 x2 x3 x6 (x7 + 1) h4 _ _ _ hm hH (lv_sub hl [1, 2, 3, 4, 5, 0] rfl)
def mX11_lays_132 (k7 : Int32 → Mm → Option Mm) (k15 : Int32 → Int32 → Mm → Option Mm) (x1 : Int32) (x2 : Int32) (x3 : Int32) (x4 : Int32) (x6 : Int32) (h : Mm) : Option Mm := gIn (h 0 16) 24 (mlet (wr h 10 (h 0 16).toNatClampNeg x1) (fun h1 => gIn (h1 0 16) 24 (mlet (wr h1 11 (h1 0 16).toNatClampNeg x6) (fun h3 => gIn (h3 0 16) 24 (mlet (wr h3 12 (h3 0 16).toNatClampNeg x3) (fun h5 => gIn (h5 0 16) 24 (mlet (wr h5 13 (h5 0 16).toNatClampNeg x4) (fun h7 => gIn (h7 0 16) 24 (mlet (wr h7 14 (h7 0 16).toNatClampNeg (0 : Int32)) (fun h9 => mX11_lays_187 k7 k15 FU x1 x2 x3 x6 (0 : Int32) h9))))))))))
set_option maxRecDepth 4000 in
theorem wX11_lays_132 {p : Program} {l : Launch} {e : Env} {s : State} {m : MethodId} {args : Array Value} {below : List Frame} {meth : Method} {c : Code} {D : va_G} {ad : Nat → Nat} {ac : Nat → ClassId} {h' : Mm} (X : Fx p s m args meth c cX11_lays 8 RX11 none D ad ac LM []) {k7 : Int32 → Mm → Option Mm} {k15 : Int32 → Int32 → Mm → Option Mm} (ih7 : ∀ (x1 : Int32) (h : Mm) (H : Heap) (locs : List Loc) (ls : Array Slot), k7 x1 h = some h' → Hp D ad ac LM h s H locs → lv_has ls 8 [(0, .ref (ad 0)), (1, .int x1)] → W p l e (rmD 1) s m args below meth c H locs 0 0 (MQ below (QU D ad ac LM none h' s.heap.size) args s 0 0 (Aa ad LM.length s.heap.size)) (F0 m 7 ls [])) (ih15 : ∀ (x1 : Int32) (x2 : Int32) (h : Mm) (H : Heap) (locs : List Loc) (ls : Array Slot), k15 x1 x2 h = some h' → Hp D ad ac LM h s H locs → lv_has ls 8 [(0, .ref (ad 0)), (1, .int x1), (2, .int x2)] → W p l e (rmD 1) s m args below meth c H locs 0 0 (MQ below (QU D ad ac LM none h' s.heap.size) args s 0 0 (Aa ad LM.length s.heap.size)) (F0 m 15 ls [])) : ∀ (x1 : Int32) (x2 : Int32) (x3 : Int32) (x4 : Int32) (x6 : Int32) (h : Mm) (H : Heap) (locs : List Loc) (ls : Array Slot), mX11_lays_132 k7 k15 x1 x2 x3 x4 x6 h = some h' → Hp D ad ac LM h s H locs → lv_has ls 8 [(0, .ref (ad 0)), (1, .int x1), (2, .int x2), (3, .int x3), (4, .int x4), (6, .int x6)] → W p l e (rmD 1) s m args below meth c H locs 0 0 (MQ below (QU D ad ac LM none h' s.heap.size) args s 0 0 (Aa ad LM.length s.heap.size)) (F0 m 132 ls []) := by
  obtain ⟨hx, hb, hml, hown, hts, hr, hlk, hC, hI, hR⟩ := id X
  intro x1 x2 x3 x4 x6 h H locs ls hm hH hl
  rw [mX11_lays_132] at hm
  refine lv_aload_n hx hb dX11_lays_132 rfl (lv_at hl 0 rfl) ?_
  refine gR X hH fl_X11_37 lM_0 rfl dX11_lays_133 ?_
  refine lv_aload_n hx hb dX11_lays_136 rfl (lv_at hl 0 rfl) ?_
  refine gI X hH fl_X11_124 lM_0 rfl dX11_lays_137 ?_
  refine lv_iload_n hx hb dX11_lays_140 rfl (lv_at hl 1 rfl) ?_
  obtain ⟨hin2, hm⟩ := gIn_some hm
  obtain ⟨h1, eh1, hm⟩ := mlet_some hm
  refine ist X hH lM_10 hin2 dX11_lays_141 (fun H locs hH => ?_)
  rw [← eh1] at hH
  refine lv_aload_n hx hb dX11_lays_142 rfl (lv_at hl 0 rfl) ?_
  refine gR X hH fl_X11_40 lM_0 rfl dX11_lays_143 ?_
  refine lv_aload_n hx hb dX11_lays_146 rfl (lv_at hl 0 rfl) ?_
  refine gI X hH fl_X11_124 lM_0 rfl dX11_lays_147 ?_
  refine lv_iload hx hb dX11_lays_150 (lv_at hl 5 rfl) ?_
  obtain ⟨hin4, hm⟩ := gIn_some hm
  obtain ⟨h3, eh3, hm⟩ := mlet_some hm
  refine ist X hH lM_11 hin4 dX11_lays_152 (fun H locs hH => ?_)
  rw [← eh3] at hH
  refine lv_aload_n hx hb dX11_lays_153 rfl (lv_at hl 0 rfl) ?_
  refine gR X hH fl_X11_43 lM_0 rfl dX11_lays_154 ?_
  refine lv_aload_n hx hb dX11_lays_157 rfl (lv_at hl 0 rfl) ?_
  refine gI X hH fl_X11_124 lM_0 rfl dX11_lays_158 ?_
  refine lv_iload_n hx hb dX11_lays_161 rfl (lv_at hl 3 rfl) ?_
  obtain ⟨hin6, hm⟩ := gIn_some hm
  obtain ⟨h5, eh5, hm⟩ := mlet_some hm
  refine ist X hH lM_12 hin6 dX11_lays_162 (fun H locs hH => ?_)
  rw [← eh5] at hH
  refine lv_aload_n hx hb dX11_lays_163 rfl (lv_at hl 0 rfl) ?_
  refine gR X hH fl_X11_46 lM_0 rfl dX11_lays_164 ?_
  refine lv_aload_n hx hb dX11_lays_167 rfl (lv_at hl 0 rfl) ?_
  refine gI X hH fl_X11_124 lM_0 rfl dX11_lays_168 ?_
  refine lv_iload hx hb dX11_lays_171 (lv_at hl 4 rfl) ?_
  obtain ⟨hin8, hm⟩ := gIn_some hm
  obtain ⟨h7, eh7, hm⟩ := mlet_some hm
  refine ist X hH lM_13 hin8 dX11_lays_173 (fun H locs hH => ?_)
  rw [← eh7] at hH
  refine lv_aload_n hx hb dX11_lays_174 rfl (lv_at hl 0 rfl) ?_
  refine gR X hH fl_X11_49 lM_0 rfl dX11_lays_175 ?_
  refine lv_aload_n hx hb dX11_lays_178 rfl (lv_at hl 0 rfl) ?_
  refine gI X hH fl_X11_124 lM_0 rfl dX11_lays_179 ?_
  refine lv_iconst (v := 0) hx hb dX11_lays_182 (by decide) ?_
  obtain ⟨hin10, hm⟩ := gIn_some hm
  obtain ⟨h9, eh9, hm⟩ := mlet_some hm
  refine ist X hH lM_14 hin10 dX11_lays_183 (fun H locs hH => ?_)
  rw [← eh9] at hH
  refine lv_iconst (v := 0) hx hb dX11_lays_184 (by decide) ?_
  refine lv_istore (lv' := [(7, .int (0 : Int32)), (0, .ref (ad 0)), (1, .int x1), (2, .int x2), (3, .int x3), (4, .int x4), (6, .int x6)]) hx hb dX11_lays_185 hl (by decide) rfl (fun ls hl => ?_)
  exact wX11_lays_187 X ih7 ih15 FU x1 x2 x3 x6 (0 : Int32) h9 _ _ _ hm hH (lv_sub hl [1, 2, 3, 4, 6, 0] rfl)
def mX11_lays_103 (k7 : Int32 → Mm → Option Mm) (k15 : Int32 → Int32 → Mm → Option Mm) : Nat → Int32 → Int32 → Int32 → Int32 → Int32 → Mm → Option Mm
  | 0, _, _, _, _, _, _ => none
  | n + 1, x1, x2, x3, x4, x6, h => if (60 : Int32) ≤ (x6 + (1 : Int32)) then (mX11_lays_132 k7 k15 x1 x2 x3 x4 x6 h) else (bd1 (mX11_sees h x3 x4 (x6 + (1 : Int32))) (fun v1 => if v1 = 0 then (mX11_lays_132 k7 k15 x1 x2 x3 x4 x6 h) else (mX11_lays_103 k7 k15 n x1 x2 x3 x4 (x6 + 1) h)))
set_option maxRecDepth 4000 in
theorem wX11_lays_103 {p : Program} {l : Launch} {e : Env} {s : State} {m : MethodId} {args : Array Value} {below : List Frame} {meth : Method} {c : Code} {D : va_G} {ad : Nat → Nat} {ac : Nat → ClassId} {h' : Mm} (X : Fx p s m args meth c cX11_lays 8 RX11 none D ad ac LM []) {k7 : Int32 → Mm → Option Mm} {k15 : Int32 → Int32 → Mm → Option Mm} (ih7 : ∀ (x1 : Int32) (h : Mm) (H : Heap) (locs : List Loc) (ls : Array Slot), k7 x1 h = some h' → Hp D ad ac LM h s H locs → lv_has ls 8 [(0, .ref (ad 0)), (1, .int x1)] → W p l e (rmD 1) s m args below meth c H locs 0 0 (MQ below (QU D ad ac LM none h' s.heap.size) args s 0 0 (Aa ad LM.length s.heap.size)) (F0 m 7 ls [])) (ih15 : ∀ (x1 : Int32) (x2 : Int32) (h : Mm) (H : Heap) (locs : List Loc) (ls : Array Slot), k15 x1 x2 h = some h' → Hp D ad ac LM h s H locs → lv_has ls 8 [(0, .ref (ad 0)), (1, .int x1), (2, .int x2)] → W p l e (rmD 1) s m args below meth c H locs 0 0 (MQ below (QU D ad ac LM none h' s.heap.size) args s 0 0 (Aa ad LM.length s.heap.size)) (F0 m 15 ls [])) : ∀ (n : Nat) (x1 : Int32) (x2 : Int32) (x3 : Int32) (x4 : Int32) (x6 : Int32) (h : Mm) (H : Heap) (locs : List Loc) (ls : Array Slot), mX11_lays_103 k7 k15 n x1 x2 x3 x4 x6 h = some h' → Hp D ad ac LM h s H locs → lv_has ls 8 [(0, .ref (ad 0)), (1, .int x1), (2, .int x2), (3, .int x3), (4, .int x4), (6, .int x6)] → W p l e (rmD 1) s m args below meth c H locs 0 0 (MQ below (QU D ad ac LM none h' s.heap.size) args s 0 0 (Aa ad LM.length s.heap.size)) (F0 m 103 ls []) := by
  obtain ⟨hx, hb, hml, hown, hts, hr, hlk, hC, hI, hR⟩ := id X
  intro n
  induction n with
  | zero => intro x1 x2 x3 x4 x6 h H locs ls hm; rw [mX11_lays_103] at hm; cases hm
  | succ n ih =>
    intro x1 x2 x3 x4 x6 h H locs ls hm hH hl
    rw [mX11_lays_103] at hm
    refine lv_iload hx hb dX11_lays_103 (lv_at hl 5 rfl) ?_
    refine lv_iconst (v := 1) hx hb dX11_lays_105 (by decide) ?_
    refine lv_iadd hx hb dX11_lays_106 ?_
    refine lv_bipush (v := 60) hx hb dX11_lays_107 (by decide) ?_
    refine lv_icmp_ge hx hb dX11_lays_109 (tgt := 132) (by decide) (fun hc => ?_) (fun hc => ?_)
    · rw [if_pos hc] at hm
      exact wX11_lays_132 X ih7 ih15 x1 x2 x3 x4 x6 h _ _ _ hm hH (lv_sub hl [0, 1, 2, 3, 4, 5] rfl)
    · rw [if_neg hc] at hm
      refine lv_aload_n hx hb dX11_lays_112 rfl (lv_at hl 0 rfl) ?_
      refine lv_iload_n hx hb dX11_lays_113 rfl (lv_at hl 3 rfl) ?_
      refine lv_iload hx hb dX11_lays_114 (lv_at hl 4 rfl) ?_
      refine lv_iload hx hb dX11_lays_116 (lv_at hl 5 rfl) ?_
      refine lv_iconst (v := 1) hx hb dX11_lays_118 (by decide) ?_
      refine lv_iadd hx hb dX11_lays_119 ?_
      obtain ⟨v1, hq, hm⟩ := bd1_some hm
      refine cVi X hH kl_X11_127 kv_X11_sees (mt_X11_sees hq) lM_0 rfl rfl (by decide) hl.1 rfl (Nat.le_of_ble_eq_true rfl) dX11_lays_120 (fun H locs hH => ?_)
      refine lv_if_eq hx hb dX11_lays_123 (tgt := 132) (by decide) (fun hc => ?_) (fun hc => ?_)
      · rw [if_pos hc] at hm
        exact wX11_lays_132 X ih7 ih15 x1 x2 x3 x4 x6 h _ _ _ hm hH (lv_sub hl [0, 1, 2, 3, 4, 5] rfl)
      · rw [if_neg hc] at hm
        refine lv_iinc (k := 5) (v := (x6 + 1)) (lv' := [(6, .int (x6 + 1)), (0, .ref (ad 0)), (1, .int x1), (2, .int x2), (3, .int x3), (4, .int x4)]) hx hb dX11_lays_126 hl rfl rfl (by decide) rfl (fun ls hl => ?_)
        refine lv_goto hx hb dX11_lays_129 (tgt := 103) (by decide) ?_
        exact ih x1 x2 x3 x4 (x6 + 1) h _ _ _ hm hH (lv_sub hl [1, 2, 3, 4, 5, 0] rfl)
def mX11_lays_84 (k7 : Int32 → Mm → Option Mm) (k15 : Int32 → Int32 → Mm → Option Mm) (x1 : Int32) (x2 : Int32) (x3 : Int32) (x4 : Int32) (t0 : Int32) (h : Mm) : Option Mm := if t0 = 0 then (mX11_lays_237 k7 k15 x1 x2 h) else (if (24 : Int32) ≤ (h 0 16) then (mX11_lays_237 k7 k15 x1 x2 h) else (mX11_lays_103 k7 k15 FU x1 x2 x3 x4 x1 h))
set_option maxRecDepth 4000 in
theorem wX11_lays_84 {p : Program} {l : Launch} {e : Env} {s : State} {m : MethodId} {args : Array Value} {below : List Frame} {meth : Method} {c : Code} {D : va_G} {ad : Nat → Nat} {ac : Nat → ClassId} {h' : Mm} (X : Fx p s m args meth c cX11_lays 8 RX11 none D ad ac LM []) {k7 : Int32 → Mm → Option Mm} {k15 : Int32 → Int32 → Mm → Option Mm} (ih7 : ∀ (x1 : Int32) (h : Mm) (H : Heap) (locs : List Loc) (ls : Array Slot), k7 x1 h = some h' → Hp D ad ac LM h s H locs → lv_has ls 8 [(0, .ref (ad 0)), (1, .int x1)] → W p l e (rmD 1) s m args below meth c H locs 0 0 (MQ below (QU D ad ac LM none h' s.heap.size) args s 0 0 (Aa ad LM.length s.heap.size)) (F0 m 7 ls [])) (ih15 : ∀ (x1 : Int32) (x2 : Int32) (h : Mm) (H : Heap) (locs : List Loc) (ls : Array Slot), k15 x1 x2 h = some h' → Hp D ad ac LM h s H locs → lv_has ls 8 [(0, .ref (ad 0)), (1, .int x1), (2, .int x2)] → W p l e (rmD 1) s m args below meth c H locs 0 0 (MQ below (QU D ad ac LM none h' s.heap.size) args s 0 0 (Aa ad LM.length s.heap.size)) (F0 m 15 ls [])) : ∀ (x1 : Int32) (x2 : Int32) (x3 : Int32) (x4 : Int32) (t0 : Int32) (h : Mm) (H : Heap) (locs : List Loc) (ls : Array Slot), mX11_lays_84 k7 k15 x1 x2 x3 x4 t0 h = some h' → Hp D ad ac LM h s H locs → lv_has ls 8 [(0, .ref (ad 0)), (1, .int x1), (2, .int x2), (3, .int x3), (4, .int x4)] → W p l e (rmD 1) s m args below meth c H locs 0 0 (MQ below (QU D ad ac LM none h' s.heap.size) args s 0 0 (Aa ad LM.length s.heap.size)) (F0 m 84 ls [.int t0]) := by
  obtain ⟨hx, hb, hml, hown, hts, hr, hlk, hC, hI, hR⟩ := id X
  intro x1 x2 x3 x4 t0 h H locs ls hm hH hl
  rw [mX11_lays_84] at hm
  refine lv_istore (lv' := [(5, .int t0), (0, .ref (ad 0)), (1, .int x1), (2, .int x2), (3, .int x3), (4, .int x4)]) hx hb dX11_lays_84 hl (by decide) rfl (fun ls hl => ?_)
  refine lv_iload hx hb dX11_lays_86 (lv_at hl 0 rfl) ?_
  refine lv_if_eq hx hb dX11_lays_88 (tgt := 237) (by decide) (fun hc => ?_) (fun hc => ?_)
  · rw [if_pos hc] at hm
    exact wX11_lays_237 X ih7 ih15 x1 x2 h _ _ _ hm hH (lv_sub hl [1, 2, 3] rfl)
  · rw [if_neg hc] at hm
    refine lv_aload_n hx hb dX11_lays_91 rfl (lv_at hl 1 rfl) ?_
    refine gI X hH fl_X11_124 lM_0 rfl dX11_lays_92 ?_
    refine lv_bipush (v := 24) hx hb dX11_lays_95 (by decide) ?_
    refine lv_icmp_ge hx hb dX11_lays_97 (tgt := 237) (by decide) (fun hc => ?_) (fun hc => ?_)
    · rw [if_pos hc] at hm
      exact wX11_lays_237 X ih7 ih15 x1 x2 h _ _ _ hm hH (lv_sub hl [1, 2, 3] rfl)
    · rw [if_neg hc] at hm
      refine lv_iload_n hx hb dX11_lays_100 rfl (lv_at hl 2 rfl) ?_
      refine lv_istore (lv' := [(6, .int x1), (5, .int t0), (0, .ref (ad 0)), (1, .int x1), (2, .int x2), (3, .int x3), (4, .int x4)]) hx hb dX11_lays_101 hl (by decide) rfl (fun ls hl => ?_)
      exact wX11_lays_103 X ih7 ih15 FU x1 x2 x3 x4 x1 h _ _ _ hm hH (lv_sub hl [2, 3, 4, 5, 6, 0] rfl)
def mX11_lays_83 (k7 : Int32 → Mm → Option Mm) (k15 : Int32 → Int32 → Mm → Option Mm) (x1 : Int32) (x2 : Int32) (x3 : Int32) (x4 : Int32) (h : Mm) : Option Mm := mX11_lays_84 k7 k15 x1 x2 x3 x4 (0 : Int32) h
set_option maxRecDepth 4000 in
theorem wX11_lays_83 {p : Program} {l : Launch} {e : Env} {s : State} {m : MethodId} {args : Array Value} {below : List Frame} {meth : Method} {c : Code} {D : va_G} {ad : Nat → Nat} {ac : Nat → ClassId} {h' : Mm} (X : Fx p s m args meth c cX11_lays 8 RX11 none D ad ac LM []) {k7 : Int32 → Mm → Option Mm} {k15 : Int32 → Int32 → Mm → Option Mm} (ih7 : ∀ (x1 : Int32) (h : Mm) (H : Heap) (locs : List Loc) (ls : Array Slot), k7 x1 h = some h' → Hp D ad ac LM h s H locs → lv_has ls 8 [(0, .ref (ad 0)), (1, .int x1)] → W p l e (rmD 1) s m args below meth c H locs 0 0 (MQ below (QU D ad ac LM none h' s.heap.size) args s 0 0 (Aa ad LM.length s.heap.size)) (F0 m 7 ls [])) (ih15 : ∀ (x1 : Int32) (x2 : Int32) (h : Mm) (H : Heap) (locs : List Loc) (ls : Array Slot), k15 x1 x2 h = some h' → Hp D ad ac LM h s H locs → lv_has ls 8 [(0, .ref (ad 0)), (1, .int x1), (2, .int x2)] → W p l e (rmD 1) s m args below meth c H locs 0 0 (MQ below (QU D ad ac LM none h' s.heap.size) args s 0 0 (Aa ad LM.length s.heap.size)) (F0 m 15 ls [])) : ∀ (x1 : Int32) (x2 : Int32) (x3 : Int32) (x4 : Int32) (h : Mm) (H : Heap) (locs : List Loc) (ls : Array Slot), mX11_lays_83 k7 k15 x1 x2 x3 x4 h = some h' → Hp D ad ac LM h s H locs → lv_has ls 8 [(0, .ref (ad 0)), (1, .int x1), (2, .int x2), (3, .int x3), (4, .int x4)] → W p l e (rmD 1) s m args below meth c H locs 0 0 (MQ below (QU D ad ac LM none h' s.heap.size) args s 0 0 (Aa ad LM.length s.heap.size)) (F0 m 83 ls []) := by
  obtain ⟨hx, hb, hml, hown, hts, hr, hlk, hC, hI, hR⟩ := id X
  intro x1 x2 x3 x4 h H locs ls hm hH hl
  rw [mX11_lays_83] at hm
  refine lv_iconst (v := 0) hx hb dX11_lays_83 (by decide) ?_
  exact wX11_lays_84 X ih7 ih15 x1 x2 x3 x4 (0 : Int32) h _ _ _ hm hH (lv_sub hl [0, 1, 2, 3, 4] rfl)
def mX11_lays_79 (k7 : Int32 → Mm → Option Mm) (k15 : Int32 → Int32 → Mm → Option Mm) (x1 : Int32) (x2 : Int32) (x3 : Int32) (x4 : Int32) (h : Mm) : Option Mm := mX11_lays_84 k7 k15 x1 x2 x3 x4 (1 : Int32) h
set_option maxRecDepth 4000 in
theorem wX11_lays_79 {p : Program} {l : Launch} {e : Env} {s : State} {m : MethodId} {args : Array Value} {below : List Frame} {meth : Method} {c : Code} {D : va_G} {ad : Nat → Nat} {ac : Nat → ClassId} {h' : Mm} (X : Fx p s m args meth c cX11_lays 8 RX11 none D ad ac LM []) {k7 : Int32 → Mm → Option Mm} {k15 : Int32 → Int32 → Mm → Option Mm} (ih7 : ∀ (x1 : Int32) (h : Mm) (H : Heap) (locs : List Loc) (ls : Array Slot), k7 x1 h = some h' → Hp D ad ac LM h s H locs → lv_has ls 8 [(0, .ref (ad 0)), (1, .int x1)] → W p l e (rmD 1) s m args below meth c H locs 0 0 (MQ below (QU D ad ac LM none h' s.heap.size) args s 0 0 (Aa ad LM.length s.heap.size)) (F0 m 7 ls [])) (ih15 : ∀ (x1 : Int32) (x2 : Int32) (h : Mm) (H : Heap) (locs : List Loc) (ls : Array Slot), k15 x1 x2 h = some h' → Hp D ad ac LM h s H locs → lv_has ls 8 [(0, .ref (ad 0)), (1, .int x1), (2, .int x2)] → W p l e (rmD 1) s m args below meth c H locs 0 0 (MQ below (QU D ad ac LM none h' s.heap.size) args s 0 0 (Aa ad LM.length s.heap.size)) (F0 m 15 ls [])) : ∀ (x1 : Int32) (x2 : Int32) (x3 : Int32) (x4 : Int32) (h : Mm) (H : Heap) (locs : List Loc) (ls : Array Slot), mX11_lays_79 k7 k15 x1 x2 x3 x4 h = some h' → Hp D ad ac LM h s H locs → lv_has ls 8 [(0, .ref (ad 0)), (1, .int x1), (2, .int x2), (3, .int x3), (4, .int x4)] → W p l e (rmD 1) s m args below meth c H locs 0 0 (MQ below (QU D ad ac LM none h' s.heap.size) args s 0 0 (Aa ad LM.length s.heap.size)) (F0 m 79 ls []) := by
  obtain ⟨hx, hb, hml, hown, hts, hr, hlk, hC, hI, hR⟩ := id X
  intro x1 x2 x3 x4 h H locs ls hm hH hl
  rw [mX11_lays_79] at hm
  refine lv_iconst (v := 1) hx hb dX11_lays_79 (by decide) ?_
  refine lv_goto hx hb dX11_lays_80 (tgt := 84) (by decide) ?_
  exact wX11_lays_84 X ih7 ih15 x1 x2 x3 x4 (1 : Int32) h _ _ _ hm hH (lv_sub hl [0, 1, 2, 3, 4] rfl)
def mX11_lays_15 (k7 : Int32 → Mm → Option Mm) : Nat → Int32 → Int32 → Mm → Option Mm
  | 0, _, _, _ => none
  | n + 1, x1, x2, h => gIn (0 : Int32) 3 (gIn (1 : Int32) 3 (if ((h 5 (0 : Int32).toNatClampNeg) * (h 5 (1 : Int32).toNatClampNeg)) ≤ x2 then (k7 (x1 + 1) h) else (gIn (1 : Int32) 3 (gNz (h 5 (1 : Int32).toNatClampNeg) (mlet (x2 / (h 5 (1 : Int32).toNatClampNeg)) (fun u4 => gIn (1 : Int32) 3 (gNz (h 5 (1 : Int32).toNatClampNeg) (mlet (x2 - x2 / (h 5 (1 : Int32).toNatClampNeg) * (h 5 (1 : Int32).toNatClampNeg)) (fun u6 => bd1 (mX11_sees h u4 u6 x1) (fun v7 => if v7 = 0 then (mX11_lays_83 k7 (mX11_lays_15 k7 n) x1 x2 u4 u6 h) else (if x1 = 0 then (mX11_lays_79 k7 (mX11_lays_15 k7 n) x1 x2 u4 u6 h) else (bd1 (mX11_sees h u4 u6 (x1 - (1 : Int32))) (fun v8 => if v8 = 0 then (mX11_lays_79 k7 (mX11_lays_15 k7 n) x1 x2 u4 u6 h) else (mX11_lays_83 k7 (mX11_lays_15 k7 n) x1 x2 u4 u6 h))))))))))))))
set_option maxRecDepth 4000 in
theorem wX11_lays_15 {p : Program} {l : Launch} {e : Env} {s : State} {m : MethodId} {args : Array Value} {below : List Frame} {meth : Method} {c : Code} {D : va_G} {ad : Nat → Nat} {ac : Nat → ClassId} {h' : Mm} (X : Fx p s m args meth c cX11_lays 8 RX11 none D ad ac LM []) {k7 : Int32 → Mm → Option Mm} (ih7 : ∀ (x1 : Int32) (h : Mm) (H : Heap) (locs : List Loc) (ls : Array Slot), k7 x1 h = some h' → Hp D ad ac LM h s H locs → lv_has ls 8 [(0, .ref (ad 0)), (1, .int x1)] → W p l e (rmD 1) s m args below meth c H locs 0 0 (MQ below (QU D ad ac LM none h' s.heap.size) args s 0 0 (Aa ad LM.length s.heap.size)) (F0 m 7 ls [])) : ∀ (n : Nat) (x1 : Int32) (x2 : Int32) (h : Mm) (H : Heap) (locs : List Loc) (ls : Array Slot), mX11_lays_15 k7 n x1 x2 h = some h' → Hp D ad ac LM h s H locs → lv_has ls 8 [(0, .ref (ad 0)), (1, .int x1), (2, .int x2)] → W p l e (rmD 1) s m args below meth c H locs 0 0 (MQ below (QU D ad ac LM none h' s.heap.size) args s 0 0 (Aa ad LM.length s.heap.size)) (F0 m 15 ls []) := by
  obtain ⟨hx, hb, hml, hown, hts, hr, hlk, hC, hI, hR⟩ := id X
  intro n
  induction n with
  | zero => intro x1 x2 h H locs ls hm; rw [mX11_lays_15] at hm; cases hm
  | succ n ih =>
    intro x1 x2 h H locs ls hm hH hl
    rw [mX11_lays_15] at hm
    refine lv_iload_n hx hb dX11_lays_15 rfl (lv_at hl 2 rfl) ?_
    refine lv_aload_n hx hb dX11_lays_16 rfl (lv_at hl 0 rfl) ?_
    refine gR X hH fl_X11_22 lM_0 rfl dX11_lays_17 ?_
    refine lv_iconst (v := 0) hx hb dX11_lays_20 (by decide) ?_
    obtain ⟨hin1, hm⟩ := gIn_some hm
    refine ild X hH lM_5 hin1 dX11_lays_21 ?_
    refine lv_aload_n hx hb dX11_lays_22 rfl (lv_at hl 0 rfl) ?_
    refine gR X hH fl_X11_22 lM_0 rfl dX11_lays_23 ?_
    refine lv_iconst (v := 1) hx hb dX11_lays_26 (by decide) ?_
    obtain ⟨hin2, hm⟩ := gIn_some hm
    refine ild X hH lM_5 hin2 dX11_lays_27 ?_
    refine lv_imul hx hb dX11_lays_28 ?_
    refine lv_icmp_ge hx hb dX11_lays_29 (tgt := 243) (by decide) (fun hc => ?_) (fun hc => ?_)
    · rw [if_pos hc] at hm
      refine lv_iinc (k := 1) (v := (x1 + 1)) (lv' := [(1, .int (x1 + 1)), (0, .ref (ad 0)), (2, .int x2)]) hx hb dX11_lays_243 hl rfl rfl (by decide) rfl (fun ls hl => ?_)
      refine lv_goto hx hb dX11_lays_246 (tgt := 7) (by decide) ?_
      exact ih7 (x1 + 1) h _ _ _ hm hH (lv_sub hl [1, 0] rfl)
    · rw [if_neg hc] at hm
      refine lv_iload_n hx hb dX11_lays_32 rfl (lv_at hl 2 rfl) ?_
      refine lv_aload_n hx hb dX11_lays_33 rfl (lv_at hl 0 rfl) ?_
      refine gR X hH fl_X11_22 lM_0 rfl dX11_lays_34 ?_
      refine lv_iconst (v := 1) hx hb dX11_lays_37 (by decide) ?_
      obtain ⟨hin3, hm⟩ := gIn_some hm
      refine ild X hH lM_5 hin3 dX11_lays_38 ?_
      obtain ⟨hnz, hm⟩ := gNz_some hm
      refine lv_idiv hx hb dX11_lays_39 hnz ?_
      obtain ⟨u4, eu4, hm⟩ := mlet_some hm
      refine W.eq (g2 := F0 m 40 ls (.int u4 :: [])) (by rw [eu4]) ?_
      refine lv_istore_n (lv' := [(3, .int u4), (0, .ref (ad 0)), (1, .int x1), (2, .int x2)]) hx hb dX11_lays_40 rfl hl (by decide) rfl (fun ls hl => ?_)
      refine lv_iload_n hx hb dX11_lays_41 rfl (lv_at hl 3 rfl) ?_
      refine lv_aload_n hx hb dX11_lays_42 rfl (lv_at hl 1 rfl) ?_
      refine gR X hH fl_X11_22 lM_0 rfl dX11_lays_43 ?_
      refine lv_iconst (v := 1) hx hb dX11_lays_46 (by decide) ?_
      obtain ⟨hin5, hm⟩ := gIn_some hm
      refine ild X hH lM_5 hin5 dX11_lays_47 ?_
      obtain ⟨hnz, hm⟩ := gNz_some hm
      refine lv_irem hx hb dX11_lays_48 hnz ?_
      obtain ⟨u6, eu6, hm⟩ := mlet_some hm
      refine W.eq (g2 := F0 m 49 ls (.int u6 :: [])) (by rw [eu6]) ?_
      refine lv_istore (lv' := [(4, .int u6), (3, .int u4), (0, .ref (ad 0)), (1, .int x1), (2, .int x2)]) hx hb dX11_lays_49 hl (by decide) rfl (fun ls hl => ?_)
      refine lv_aload_n hx hb dX11_lays_51 rfl (lv_at hl 2 rfl) ?_
      refine lv_iload_n hx hb dX11_lays_52 rfl (lv_at hl 1 rfl) ?_
      refine lv_iload hx hb dX11_lays_53 (lv_at hl 0 rfl) ?_
      refine lv_iload_n hx hb dX11_lays_55 rfl (lv_at hl 3 rfl) ?_
      obtain ⟨v7, hq, hm⟩ := bd1_some hm
      refine cVi X hH kl_X11_127 kv_X11_sees (mt_X11_sees hq) lM_0 rfl rfl (by decide) hl.1 rfl (Nat.le_of_ble_eq_true rfl) dX11_lays_56 (fun H locs hH => ?_)
      refine lv_if_eq hx hb dX11_lays_59 (tgt := 83) (by decide) (fun hc => ?_) (fun hc => ?_)
      · rw [if_pos hc] at hm
        exact wX11_lays_83 X ih7 ih x1 x2 u4 u6 h _ _ _ hm hH (lv_sub hl [2, 3, 4, 1, 0] rfl)
      · rw [if_neg hc] at hm
        refine lv_iload_n hx hb dX11_lays_62 rfl (lv_at hl 3 rfl) ?_
        refine lv_if_eq hx hb dX11_lays_63 (tgt := 79) (by decide) (fun hc => ?_) (fun hc => ?_)
        · rw [if_pos hc] at hm
          exact wX11_lays_79 X ih7 ih x1 x2 u4 u6 h _ _ _ hm hH (lv_sub hl [2, 3, 4, 1, 0] rfl)
        · rw [if_neg hc] at hm
          refine lv_aload_n hx hb dX11_lays_66 rfl (lv_at hl 2 rfl) ?_
          refine lv_iload_n hx hb dX11_lays_67 rfl (lv_at hl 1 rfl) ?_
          refine lv_iload hx hb dX11_lays_68 (lv_at hl 0 rfl) ?_
          refine lv_iload_n hx hb dX11_lays_70 rfl (lv_at hl 3 rfl) ?_
          refine lv_iconst (v := 1) hx hb dX11_lays_71 (by decide) ?_
          refine lv_isub hx hb dX11_lays_72 ?_
          obtain ⟨v8, hq, hm⟩ := bd1_some hm
          refine cVi X hH kl_X11_127 kv_X11_sees (mt_X11_sees hq) lM_0 rfl rfl (by decide) hl.1 rfl (Nat.le_of_ble_eq_true rfl) dX11_lays_73 (fun H locs hH => ?_)
          refine lv_if_ne hx hb dX11_lays_76 (tgt := 83) (by decide) (fun hc => ?_) (fun hc => ?_)
          · rw [if_neg hc] at hm
            exact wX11_lays_83 X ih7 ih x1 x2 u4 u6 h _ _ _ hm hH (lv_sub hl [2, 3, 4, 1, 0] rfl)
          · rw [if_pos hc] at hm
            exact wX11_lays_79 X ih7 ih x1 x2 u4 u6 h _ _ _ hm hH (lv_sub hl [2, 3, 4, 1, 0] rfl)
def mX11_lays_7 : Nat → Int32 → Mm → Option Mm
  | 0, _, _ => none
  | n + 1, x1, h => if (60 : Int32) ≤ x1 then (mX11_lays_251 FU (0 : Int32) h) else (mX11_lays_15 (mX11_lays_7 n) FU x1 (0 : Int32) h)
set_option maxRecDepth 4000 in
theorem wX11_lays_7 {p : Program} {l : Launch} {e : Env} {s : State} {m : MethodId} {args : Array Value} {below : List Frame} {meth : Method} {c : Code} {D : va_G} {ad : Nat → Nat} {ac : Nat → ClassId} {h' : Mm} (X : Fx p s m args meth c cX11_lays 8 RX11 none D ad ac LM []) : ∀ (n : Nat) (x1 : Int32) (h : Mm) (H : Heap) (locs : List Loc) (ls : Array Slot), mX11_lays_7 n x1 h = some h' → Hp D ad ac LM h s H locs → lv_has ls 8 [(0, .ref (ad 0)), (1, .int x1)] → W p l e (rmD 1) s m args below meth c H locs 0 0 (MQ below (QU D ad ac LM none h' s.heap.size) args s 0 0 (Aa ad LM.length s.heap.size)) (F0 m 7 ls []) := by
  obtain ⟨hx, hb, hml, hown, hts, hr, hlk, hC, hI, hR⟩ := id X
  intro n
  induction n with
  | zero => intro x1 h H locs ls hm; rw [mX11_lays_7] at hm; cases hm
  | succ n ih =>
    intro x1 h H locs ls hm hH hl
    rw [mX11_lays_7] at hm
    refine lv_iload_n hx hb dX11_lays_7 rfl (lv_at hl 1 rfl) ?_
    refine lv_bipush (v := 60) hx hb dX11_lays_8 (by decide) ?_
    refine lv_icmp_ge hx hb dX11_lays_10 (tgt := 249) (by decide) (fun hc => ?_) (fun hc => ?_)
    · rw [if_pos hc] at hm
      refine lv_iconst (v := 0) hx hb dX11_lays_249 (by decide) ?_
      refine lv_istore_n (lv' := [(1, .int (0 : Int32)), (0, .ref (ad 0))]) hx hb dX11_lays_250 rfl hl (by decide) rfl (fun ls hl => ?_)
      exact wX11_lays_251 X FU (0 : Int32) h _ _ _ hm hH (lv_sub hl [1, 0] rfl)
    · rw [if_neg hc] at hm
      refine lv_iconst (v := 0) hx hb dX11_lays_13 (by decide) ?_
      refine lv_istore_n (lv' := [(2, .int (0 : Int32)), (0, .ref (ad 0)), (1, .int x1)]) hx hb dX11_lays_14 rfl hl (by decide) rfl (fun ls hl => ?_)
      exact wX11_lays_15 X ih FU x1 (0 : Int32) h _ _ _ hm hH (lv_sub hl [1, 2, 0] rfl)
def mX11_lays (h : Mm) : Option Mm := mlet (wr h 0 16 (0 : Int32)) (fun h1 => mX11_lays_7 FU (0 : Int32) h1)
set_option maxRecDepth 4000 in
theorem mt_X11_lays {l : Launch} {D : va_G} {ad : Nat → Nat} {ac : Nat → ClassId} {h : Mm} {h' : Mm} (hm : mX11_lays h = some h') : Mt l D ad ac LM [] yX11_lays cX11_lays 8 none 1 [.ref (ad 0)] h none h' := by
  refine Mt.of (own := RX11) (by decide) rfl (Nat.le_of_ble_eq_true rfl) ?_
  intro p e s m below meth c ls X hH hl
  obtain ⟨hx, hb, hml, hown, hts, hr, hlk, hC, hI, hR⟩ := id X
  have hl : lv_has ls 8 [(0, .ref (ad 0))] := hl
  rw [mX11_lays] at hm
  refine lv_aload_n hx hb dX11_lays_0 rfl (lv_at hl 0 rfl) ?_
  refine lv_iconst (v := 0) hx hb dX11_lays_1 (by decide) ?_
  obtain ⟨h1, eh1, hm⟩ := mlet_some hm
  refine pI X hH fl_X11_124 fw_11_16 lM_0 rfl dX11_lays_2 (fun H locs hH => ?_)
  rw [← eh1] at hH
  refine lv_iconst (v := 0) hx hb dX11_lays_5 (by decide) ?_
  refine lv_istore_n (lv' := [(1, .int (0 : Int32)), (0, .ref (ad 0))]) hx hb dX11_lays_6 rfl hl (by decide) rfl (fun ls hl => ?_)
  exact wX11_lays_7 X FU (0 : Int32) h1 _ _ _ hm hH (lv_sub hl [1, 0] rfl)
/-! X11_lay -/
def mX11_lay_92 : Nat → Int32 → Mm → Option (Int32 × Mm)
  | 0, _, _ => none
  | n + 1, x1, h => if (3 : Int32) ≤ x1 then (bdh (mX11_lays h) (fun h1 => some ((h1 0 16), h1))) else (gIn x1 3 (gIn x1 3 (mlet (wr h 5 x1.toNatClampNeg (h 9 x1.toNatClampNeg)) (fun h3 => mX11_lay_92 n (x1 + 1) h3))))
set_option maxRecDepth 4000 in
theorem wX11_lay_92 {p : Program} {l : Launch} {e : Env} {s : State} {m : MethodId} {args : Array Value} {below : List Frame} {meth : Method} {c : Code} {D : va_G} {ad : Nat → Nat} {ac : Nat → ClassId} {r : Int32} {h' : Mm} (X : Fx p s m args meth c cX11_lay 2 RX11 (some .int) D ad ac LM []) : ∀ (n : Nat) (x1 : Int32) (h : Mm) (H : Heap) (locs : List Loc) (ls : Array Slot), mX11_lay_92 n x1 h = some (r, h') → Hp D ad ac LM h s H locs → lv_has ls 2 [(0, .ref (ad 0)), (1, .int x1)] → W p l e (rmD 4) s m args below meth c H locs 0 0 (MQ below (QU D ad ac LM (some (.int r)) h' s.heap.size) args s 0 0 (Aa ad LM.length s.heap.size)) (F0 m 92 ls []) := by
  obtain ⟨hx, hb, hml, hown, hts, hr, hlk, hC, hI, hR⟩ := id X
  intro n
  induction n with
  | zero => intro x1 h H locs ls hm; rw [mX11_lay_92] at hm; cases hm
  | succ n ih =>
    intro x1 h H locs ls hm hH hl
    rw [mX11_lay_92] at hm
    refine lv_iload_n hx hb dX11_lay_92 rfl (lv_at hl 1 rfl) ?_
    refine lv_iconst (v := 3) hx hb dX11_lay_93 (by decide) ?_
    refine lv_icmp_ge hx hb dX11_lay_94 (tgt := 115) (by decide) (fun hc => ?_) (fun hc => ?_)
    · rw [if_pos hc] at hm
      refine lv_aload_n hx hb dX11_lay_115 rfl (lv_at hl 0 rfl) ?_
      obtain ⟨h1, hq, hm⟩ := bdh_some hm
      refine cVv X hH kl_X11_86 kv_X11_lays (mt_X11_lays hq) lM_0 rfl rfl (by decide) hl.1 rfl (Nat.le_of_ble_eq_true rfl) dX11_lay_116 (fun H locs hH => ?_)
      refine lv_aload_n hx hb dX11_lay_119 rfl (lv_at hl 0 rfl) ?_
      refine gI X hH fl_X11_124 lM_0 rfl dX11_lay_120 ?_
      cases hm
      exact retI X hH dX11_lay_123
    · rw [if_neg hc] at hm
      refine lv_aload_n hx hb dX11_lay_97 rfl (lv_at hl 0 rfl) ?_
      refine gR X hH fl_X11_22 lM_0 rfl dX11_lay_98 ?_
      refine lv_iload_n hx hb dX11_lay_101 rfl (lv_at hl 1 rfl) ?_
      refine lv_aload_n hx hb dX11_lay_102 rfl (lv_at hl 0 rfl) ?_
      refine gR X hH fl_X11_34 lM_0 rfl dX11_lay_103 ?_
      refine lv_iload_n hx hb dX11_lay_106 rfl (lv_at hl 1 rfl) ?_
      obtain ⟨hin2, hm⟩ := gIn_some hm
      refine ild X hH lM_9 hin2 dX11_lay_107 ?_
      obtain ⟨hin4, hm⟩ := gIn_some hm
      obtain ⟨h3, eh3, hm⟩ := mlet_some hm
      refine ist X hH lM_5 hin4 dX11_lay_108 (fun H locs hH => ?_)
      rw [← eh3] at hH
      refine lv_iinc (k := 1) (v := (x1 + 1)) (lv' := [(1, .int (x1 + 1)), (0, .ref (ad 0))]) hx hb dX11_lay_109 hl rfl rfl (by decide) rfl (fun ls hl => ?_)
      refine lv_goto hx hb dX11_lay_112 (tgt := 92) (by decide) ?_
      exact ih (x1 + 1) h3 _ _ _ hm hH (lv_sub hl [1, 0] rfl)
def mX11_lay_66 : Nat → Int32 → Mm → Option (Int32 × Mm)
  | 0, _, _ => none
  | n + 1, x1, h => if (12 : Int32) ≤ x1 then (mX11_lay_92 FU (0 : Int32) h) else (gIn x1 12 (gIn x1 12 (mlet (wr h 4 x1.toNatClampNeg (h 8 x1.toNatClampNeg)) (fun h2 => mX11_lay_66 n (x1 + 1) h2))))
set_option maxRecDepth 4000 in
theorem wX11_lay_66 {p : Program} {l : Launch} {e : Env} {s : State} {m : MethodId} {args : Array Value} {below : List Frame} {meth : Method} {c : Code} {D : va_G} {ad : Nat → Nat} {ac : Nat → ClassId} {r : Int32} {h' : Mm} (X : Fx p s m args meth c cX11_lay 2 RX11 (some .int) D ad ac LM []) : ∀ (n : Nat) (x1 : Int32) (h : Mm) (H : Heap) (locs : List Loc) (ls : Array Slot), mX11_lay_66 n x1 h = some (r, h') → Hp D ad ac LM h s H locs → lv_has ls 2 [(0, .ref (ad 0)), (1, .int x1)] → W p l e (rmD 4) s m args below meth c H locs 0 0 (MQ below (QU D ad ac LM (some (.int r)) h' s.heap.size) args s 0 0 (Aa ad LM.length s.heap.size)) (F0 m 66 ls []) := by
  obtain ⟨hx, hb, hml, hown, hts, hr, hlk, hC, hI, hR⟩ := id X
  intro n
  induction n with
  | zero => intro x1 h H locs ls hm; rw [mX11_lay_66] at hm; cases hm
  | succ n ih =>
    intro x1 h H locs ls hm hH hl
    rw [mX11_lay_66] at hm
    refine lv_iload_n hx hb dX11_lay_66 rfl (lv_at hl 1 rfl) ?_
    refine lv_bipush (v := 12) hx hb dX11_lay_67 (by decide) ?_
    refine lv_icmp_ge hx hb dX11_lay_69 (tgt := 90) (by decide) (fun hc => ?_) (fun hc => ?_)
    · rw [if_pos hc] at hm
      refine lv_iconst (v := 0) hx hb dX11_lay_90 (by decide) ?_
      refine lv_istore_n (lv' := [(1, .int (0 : Int32)), (0, .ref (ad 0))]) hx hb dX11_lay_91 rfl hl (by decide) rfl (fun ls hl => ?_)
      exact wX11_lay_92 X FU (0 : Int32) h _ _ _ hm hH (lv_sub hl [1, 0] rfl)
    · rw [if_neg hc] at hm
      refine lv_aload_n hx hb dX11_lay_72 rfl (lv_at hl 0 rfl) ?_
      refine gR X hH fl_X11_19 lM_0 rfl dX11_lay_73 ?_
      refine lv_iload_n hx hb dX11_lay_76 rfl (lv_at hl 1 rfl) ?_
      refine lv_aload_n hx hb dX11_lay_77 rfl (lv_at hl 0 rfl) ?_
      refine gR X hH fl_X11_31 lM_0 rfl dX11_lay_78 ?_
      refine lv_iload_n hx hb dX11_lay_81 rfl (lv_at hl 1 rfl) ?_
      obtain ⟨hin1, hm⟩ := gIn_some hm
      refine ild X hH lM_8 hin1 dX11_lay_82 ?_
      obtain ⟨hin3, hm⟩ := gIn_some hm
      obtain ⟨h2, eh2, hm⟩ := mlet_some hm
      refine ist X hH lM_4 hin3 dX11_lay_83 (fun H locs hH => ?_)
      rw [← eh2] at hH
      refine lv_iinc (k := 1) (v := (x1 + 1)) (lv' := [(1, .int (x1 + 1)), (0, .ref (ad 0))]) hx hb dX11_lay_84 hl rfl rfl (by decide) rfl (fun ls hl => ?_)
      refine lv_goto hx hb dX11_lay_87 (tgt := 66) (by decide) ?_
      exact ih (x1 + 1) h2 _ _ _ hm hH (lv_sub hl [1, 0] rfl)
def mX11_lay_40 : Nat → Int32 → Mm → Option (Int32 × Mm)
  | 0, _, _ => none
  | n + 1, x1, h => if (6 : Int32) ≤ x1 then (mX11_lay_66 FU (0 : Int32) h) else (gIn x1 6 (gIn x1 6 (mlet (wr h 3 x1.toNatClampNeg (h 7 x1.toNatClampNeg)) (fun h2 => mX11_lay_40 n (x1 + 1) h2))))
set_option maxRecDepth 4000 in
theorem wX11_lay_40 {p : Program} {l : Launch} {e : Env} {s : State} {m : MethodId} {args : Array Value} {below : List Frame} {meth : Method} {c : Code} {D : va_G} {ad : Nat → Nat} {ac : Nat → ClassId} {r : Int32} {h' : Mm} (X : Fx p s m args meth c cX11_lay 2 RX11 (some .int) D ad ac LM []) : ∀ (n : Nat) (x1 : Int32) (h : Mm) (H : Heap) (locs : List Loc) (ls : Array Slot), mX11_lay_40 n x1 h = some (r, h') → Hp D ad ac LM h s H locs → lv_has ls 2 [(0, .ref (ad 0)), (1, .int x1)] → W p l e (rmD 4) s m args below meth c H locs 0 0 (MQ below (QU D ad ac LM (some (.int r)) h' s.heap.size) args s 0 0 (Aa ad LM.length s.heap.size)) (F0 m 40 ls []) := by
  obtain ⟨hx, hb, hml, hown, hts, hr, hlk, hC, hI, hR⟩ := id X
  intro n
  induction n with
  | zero => intro x1 h H locs ls hm; rw [mX11_lay_40] at hm; cases hm
  | succ n ih =>
    intro x1 h H locs ls hm hH hl
    rw [mX11_lay_40] at hm
    refine lv_iload_n hx hb dX11_lay_40 rfl (lv_at hl 1 rfl) ?_
    refine lv_bipush (v := 6) hx hb dX11_lay_41 (by decide) ?_
    refine lv_icmp_ge hx hb dX11_lay_43 (tgt := 64) (by decide) (fun hc => ?_) (fun hc => ?_)
    · rw [if_pos hc] at hm
      refine lv_iconst (v := 0) hx hb dX11_lay_64 (by decide) ?_
      refine lv_istore_n (lv' := [(1, .int (0 : Int32)), (0, .ref (ad 0))]) hx hb dX11_lay_65 rfl hl (by decide) rfl (fun ls hl => ?_)
      exact wX11_lay_66 X FU (0 : Int32) h _ _ _ hm hH (lv_sub hl [1, 0] rfl)
    · rw [if_neg hc] at hm
      refine lv_aload_n hx hb dX11_lay_46 rfl (lv_at hl 0 rfl) ?_
      refine gR X hH fl_X11_16 lM_0 rfl dX11_lay_47 ?_
      refine lv_iload_n hx hb dX11_lay_50 rfl (lv_at hl 1 rfl) ?_
      refine lv_aload_n hx hb dX11_lay_51 rfl (lv_at hl 0 rfl) ?_
      refine gR X hH fl_X11_28 lM_0 rfl dX11_lay_52 ?_
      refine lv_iload_n hx hb dX11_lay_55 rfl (lv_at hl 1 rfl) ?_
      obtain ⟨hin1, hm⟩ := gIn_some hm
      refine ild X hH lM_7 hin1 dX11_lay_56 ?_
      obtain ⟨hin3, hm⟩ := gIn_some hm
      obtain ⟨h2, eh2, hm⟩ := mlet_some hm
      refine ist X hH lM_3 hin3 dX11_lay_57 (fun H locs hH => ?_)
      rw [← eh2] at hH
      refine lv_iinc (k := 1) (v := (x1 + 1)) (lv' := [(1, .int (x1 + 1)), (0, .ref (ad 0))]) hx hb dX11_lay_58 hl rfl rfl (by decide) rfl (fun ls hl => ?_)
      refine lv_goto hx hb dX11_lay_61 (tgt := 40) (by decide) ?_
      exact ih (x1 + 1) h2 _ _ _ hm hH (lv_sub hl [1, 0] rfl)
def mX11_lay_14 : Nat → Int32 → Mm → Option (Int32 × Mm)
  | 0, _, _ => none
  | n + 1, x1, h => if (20 : Int32) ≤ x1 then (mX11_lay_40 FU (0 : Int32) h) else (gIn x1 20 (gIn x1 20 (mlet (wr h 2 x1.toNatClampNeg (h 6 x1.toNatClampNeg)) (fun h2 => mX11_lay_14 n (x1 + 1) h2))))
set_option maxRecDepth 4000 in
theorem wX11_lay_14 {p : Program} {l : Launch} {e : Env} {s : State} {m : MethodId} {args : Array Value} {below : List Frame} {meth : Method} {c : Code} {D : va_G} {ad : Nat → Nat} {ac : Nat → ClassId} {r : Int32} {h' : Mm} (X : Fx p s m args meth c cX11_lay 2 RX11 (some .int) D ad ac LM []) : ∀ (n : Nat) (x1 : Int32) (h : Mm) (H : Heap) (locs : List Loc) (ls : Array Slot), mX11_lay_14 n x1 h = some (r, h') → Hp D ad ac LM h s H locs → lv_has ls 2 [(0, .ref (ad 0)), (1, .int x1)] → W p l e (rmD 4) s m args below meth c H locs 0 0 (MQ below (QU D ad ac LM (some (.int r)) h' s.heap.size) args s 0 0 (Aa ad LM.length s.heap.size)) (F0 m 14 ls []) := by
  obtain ⟨hx, hb, hml, hown, hts, hr, hlk, hC, hI, hR⟩ := id X
  intro n
  induction n with
  | zero => intro x1 h H locs ls hm; rw [mX11_lay_14] at hm; cases hm
  | succ n ih =>
    intro x1 h H locs ls hm hH hl
    rw [mX11_lay_14] at hm
    refine lv_iload_n hx hb dX11_lay_14 rfl (lv_at hl 1 rfl) ?_
    refine lv_bipush (v := 20) hx hb dX11_lay_15 (by decide) ?_
    refine lv_icmp_ge hx hb dX11_lay_17 (tgt := 38) (by decide) (fun hc => ?_) (fun hc => ?_)
    · rw [if_pos hc] at hm
      refine lv_iconst (v := 0) hx hb dX11_lay_38 (by decide) ?_
      refine lv_istore_n (lv' := [(1, .int (0 : Int32)), (0, .ref (ad 0))]) hx hb dX11_lay_39 rfl hl (by decide) rfl (fun ls hl => ?_)
      exact wX11_lay_40 X FU (0 : Int32) h _ _ _ hm hH (lv_sub hl [1, 0] rfl)
    · rw [if_neg hc] at hm
      refine lv_aload_n hx hb dX11_lay_20 rfl (lv_at hl 0 rfl) ?_
      refine gR X hH fl_X11_13 lM_0 rfl dX11_lay_21 ?_
      refine lv_iload_n hx hb dX11_lay_24 rfl (lv_at hl 1 rfl) ?_
      refine lv_aload_n hx hb dX11_lay_25 rfl (lv_at hl 0 rfl) ?_
      refine gR X hH fl_X11_25 lM_0 rfl dX11_lay_26 ?_
      refine lv_iload_n hx hb dX11_lay_29 rfl (lv_at hl 1 rfl) ?_
      obtain ⟨hin1, hm⟩ := gIn_some hm
      refine ild X hH lM_6 hin1 dX11_lay_30 ?_
      obtain ⟨hin3, hm⟩ := gIn_some hm
      obtain ⟨h2, eh2, hm⟩ := mlet_some hm
      refine ist X hH lM_2 hin3 dX11_lay_31 (fun H locs hH => ?_)
      rw [← eh2] at hH
      refine lv_iinc (k := 1) (v := (x1 + 1)) (lv' := [(1, .int (x1 + 1)), (0, .ref (ad 0))]) hx hb dX11_lay_32 hl rfl rfl (by decide) rfl (fun ls hl => ?_)
      refine lv_goto hx hb dX11_lay_35 (tgt := 14) (by decide) ?_
      exact ih (x1 + 1) h2 _ _ _ hm hH (lv_sub hl [1, 0] rfl)
def mX11_lay (h : Mm) : Option (Int32 × Mm) := bd2 (mX11_fault h) (fun v2 h1 => if v2 = (-4 : Int32) then (mX11_lay_14 FU (0 : Int32) h1) else (some ((-2 : Int32), h1)))
set_option maxRecDepth 4000 in
theorem mt_X11_lay {l : Launch} {D : va_G} {ad : Nat → Nat} {ac : Nat → ClassId} {h : Mm} {r : Int32} {h' : Mm} (hm : mX11_lay h = some (r, h')) : Mt l D ad ac LM [] yX11_lay cX11_lay 2 (some .int) 4 [.ref (ad 0)] h (some (.int r)) h' := by
  refine Mt.of (own := RX11) (by decide) rfl (Nat.le_of_ble_eq_true rfl) ?_
  intro p e s m below meth c ls X hH hl
  obtain ⟨hx, hb, hml, hown, hts, hr, hlk, hC, hI, hR⟩ := id X
  have hl : lv_has ls 2 [(0, .ref (ad 0))] := hl
  rw [mX11_lay] at hm
  refine lv_aload_n hx hb dX11_lay_0 rfl (lv_at hl 0 rfl) ?_
  obtain ⟨v2, h1, hq, hm⟩ := bd2_some hm
  refine cVi X hH kl_X11_120 kv_X11_fault (mt_X11_fault hq) lM_0 rfl rfl (by decide) hl.1 rfl (Nat.le_of_ble_eq_true rfl) dX11_lay_1 (fun H locs hH => ?_)
  refine lv_bipush (v := (-4)) hx hb dX11_lay_4 (by decide) ?_
  refine lv_icmp_eq hx hb dX11_lay_6 (tgt := 12) (by decide) (fun hc => ?_) (fun hc => ?_)
  · rw [if_pos hc] at hm
    refine lv_iconst (v := 0) hx hb dX11_lay_12 (by decide) ?_
    refine lv_istore_n (lv' := [(1, .int (0 : Int32)), (0, .ref (ad 0))]) hx hb dX11_lay_13 rfl hl (by decide) rfl (fun ls hl => ?_)
    exact wX11_lay_14 X FU (0 : Int32) h1 _ _ _ hm hH (lv_sub hl [1, 0] rfl)
  · rw [if_neg hc] at hm
    refine lv_bipush (v := (-2)) hx hb dX11_lay_9 (by decide) ?_
    cases hm
    exact retI X hH dX11_lay_11
