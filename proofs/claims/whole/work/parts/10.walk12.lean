/-! X11_plans -/
def mX11_plans_336 : Nat → Int32 → Int32 → Int32 → Mm → Option Mm
  | 0, _, _, _, _ => none
  | n + 1, x2, x4, x6, h => if x4 ≤ x6 then (some h) else (gIn x6 6 (gIn (x2 + x6) 24 (mlet (wr h 20 (x2 + x6).toNatClampNeg (h 21 x6.toNatClampNeg)) (fun h2 => mX11_plans_336 n x2 x4 (x6 + 1) h2))))
set_option maxRecDepth 4000 in
theorem wX11_plans_336 {p : Program} {l : Launch} {e : Env} {s : State} {m : MethodId} {args : Array Value} {below : List Frame} {meth : Method} {c : Code} {D : va_G} {ad : Nat → Nat} {ac : Nat → ClassId} {h' : Mm} (X : Fx p s m args meth c cX11_plans 12 RX11 none D ad ac LM []) : ∀ (n : Nat) (x2 : Int32) (x4 : Int32) (x6 : Int32) (h : Mm) (H : Heap) (locs : List Loc) (ls : Array Slot), mX11_plans_336 n x2 x4 x6 h = some h' → Hp D ad ac LM h s H locs → lv_has ls 12 [(0, .ref (ad 0)), (2, .int x2), (4, .int x4), (6, .int x6)] → W p l e (rmD 4) s m args below meth c H locs 0 0 (MQ below (QU D ad ac LM none h' s.heap.size) args s 0 0 (Aa ad LM.length s.heap.size)) (F0 m 336 ls []) := by
  obtain ⟨hx, hb, hml, hown, hts, hr, hlk, hC, hI, hR⟩ := id X
  intro n
  induction n with
  | zero => intro x2 x4 x6 h H locs ls hm; rw [mX11_plans_336] at hm; cases hm
  | succ n ih =>
    intro x2 x4 x6 h H locs ls hm hH hl
    rw [mX11_plans_336] at hm
    refine lv_iload hx hb dX11_plans_336 (lv_at hl 3 rfl) ?_
    refine lv_iload hx hb dX11_plans_338 (lv_at hl 2 rfl) ?_
    refine lv_icmp_ge hx hb dX11_plans_340 (tgt := 365) (by decide) (fun hc => ?_) (fun hc => ?_)
    · rw [if_pos hc] at hm
      cases hm
      exact retV X hH dX11_plans_365
    · rw [if_neg hc] at hm
      refine lv_aload_n hx hb dX11_plans_343 rfl (lv_at hl 0 rfl) ?_
      refine gR X hH fl_X11_67 lM_0 rfl dX11_plans_344 ?_
      refine lv_iload_n hx hb dX11_plans_347 rfl (lv_at hl 1 rfl) ?_
      refine lv_iload hx hb dX11_plans_348 (lv_at hl 3 rfl) ?_
      refine lv_iadd hx hb dX11_plans_350 ?_
      refine lv_aload_n hx hb dX11_plans_351 rfl (lv_at hl 0 rfl) ?_
      refine gR X hH fl_X11_70 lM_0 rfl dX11_plans_352 ?_
      refine lv_iload hx hb dX11_plans_355 (lv_at hl 3 rfl) ?_
      obtain ⟨hin1, hm⟩ := gIn_some hm
      refine ild X hH lM_21 hin1 dX11_plans_357 ?_
      obtain ⟨hin3, hm⟩ := gIn_some hm
      obtain ⟨h2, eh2, hm⟩ := mlet_some hm
      refine ist X hH lM_20 hin3 dX11_plans_358 (fun H locs hH => ?_)
      rw [← eh2] at hH
      refine lv_iinc (k := 3) (v := (x6 + 1)) (lv' := [(6, .int (x6 + 1)), (0, .ref (ad 0)), (2, .int x2), (4, .int x4)]) hx hb dX11_plans_359 hl rfl rfl (by decide) rfl (fun ls hl => ?_)
      refine lv_goto hx hb dX11_plans_362 (tgt := 336) (by decide) ?_
      exact ih x2 x4 (x6 + 1) h2 _ _ _ hm hH (lv_sub hl [1, 2, 3, 0] rfl)
def mX11_plans_327 (k82 : Int32 → Int32 → Int32 → Int32 → Int32 → Int32 → Mm → Option Mm) (x1 : Int32) (x2 : Int32) (x3 : Int32) (x4 : Int32) (x5 : Int32) (x6 : Int32) (h : Mm) : Option Mm := k82 x1 x2 x3 x4 x5 (x6 + 1) h
set_option maxRecDepth 4000 in
theorem wX11_plans_327 {p : Program} {l : Launch} {e : Env} {s : State} {m : MethodId} {args : Array Value} {below : List Frame} {meth : Method} {c : Code} {D : va_G} {ad : Nat → Nat} {ac : Nat → ClassId} {h' : Mm} (X : Fx p s m args meth c cX11_plans 12 RX11 none D ad ac LM []) {k82 : Int32 → Int32 → Int32 → Int32 → Int32 → Int32 → Mm → Option Mm} (ih82 : ∀ (x1 : Int32) (x2 : Int32) (x3 : Int32) (x4 : Int32) (x5 : Int32) (x6 : Int32) (h : Mm) (H : Heap) (locs : List Loc) (ls : Array Slot), k82 x1 x2 x3 x4 x5 x6 h = some h' → Hp D ad ac LM h s H locs → lv_has ls 12 [(0, .ref (ad 0)), (1, .int x1), (2, .int x2), (3, .int x3), (4, .int x4), (5, .int x5), (6, .int x6)] → W p l e (rmD 4) s m args below meth c H locs 0 0 (MQ below (QU D ad ac LM none h' s.heap.size) args s 0 0 (Aa ad LM.length s.heap.size)) (F0 m 82 ls [])) : ∀ (x1 : Int32) (x2 : Int32) (x3 : Int32) (x4 : Int32) (x5 : Int32) (x6 : Int32) (h : Mm) (H : Heap) (locs : List Loc) (ls : Array Slot), mX11_plans_327 k82 x1 x2 x3 x4 x5 x6 h = some h' → Hp D ad ac LM h s H locs → lv_has ls 12 [(0, .ref (ad 0)), (1, .int x1), (2, .int x2), (3, .int x3), (4, .int x4), (5, .int x5), (6, .int x6)] → W p l e (rmD 4) s m args below meth c H locs 0 0 (MQ below (QU D ad ac LM none h' s.heap.size) args s 0 0 (Aa ad LM.length s.heap.size)) (F0 m 327 ls []) := by
  obtain ⟨hx, hb, hml, hown, hts, hr, hlk, hC, hI, hR⟩ := id X
  intro x1 x2 x3 x4 x5 x6 h H locs ls hm hH hl
  rw [mX11_plans_327] at hm
  refine lv_iinc (k := 6) (v := (x6 + 1)) (lv' := [(6, .int (x6 + 1)), (0, .ref (ad 0)), (1, .int x1), (2, .int x2), (3, .int x3), (4, .int x4), (5, .int x5)]) hx hb dX11_plans_327 hl rfl rfl (by decide) rfl (fun ls hl => ?_)
  refine lv_goto hx hb dX11_plans_330 (tgt := 82) (by decide) ?_
  exact ih82 x1 x2 x3 x4 x5 (x6 + 1) h _ _ _ hm hH (lv_sub hl [1, 2, 3, 4, 5, 6, 0] rfl)
def mX11_plans_298 (k82 : Int32 → Int32 → Int32 → Int32 → Int32 → Int32 → Mm → Option Mm) : Nat → Int32 → Int32 → Int32 → Int32 → Int32 → Int32 → Int32 → Mm → Option Mm
  | 0, _, _, _, _, _, _, _, _ => none
  | n + 1, x1, x2, x3, x4, x5, x6, x11, h => if x4 ≤ x11 then (mX11_plans_327 k82 x1 x2 x3 x4 x5 x6 h) else (gIn (x2 + x11) 24 (gIn x11 6 (mlet (wr h 21 x11.toNatClampNeg (h 20 (x2 + x11).toNatClampNeg)) (fun h2 => mX11_plans_298 k82 n x1 x2 x3 x4 x5 x6 (x11 + 1) h2))))
set_option maxRecDepth 4000 in
theorem wX11_plans_298 {p : Program} {l : Launch} {e : Env} {s : State} {m : MethodId} {args : Array Value} {below : List Frame} {meth : Method} {c : Code} {D : va_G} {ad : Nat → Nat} {ac : Nat → ClassId} {h' : Mm} (X : Fx p s m args meth c cX11_plans 12 RX11 none D ad ac LM []) {k82 : Int32 → Int32 → Int32 → Int32 → Int32 → Int32 → Mm → Option Mm} (ih82 : ∀ (x1 : Int32) (x2 : Int32) (x3 : Int32) (x4 : Int32) (x5 : Int32) (x6 : Int32) (h : Mm) (H : Heap) (locs : List Loc) (ls : Array Slot), k82 x1 x2 x3 x4 x5 x6 h = some h' → Hp D ad ac LM h s H locs → lv_has ls 12 [(0, .ref (ad 0)), (1, .int x1), (2, .int x2), (3, .int x3), (4, .int x4), (5, .int x5), (6, .int x6)] → W p l e (rmD 4) s m args below meth c H locs 0 0 (MQ below (QU D ad ac LM none h' s.heap.size) args s 0 0 (Aa ad LM.length s.heap.size)) (F0 m 82 ls [])) : ∀ (n : Nat) (x1 : Int32) (x2 : Int32) (x3 : Int32) (x4 : Int32) (x5 : Int32) (x6 : Int32) (x11 : Int32) (h : Mm) (H : Heap) (locs : List Loc) (ls : Array Slot), mX11_plans_298 k82 n x1 x2 x3 x4 x5 x6 x11 h = some h' → Hp D ad ac LM h s H locs → lv_has ls 12 [(0, .ref (ad 0)), (1, .int x1), (2, .int x2), (3, .int x3), (4, .int x4), (5, .int x5), (6, .int x6), (11, .int x11)] → W p l e (rmD 4) s m args below meth c H locs 0 0 (MQ below (QU D ad ac LM none h' s.heap.size) args s 0 0 (Aa ad LM.length s.heap.size)) (F0 m 298 ls []) := by
  obtain ⟨hx, hb, hml, hown, hts, hr, hlk, hC, hI, hR⟩ := id X
  intro n
  induction n with
  | zero => intro x1 x2 x3 x4 x5 x6 x11 h H locs ls hm; rw [mX11_plans_298] at hm; cases hm
  | succ n ih =>
    intro x1 x2 x3 x4 x5 x6 x11 h H locs ls hm hH hl
    rw [mX11_plans_298] at hm
    refine lv_iload hx hb dX11_plans_298 (lv_at hl 7 rfl) ?_
    refine lv_iload hx hb dX11_plans_300 (lv_at hl 4 rfl) ?_
    refine lv_icmp_ge hx hb dX11_plans_302 (tgt := 327) (by decide) (fun hc => ?_) (fun hc => ?_)
    · rw [if_pos hc] at hm
      exact wX11_plans_327 X ih82 x1 x2 x3 x4 x5 x6 h _ _ _ hm hH (lv_sub hl [0, 1, 2, 3, 4, 5, 6] rfl)
    · rw [if_neg hc] at hm
      refine lv_aload_n hx hb dX11_plans_305 rfl (lv_at hl 0 rfl) ?_
      refine gR X hH fl_X11_70 lM_0 rfl dX11_plans_306 ?_
      refine lv_iload hx hb dX11_plans_309 (lv_at hl 7 rfl) ?_
      refine lv_aload_n hx hb dX11_plans_311 rfl (lv_at hl 0 rfl) ?_
      refine gR X hH fl_X11_67 lM_0 rfl dX11_plans_312 ?_
      refine lv_iload_n hx hb dX11_plans_315 rfl (lv_at hl 2 rfl) ?_
      refine lv_iload hx hb dX11_plans_316 (lv_at hl 7 rfl) ?_
      refine lv_iadd hx hb dX11_plans_318 ?_
      obtain ⟨hin1, hm⟩ := gIn_some hm
      refine ild X hH lM_20 hin1 dX11_plans_319 ?_
      obtain ⟨hin3, hm⟩ := gIn_some hm
      obtain ⟨h2, eh2, hm⟩ := mlet_some hm
      refine ist X hH lM_21 hin3 dX11_plans_320 (fun H locs hH => ?_)
      rw [← eh2] at hH
      refine lv_iinc (k := 7) (v := (x11 + 1)) (lv' := [(11, .int (x11 + 1)), (0, .ref (ad 0)), (1, .int x1), (2, .int x2), (3, .int x3), (4, .int x4), (5, .int x5), (6, .int x6)]) hx hb dX11_plans_321 hl rfl rfl (by decide) rfl (fun ls hl => ?_)
      refine lv_goto hx hb dX11_plans_324 (tgt := 298) (by decide) ?_
      exact ih x1 x2 x3 x4 x5 x6 (x11 + 1) h2 _ _ _ hm hH (lv_sub hl [1, 2, 3, 4, 5, 6, 7, 0] rfl)
def mX11_plans_256 (k82 : Int32 → Int32 → Int32 → Int32 → Int32 → Int32 → Mm → Option Mm) (x1 : Int32) (x2 : Int32) (x3 : Int32) (x4 : Int32) (x5 : Int32) (x6 : Int32) (x8 : Int32) (x9 : Int32) (t0 : Int32) (h : Mm) : Option Mm := bd1 (mX11_isLess h t0 x8 x9) (fun v1 => if v1 = 0 then (mX11_plans_327 k82 x1 x2 x3 x4 x5 x6 h) else (gIn (0 : Int32) 4 (mlet (wr h 22 (0 : Int32).toNatClampNeg t0) (fun h2 => gIn (1 : Int32) 4 (mlet (wr h2 22 (1 : Int32).toNatClampNeg x8) (fun h4 => gIn (2 : Int32) 4 (mlet (wr h4 22 (2 : Int32).toNatClampNeg x9) (fun h6 => mX11_plans_298 k82 FU x1 x2 x3 x4 x5 x6 (0 : Int32) h6))))))))
set_option maxRecDepth 4000 in
theorem wX11_plans_256 {p : Program} {l : Launch} {e : Env} {s : State} {m : MethodId} {args : Array Value} {below : List Frame} {meth : Method} {c : Code} {D : va_G} {ad : Nat → Nat} {ac : Nat → ClassId} {h' : Mm} (X : Fx p s m args meth c cX11_plans 12 RX11 none D ad ac LM []) {k82 : Int32 → Int32 → Int32 → Int32 → Int32 → Int32 → Mm → Option Mm} (ih82 : ∀ (x1 : Int32) (x2 : Int32) (x3 : Int32) (x4 : Int32) (x5 : Int32) (x6 : Int32) (h : Mm) (H : Heap) (locs : List Loc) (ls : Array Slot), k82 x1 x2 x3 x4 x5 x6 h = some h' → Hp D ad ac LM h s H locs → lv_has ls 12 [(0, .ref (ad 0)), (1, .int x1), (2, .int x2), (3, .int x3), (4, .int x4), (5, .int x5), (6, .int x6)] → W p l e (rmD 4) s m args below meth c H locs 0 0 (MQ below (QU D ad ac LM none h' s.heap.size) args s 0 0 (Aa ad LM.length s.heap.size)) (F0 m 82 ls [])) : ∀ (x1 : Int32) (x2 : Int32) (x3 : Int32) (x4 : Int32) (x5 : Int32) (x6 : Int32) (x8 : Int32) (x9 : Int32) (t0 : Int32) (h : Mm) (H : Heap) (locs : List Loc) (ls : Array Slot), mX11_plans_256 k82 x1 x2 x3 x4 x5 x6 x8 x9 t0 h = some h' → Hp D ad ac LM h s H locs → lv_has ls 12 [(0, .ref (ad 0)), (1, .int x1), (2, .int x2), (3, .int x3), (4, .int x4), (5, .int x5), (6, .int x6), (8, .int x8), (9, .int x9)] → W p l e (rmD 4) s m args below meth c H locs 0 0 (MQ below (QU D ad ac LM none h' s.heap.size) args s 0 0 (Aa ad LM.length s.heap.size)) (F0 m 256 ls [.int t0]) := by
  obtain ⟨hx, hb, hml, hown, hts, hr, hlk, hC, hI, hR⟩ := id X
  intro x1 x2 x3 x4 x5 x6 x8 x9 t0 h H locs ls hm hH hl
  rw [mX11_plans_256] at hm
  refine lv_istore (lv' := [(10, .int t0), (0, .ref (ad 0)), (1, .int x1), (2, .int x2), (3, .int x3), (4, .int x4), (5, .int x5), (6, .int x6), (8, .int x8), (9, .int x9)]) hx hb dX11_plans_256 hl (by decide) rfl (fun ls hl => ?_)
  refine lv_aload_n hx hb dX11_plans_258 rfl (lv_at hl 1 rfl) ?_
  refine lv_iload hx hb dX11_plans_259 (lv_at hl 0 rfl) ?_
  refine lv_iload hx hb dX11_plans_261 (lv_at hl 8 rfl) ?_
  refine lv_iload hx hb dX11_plans_263 (lv_at hl 9 rfl) ?_
  obtain ⟨v1, hq, hm⟩ := bd1_some hm
  refine cVi X hH kl_X11_204 kv_X11_isLess (mt_X11_isLess hq) lM_0 rfl rfl (by decide) hl.1 rfl (Nat.le_of_ble_eq_true rfl) dX11_plans_265 (fun H locs hH => ?_)
  refine lv_if_eq hx hb dX11_plans_268 (tgt := 327) (by decide) (fun hc => ?_) (fun hc => ?_)
  · rw [if_pos hc] at hm
    exact wX11_plans_327 X ih82 x1 x2 x3 x4 x5 x6 h _ _ _ hm hH (lv_sub hl [1, 2, 3, 4, 5, 6, 7] rfl)
  · rw [if_neg hc] at hm
    refine lv_aload_n hx hb dX11_plans_271 rfl (lv_at hl 1 rfl) ?_
    refine gR X hH fl_X11_73 lM_0 rfl dX11_plans_272 ?_
    refine lv_iconst (v := 0) hx hb dX11_plans_275 (by decide) ?_
    refine lv_iload hx hb dX11_plans_276 (lv_at hl 0 rfl) ?_
    obtain ⟨hin3, hm⟩ := gIn_some hm
    obtain ⟨h2, eh2, hm⟩ := mlet_some hm
    refine ist X hH lM_22 hin3 dX11_plans_278 (fun H locs hH => ?_)
    rw [← eh2] at hH
    refine lv_aload_n hx hb dX11_plans_279 rfl (lv_at hl 1 rfl) ?_
    refine gR X hH fl_X11_73 lM_0 rfl dX11_plans_280 ?_
    refine lv_iconst (v := 1) hx hb dX11_plans_283 (by decide) ?_
    refine lv_iload hx hb dX11_plans_284 (lv_at hl 8 rfl) ?_
    obtain ⟨hin5, hm⟩ := gIn_some hm
    obtain ⟨h4, eh4, hm⟩ := mlet_some hm
    refine ist X hH lM_22 hin5 dX11_plans_286 (fun H locs hH => ?_)
    rw [← eh4] at hH
    refine lv_aload_n hx hb dX11_plans_287 rfl (lv_at hl 1 rfl) ?_
    refine gR X hH fl_X11_73 lM_0 rfl dX11_plans_288 ?_
    refine lv_iconst (v := 2) hx hb dX11_plans_291 (by decide) ?_
    refine lv_iload hx hb dX11_plans_292 (lv_at hl 9 rfl) ?_
    obtain ⟨hin7, hm⟩ := gIn_some hm
    obtain ⟨h6, eh6, hm⟩ := mlet_some hm
    refine ist X hH lM_22 hin7 dX11_plans_294 (fun H locs hH => ?_)
    rw [← eh6] at hH
    refine lv_iconst (v := 0) hx hb dX11_plans_295 (by decide) ?_
    refine lv_istore (lv' := [(11, .int (0 : Int32)), (10, .int t0), (0, .ref (ad 0)), (1, .int x1), (2, .int x2), (3, .int x3), (4, .int x4), (5, .int x5), (6, .int x6), (8, .int x8), (9, .int x9)]) hx hb dX11_plans_296 hl (by decide) rfl (fun ls hl => ?_)
    exact wX11_plans_298 X ih82 FU x1 x2 x3 x4 x5 x6 (0 : Int32) h6 _ _ _ hm hH (lv_sub hl [2, 3, 4, 5, 6, 7, 8, 0] rfl)
def mX11_plans_202 (k82 : Int32 → Int32 → Int32 → Int32 → Int32 → Int32 → Mm → Option Mm) (k105 : Int32 → Int32 → Int32 → Int32 → Int32 → Int32 → Int32 → Int32 → Int32 → Int32 → Mm → Option Mm) (x1 : Int32) (x2 : Int32) (x3 : Int32) (x4 : Int32) (x5 : Int32) (x6 : Int32) (x7 : Int32) (x8 : Int32) (x10 : Int32) (t0 : Int32) (t1 : Int32) (h : Mm) : Option Mm := mlet (t1 + t0) (fun u1 => k105 x1 x2 x3 x4 x5 x6 x7 x8 u1 (x10 + (-1)) h)
set_option maxRecDepth 4000 in
theorem wX11_plans_202 {p : Program} {l : Launch} {e : Env} {s : State} {m : MethodId} {args : Array Value} {below : List Frame} {meth : Method} {c : Code} {D : va_G} {ad : Nat → Nat} {ac : Nat → ClassId} {h' : Mm} (X : Fx p s m args meth c cX11_plans 12 RX11 none D ad ac LM []) {k82 : Int32 → Int32 → Int32 → Int32 → Int32 → Int32 → Mm → Option Mm} {k105 : Int32 → Int32 → Int32 → Int32 → Int32 → Int32 → Int32 → Int32 → Int32 → Int32 → Mm → Option Mm} (ih82 : ∀ (x1 : Int32) (x2 : Int32) (x3 : Int32) (x4 : Int32) (x5 : Int32) (x6 : Int32) (h : Mm) (H : Heap) (locs : List Loc) (ls : Array Slot), k82 x1 x2 x3 x4 x5 x6 h = some h' → Hp D ad ac LM h s H locs → lv_has ls 12 [(0, .ref (ad 0)), (1, .int x1), (2, .int x2), (3, .int x3), (4, .int x4), (5, .int x5), (6, .int x6)] → W p l e (rmD 4) s m args below meth c H locs 0 0 (MQ below (QU D ad ac LM none h' s.heap.size) args s 0 0 (Aa ad LM.length s.heap.size)) (F0 m 82 ls [])) (ih105 : ∀ (x1 : Int32) (x2 : Int32) (x3 : Int32) (x4 : Int32) (x5 : Int32) (x6 : Int32) (x7 : Int32) (x8 : Int32) (x9 : Int32) (x10 : Int32) (h : Mm) (H : Heap) (locs : List Loc) (ls : Array Slot), k105 x1 x2 x3 x4 x5 x6 x7 x8 x9 x10 h = some h' → Hp D ad ac LM h s H locs → lv_has ls 12 [(0, .ref (ad 0)), (1, .int x1), (2, .int x2), (3, .int x3), (4, .int x4), (5, .int x5), (6, .int x6), (7, .int x7), (8, .int x8), (9, .int x9), (10, .int x10)] → W p l e (rmD 4) s m args below meth c H locs 0 0 (MQ below (QU D ad ac LM none h' s.heap.size) args s 0 0 (Aa ad LM.length s.heap.size)) (F0 m 105 ls [])) : ∀ (x1 : Int32) (x2 : Int32) (x3 : Int32) (x4 : Int32) (x5 : Int32) (x6 : Int32) (x7 : Int32) (x8 : Int32) (x10 : Int32) (t0 : Int32) (t1 : Int32) (h : Mm) (H : Heap) (locs : List Loc) (ls : Array Slot), mX11_plans_202 k82 k105 x1 x2 x3 x4 x5 x6 x7 x8 x10 t0 t1 h = some h' → Hp D ad ac LM h s H locs → lv_has ls 12 [(0, .ref (ad 0)), (1, .int x1), (2, .int x2), (3, .int x3), (4, .int x4), (5, .int x5), (6, .int x6), (7, .int x7), (8, .int x8), (10, .int x10)] → W p l e (rmD 4) s m args below meth c H locs 0 0 (MQ below (QU D ad ac LM none h' s.heap.size) args s 0 0 (Aa ad LM.length s.heap.size)) (F0 m 202 ls [.int t0, .int t1]) := by
  obtain ⟨hx, hb, hml, hown, hts, hr, hlk, hC, hI, hR⟩ := id X
  intro x1 x2 x3 x4 x5 x6 x7 x8 x10 t0 t1 h H locs ls hm hH hl
  rw [mX11_plans_202] at hm
  refine lv_iadd hx hb dX11_plans_202 ?_
  obtain ⟨u1, eu1, hm⟩ := mlet_some hm
  refine W.eq (g2 := F0 m 203 ls (.int u1 :: [])) (by rw [eu1]) ?_
  refine lv_istore (lv' := [(9, .int u1), (0, .ref (ad 0)), (1, .int x1), (2, .int x2), (3, .int x3), (4, .int x4), (5, .int x5), (6, .int x6), (7, .int x7), (8, .int x8), (10, .int x10)]) hx hb dX11_plans_203 hl (by decide) rfl (fun ls hl => ?_)
  refine lv_iinc (k := 10) (v := (x10 + (-1))) (lv' := [(10, .int (x10 + (-1))), (9, .int u1), (0, .ref (ad 0)), (1, .int x1), (2, .int x2), (3, .int x3), (4, .int x4), (5, .int x5), (6, .int x6), (7, .int x7), (8, .int x8)]) hx hb dX11_plans_205 hl rfl rfl (by decide) rfl (fun ls hl => ?_)
  refine lv_goto hx hb dX11_plans_208 (tgt := 105) (by decide) ?_
  exact ih105 x1 x2 x3 x4 x5 x6 x7 x8 u1 (x10 + (-1)) h _ _ _ hm hH (lv_sub hl [2, 3, 4, 5, 6, 7, 8, 9, 10, 1, 0] rfl)
def mX11_plans_171 (k82 : Int32 → Int32 → Int32 → Int32 → Int32 → Int32 → Mm → Option Mm) (k105 : Int32 → Int32 → Int32 → Int32 → Int32 → Int32 → Int32 → Int32 → Int32 → Int32 → Mm → Option Mm) (x1 : Int32) (x2 : Int32) (x3 : Int32) (x4 : Int32) (x5 : Int32) (x6 : Int32) (x7 : Int32) (x9 : Int32) (x10 : Int32) (t0 : Int32) (t1 : Int32) (h : Mm) : Option Mm := mlet (t1 + t0) (fun u1 => gIn (x2 + x10) 24 (gIn (x2 + x10) 32 (if (h 20 (x2 + x10).toNatClampNeg) = (h 15 (x2 + x10).toNatClampNeg) then (mX11_plans_202 k82 k105 x1 x2 x3 x4 x5 x6 x7 u1 x10 (0 : Int32) x9 h) else (mX11_plans_202 k82 k105 x1 x2 x3 x4 x5 x6 x7 u1 x10 (1 : Int32) x9 h))))
set_option maxRecDepth 4000 in
theorem wX11_plans_171 {p : Program} {l : Launch} {e : Env} {s : State} {m : MethodId} {args : Array Value} {below : List Frame} {meth : Method} {c : Code} {D : va_G} {ad : Nat → Nat} {ac : Nat → ClassId} {h' : Mm} (X : Fx p s m args meth c cX11_plans 12 RX11 none D ad ac LM []) {k82 : Int32 → Int32 → Int32 → Int32 → Int32 → Int32 → Mm → Option Mm} {k105 : Int32 → Int32 → Int32 → Int32 → Int32 → Int32 → Int32 → Int32 → Int32 → Int32 → Mm → Option Mm} (ih82 : ∀ (x1 : Int32) (x2 : Int32) (x3 : Int32) (x4 : Int32) (x5 : Int32) (x6 : Int32) (h : Mm) (H : Heap) (locs : List Loc) (ls : Array Slot), k82 x1 x2 x3 x4 x5 x6 h = some h' → Hp D ad ac LM h s H locs → lv_has ls 12 [(0, .ref (ad 0)), (1, .int x1), (2, .int x2), (3, .int x3), (4, .int x4), (5, .int x5), (6, .int x6)] → W p l e (rmD 4) s m args below meth c H locs 0 0 (MQ below (QU D ad ac LM none h' s.heap.size) args s 0 0 (Aa ad LM.length s.heap.size)) (F0 m 82 ls [])) (ih105 : ∀ (x1 : Int32) (x2 : Int32) (x3 : Int32) (x4 : Int32) (x5 : Int32) (x6 : Int32) (x7 : Int32) (x8 : Int32) (x9 : Int32) (x10 : Int32) (h : Mm) (H : Heap) (locs : List Loc) (ls : Array Slot), k105 x1 x2 x3 x4 x5 x6 x7 x8 x9 x10 h = some h' → Hp D ad ac LM h s H locs → lv_has ls 12 [(0, .ref (ad 0)), (1, .int x1), (2, .int x2), (3, .int x3), (4, .int x4), (5, .int x5), (6, .int x6), (7, .int x7), (8, .int x8), (9, .int x9), (10, .int x10)] → W p l e (rmD 4) s m args below meth c H locs 0 0 (MQ below (QU D ad ac LM none h' s.heap.size) args s 0 0 (Aa ad LM.length s.heap.size)) (F0 m 105 ls [])) : ∀ (x1 : Int32) (x2 : Int32) (x3 : Int32) (x4 : Int32) (x5 : Int32) (x6 : Int32) (x7 : Int32) (x9 : Int32) (x10 : Int32) (t0 : Int32) (t1 : Int32) (h : Mm) (H : Heap) (locs : List Loc) (ls : Array Slot), mX11_plans_171 k82 k105 x1 x2 x3 x4 x5 x6 x7 x9 x10 t0 t1 h = some h' → Hp D ad ac LM h s H locs → lv_has ls 12 [(0, .ref (ad 0)), (1, .int x1), (2, .int x2), (3, .int x3), (4, .int x4), (5, .int x5), (6, .int x6), (7, .int x7), (9, .int x9), (10, .int x10)] → W p l e (rmD 4) s m args below meth c H locs 0 0 (MQ below (QU D ad ac LM none h' s.heap.size) args s 0 0 (Aa ad LM.length s.heap.size)) (F0 m 171 ls [.int t0, .int t1]) := by
  obtain ⟨hx, hb, hml, hown, hts, hr, hlk, hC, hI, hR⟩ := id X
  intro x1 x2 x3 x4 x5 x6 x7 x9 x10 t0 t1 h H locs ls hm hH hl
  rw [mX11_plans_171] at hm
  refine lv_iadd hx hb dX11_plans_171 ?_
  obtain ⟨u1, eu1, hm⟩ := mlet_some hm
  refine W.eq (g2 := F0 m 172 ls (.int u1 :: [])) (by rw [eu1]) ?_
  refine lv_istore (lv' := [(8, .int u1), (0, .ref (ad 0)), (1, .int x1), (2, .int x2), (3, .int x3), (4, .int x4), (5, .int x5), (6, .int x6), (7, .int x7), (9, .int x9), (10, .int x10)]) hx hb dX11_plans_172 hl (by decide) rfl (fun ls hl => ?_)
  refine lv_iload hx hb dX11_plans_174 (lv_at hl 9 rfl) ?_
  refine lv_aload_n hx hb dX11_plans_176 rfl (lv_at hl 1 rfl) ?_
  refine gR X hH fl_X11_67 lM_0 rfl dX11_plans_177 ?_
  refine lv_iload_n hx hb dX11_plans_180 rfl (lv_at hl 3 rfl) ?_
  refine lv_iload hx hb dX11_plans_181 (lv_at hl 10 rfl) ?_
  refine lv_iadd hx hb dX11_plans_183 ?_
  obtain ⟨hin2, hm⟩ := gIn_some hm
  refine ild X hH lM_20 hin2 dX11_plans_184 ?_
  refine lv_aload_n hx hb dX11_plans_185 rfl (lv_at hl 1 rfl) ?_
  refine gR X hH fl_X11_52 lM_0 rfl dX11_plans_186 ?_
  refine lv_iload_n hx hb dX11_plans_189 rfl (lv_at hl 3 rfl) ?_
  refine lv_iload hx hb dX11_plans_190 (lv_at hl 10 rfl) ?_
  refine lv_iadd hx hb dX11_plans_192 ?_
  obtain ⟨hin3, hm⟩ := gIn_some hm
  refine ild X hH lM_15 hin3 dX11_plans_193 ?_
  refine lv_icmp_ne hx hb dX11_plans_194 (tgt := 201) (by decide) (fun hc => ?_) (fun hc => ?_)
  · rw [if_neg hc] at hm
    refine lv_iconst (v := 1) hx hb dX11_plans_201 (by decide) ?_
    exact wX11_plans_202 X ih82 ih105 x1 x2 x3 x4 x5 x6 x7 u1 x10 (1 : Int32) x9 h _ _ _ hm hH (lv_sub hl [1, 2, 3, 4, 5, 6, 7, 8, 0, 10] rfl)
  · rw [if_pos hc] at hm
    refine lv_iconst (v := 0) hx hb dX11_plans_197 (by decide) ?_
    refine lv_goto hx hb dX11_plans_198 (tgt := 202) (by decide) ?_
    exact wX11_plans_202 X ih82 ih105 x1 x2 x3 x4 x5 x6 x7 u1 x10 (0 : Int32) x9 h _ _ _ hm hH (lv_sub hl [1, 2, 3, 4, 5, 6, 7, 8, 0, 10] rfl)
def mX11_plans_158 (k82 : Int32 → Int32 → Int32 → Int32 → Int32 → Int32 → Mm → Option Mm) (k105 : Int32 → Int32 → Int32 → Int32 → Int32 → Int32 → Int32 → Int32 → Int32 → Int32 → Mm → Option Mm) (x1 : Int32) (x2 : Int32) (x3 : Int32) (x4 : Int32) (x5 : Int32) (x6 : Int32) (x7 : Int32) (x8 : Int32) (x9 : Int32) (x10 : Int32) (x11 : Int32) (t0 : Int32) (t1 : Int32) (h : Mm) : Option Mm := gIn t1 24 (mlet (wr h 20 t1.toNatClampNeg t0) (fun h1 => if 0 ≤ x11 then (mX11_plans_171 k82 k105 x1 x2 x3 x4 x5 x6 x7 x9 x10 (1 : Int32) x8 h1) else (mX11_plans_171 k82 k105 x1 x2 x3 x4 x5 x6 x7 x9 x10 (0 : Int32) x8 h1)))
set_option maxRecDepth 4000 in
theorem wX11_plans_158 {p : Program} {l : Launch} {e : Env} {s : State} {m : MethodId} {args : Array Value} {below : List Frame} {meth : Method} {c : Code} {D : va_G} {ad : Nat → Nat} {ac : Nat → ClassId} {h' : Mm} (X : Fx p s m args meth c cX11_plans 12 RX11 none D ad ac LM []) {k82 : Int32 → Int32 → Int32 → Int32 → Int32 → Int32 → Mm → Option Mm} {k105 : Int32 → Int32 → Int32 → Int32 → Int32 → Int32 → Int32 → Int32 → Int32 → Int32 → Mm → Option Mm} (ih82 : ∀ (x1 : Int32) (x2 : Int32) (x3 : Int32) (x4 : Int32) (x5 : Int32) (x6 : Int32) (h : Mm) (H : Heap) (locs : List Loc) (ls : Array Slot), k82 x1 x2 x3 x4 x5 x6 h = some h' → Hp D ad ac LM h s H locs → lv_has ls 12 [(0, .ref (ad 0)), (1, .int x1), (2, .int x2), (3, .int x3), (4, .int x4), (5, .int x5), (6, .int x6)] → W p l e (rmD 4) s m args below meth c H locs 0 0 (MQ below (QU D ad ac LM none h' s.heap.size) args s 0 0 (Aa ad LM.length s.heap.size)) (F0 m 82 ls [])) (ih105 : ∀ (x1 : Int32) (x2 : Int32) (x3 : Int32) (x4 : Int32) (x5 : Int32) (x6 : Int32) (x7 : Int32) (x8 : Int32) (x9 : Int32) (x10 : Int32) (h : Mm) (H : Heap) (locs : List Loc) (ls : Array Slot), k105 x1 x2 x3 x4 x5 x6 x7 x8 x9 x10 h = some h' → Hp D ad ac LM h s H locs → lv_has ls 12 [(0, .ref (ad 0)), (1, .int x1), (2, .int x2), (3, .int x3), (4, .int x4), (5, .int x5), (6, .int x6), (7, .int x7), (8, .int x8), (9, .int x9), (10, .int x10)] → W p l e (rmD 4) s m args below meth c H locs 0 0 (MQ below (QU D ad ac LM none h' s.heap.size) args s 0 0 (Aa ad LM.length s.heap.size)) (F0 m 105 ls [])) : ∀ (x1 : Int32) (x2 : Int32) (x3 : Int32) (x4 : Int32) (x5 : Int32) (x6 : Int32) (x7 : Int32) (x8 : Int32) (x9 : Int32) (x10 : Int32) (x11 : Int32) (t0 : Int32) (t1 : Int32) (h : Mm) (H : Heap) (locs : List Loc) (ls : Array Slot), mX11_plans_158 k82 k105 x1 x2 x3 x4 x5 x6 x7 x8 x9 x10 x11 t0 t1 h = some h' → Hp D ad ac LM h s H locs → lv_has ls 12 [(0, .ref (ad 0)), (1, .int x1), (2, .int x2), (3, .int x3), (4, .int x4), (5, .int x5), (6, .int x6), (7, .int x7), (8, .int x8), (9, .int x9), (10, .int x10), (11, .int x11)] → W p l e (rmD 4) s m args below meth c H locs 0 0 (MQ below (QU D ad ac LM none h' s.heap.size) args s 0 0 (Aa ad LM.length s.heap.size)) (F0 m 158 ls [.int t0, .int t1, .ref (ad 20)]) := by
  obtain ⟨hx, hb, hml, hown, hts, hr, hlk, hC, hI, hR⟩ := id X
  intro x1 x2 x3 x4 x5 x6 x7 x8 x9 x10 x11 t0 t1 h H locs ls hm hH hl
  rw [mX11_plans_158] at hm
  obtain ⟨hin2, hm⟩ := gIn_some hm
  obtain ⟨h1, eh1, hm⟩ := mlet_some hm
  refine ist X hH lM_20 hin2 dX11_plans_158 (fun H locs hH => ?_)
  rw [← eh1] at hH
  refine lv_iload hx hb dX11_plans_159 (lv_at hl 8 rfl) ?_
  refine lv_iload hx hb dX11_plans_161 (lv_at hl 11 rfl) ?_
  refine lv_if_ge hx hb dX11_plans_163 (tgt := 170) (by decide) (fun hc => ?_) (fun hc => ?_)
  · rw [if_pos hc] at hm
    refine lv_iconst (v := 1) hx hb dX11_plans_170 (by decide) ?_
    exact wX11_plans_171 X ih82 ih105 x1 x2 x3 x4 x5 x6 x7 x9 x10 (1 : Int32) x8 h1 _ _ _ hm hH (lv_sub hl [0, 1, 2, 3, 4, 5, 6, 7, 9, 10] rfl)
  · rw [if_neg hc] at hm
    refine lv_iconst (v := 0) hx hb dX11_plans_166 (by decide) ?_
    refine lv_goto hx hb dX11_plans_167 (tgt := 171) (by decide) ?_
    exact wX11_plans_171 X ih82 ih105 x1 x2 x3 x4 x5 x6 x7 x9 x10 (0 : Int32) x8 h1 _ _ _ hm hH (lv_sub hl [0, 1, 2, 3, 4, 5, 6, 7, 9, 10] rfl)
def mX11_plans_105 (k82 : Int32 → Int32 → Int32 → Int32 → Int32 → Int32 → Mm → Option Mm) : Nat → Int32 → Int32 → Int32 → Int32 → Int32 → Int32 → Int32 → Int32 → Int32 → Int32 → Mm → Option Mm
  | 0, _, _, _, _, _, _, _, _, _, _, _ => none
  | n + 1, x1, x2, x3, x4, x5, x6, x7, x8, x9, x10, h => if x10 < 0 then (if x3 < x9 then (mX11_plans_327 k82 x1 x2 x3 x4 x5 x6 h) else (bd1 (mX11_isWay h x2 x4) (fun v1 => if v1 = 0 then (mX11_plans_327 k82 x1 x2 x3 x4 x5 x6 h) else (if x1 = 0 then (bd1 (mX11_volumeOf_0_20 h x2 (x2 + x4)) (fun v4 => mX11_plans_256 k82 x1 x2 x3 x4 x5 x6 x8 x9 (-v4) h)) else (bd2 (mX11_lost_0_20 h) (fun v3 h2 => mX11_plans_256 k82 x1 x2 x3 x4 x5 x6 x8 x9 v3 h2)))))) else (gIn (2 : Int32) 3 (gNz ((h 5 (2 : Int32).toNatClampNeg) + (1 : Int32)) (mlet ((x7 - x7 / ((h 5 (2 : Int32).toNatClampNeg) + (1 : Int32)) * ((h 5 (2 : Int32).toNatClampNeg) + (1 : Int32))) - (1 : Int32)) (fun u6 => gIn (2 : Int32) 3 (gNz ((h 5 (2 : Int32).toNatClampNeg) + (1 : Int32)) (mlet (x7 / ((h 5 (2 : Int32).toNatClampNeg) + (1 : Int32))) (fun u8 => if 0 ≤ u6 then (mX11_plans_158 k82 (mX11_plans_105 k82 n) x1 x2 x3 x4 x5 x6 u8 x8 x9 x10 u6 u6 (x2 + x10) h) else (mX11_plans_158 k82 (mX11_plans_105 k82 n) x1 x2 x3 x4 x5 x6 u8 x8 x9 x10 u6 (-4 : Int32) (x2 + x10) h))))))))
set_option maxRecDepth 4000 in
theorem wX11_plans_105 {p : Program} {l : Launch} {e : Env} {s : State} {m : MethodId} {args : Array Value} {below : List Frame} {meth : Method} {c : Code} {D : va_G} {ad : Nat → Nat} {ac : Nat → ClassId} {h' : Mm} (X : Fx p s m args meth c cX11_plans 12 RX11 none D ad ac LM []) {k82 : Int32 → Int32 → Int32 → Int32 → Int32 → Int32 → Mm → Option Mm} (ih82 : ∀ (x1 : Int32) (x2 : Int32) (x3 : Int32) (x4 : Int32) (x5 : Int32) (x6 : Int32) (h : Mm) (H : Heap) (locs : List Loc) (ls : Array Slot), k82 x1 x2 x3 x4 x5 x6 h = some h' → Hp D ad ac LM h s H locs → lv_has ls 12 [(0, .ref (ad 0)), (1, .int x1), (2, .int x2), (3, .int x3), (4, .int x4), (5, .int x5), (6, .int x6)] → W p l e (rmD 4) s m args below meth c H locs 0 0 (MQ below (QU D ad ac LM none h' s.heap.size) args s 0 0 (Aa ad LM.length s.heap.size)) (F0 m 82 ls [])) : ∀ (n : Nat) (x1 : Int32) (x2 : Int32) (x3 : Int32) (x4 : Int32) (x5 : Int32) (x6 : Int32) (x7 : Int32) (x8 : Int32) (x9 : Int32) (x10 : Int32) (h : Mm) (H : Heap) (locs : List Loc) (ls : Array Slot), mX11_plans_105 k82 n x1 x2 x3 x4 x5 x6 x7 x8 x9 x10 h = some h' → Hp D ad ac LM h s H locs → lv_has ls 12 [(0, .ref (ad 0)), (1, .int x1), (2, .int x2), (3, .int x3), (4, .int x4), (5, .int x5), (6, .int x6), (7, .int x7), (8, .int x8), (9, .int x9), (10, .int x10)] → W p l e (rmD 4) s m args below meth c H locs 0 0 (MQ below (QU D ad ac LM none h' s.heap.size) args s 0 0 (Aa ad LM.length s.heap.size)) (F0 m 105 ls []) := by
  obtain ⟨hx, hb, hml, hown, hts, hr, hlk, hC, hI, hR⟩ := id X
  intro n
  induction n with
  | zero => intro x1 x2 x3 x4 x5 x6 x7 x8 x9 x10 h H locs ls hm; rw [mX11_plans_105] at hm; cases hm
  | succ n ih =>
    intro x1 x2 x3 x4 x5 x6 x7 x8 x9 x10 h H locs ls hm hH hl
    rw [mX11_plans_105] at hm
    refine lv_iload hx hb dX11_plans_105 (lv_at hl 10 rfl) ?_
    refine lv_if_lt hx hb dX11_plans_107 (tgt := 211) (by decide) (fun hc => ?_) (fun hc => ?_)
    · rw [if_pos hc] at hm
      refine lv_iload hx hb dX11_plans_211 (lv_at hl 9 rfl) ?_
      refine lv_iload_n hx hb dX11_plans_213 rfl (lv_at hl 3 rfl) ?_
      refine lv_icmp_gt hx hb dX11_plans_214 (tgt := 327) (by decide) (fun hc => ?_) (fun hc => ?_)
      · rw [if_pos hc] at hm
        exact wX11_plans_327 X ih82 x1 x2 x3 x4 x5 x6 h _ _ _ hm hH (lv_sub hl [0, 1, 2, 3, 4, 5, 6] rfl)
      · rw [if_neg hc] at hm
        refine lv_aload_n hx hb dX11_plans_217 rfl (lv_at hl 0 rfl) ?_
        refine lv_iload_n hx hb dX11_plans_218 rfl (lv_at hl 2 rfl) ?_
        refine lv_iload hx hb dX11_plans_219 (lv_at hl 4 rfl) ?_
        obtain ⟨v1, hq, hm⟩ := bd1_some hm
        refine cVi X hH kl_X11_193 kv_X11_isWay (mt_X11_isWay hq) lM_0 rfl rfl (by decide) hl.1 rfl (Nat.le_of_ble_eq_true rfl) dX11_plans_221 (fun H locs hH => ?_)
        refine lv_if_eq hx hb dX11_plans_224 (tgt := 327) (by decide) (fun hc => ?_) (fun hc => ?_)
        · rw [if_pos hc] at hm
          exact wX11_plans_327 X ih82 x1 x2 x3 x4 x5 x6 h _ _ _ hm hH (lv_sub hl [0, 1, 2, 3, 4, 5, 6] rfl)
        · rw [if_neg hc] at hm
          refine lv_iload_n hx hb dX11_plans_227 rfl (lv_at hl 1 rfl) ?_
          refine lv_if_ne hx hb dX11_plans_228 (tgt := 248) (by decide) (fun hc => ?_) (fun hc => ?_)
          · rw [if_neg hc] at hm
            refine lv_aload_n hx hb dX11_plans_248 rfl (lv_at hl 0 rfl) ?_
            refine lv_aload_n hx hb dX11_plans_249 rfl (lv_at hl 0 rfl) ?_
            refine gR X hH fl_X11_67 lM_0 rfl dX11_plans_250 ?_
            obtain ⟨v3, h2, hq, hm⟩ := bd2_some hm
            refine cVi X hH kl_X11_200 kv_X11_lost (mt_X11_lost_0_20 hq) lM_0 rfl rfl (by decide) hl.1 rfl (Nat.le_of_ble_eq_true rfl) dX11_plans_253 (fun H locs hH => ?_)
            exact wX11_plans_256 X ih82 x1 x2 x3 x4 x5 x6 x8 x9 v3 h2 _ _ _ hm hH (lv_sub hl [0, 1, 2, 3, 4, 5, 6, 8, 9] rfl)
          · rw [if_pos hc] at hm
            refine lv_aload_n hx hb dX11_plans_231 rfl (lv_at hl 0 rfl) ?_
            refine lv_aload_n hx hb dX11_plans_232 rfl (lv_at hl 0 rfl) ?_
            refine gR X hH fl_X11_67 lM_0 rfl dX11_plans_233 ?_
            refine lv_iload_n hx hb dX11_plans_236 rfl (lv_at hl 2 rfl) ?_
            refine lv_iload_n hx hb dX11_plans_237 rfl (lv_at hl 2 rfl) ?_
            refine lv_iload hx hb dX11_plans_238 (lv_at hl 4 rfl) ?_
            refine lv_iadd hx hb dX11_plans_240 ?_
            obtain ⟨v4, hq, hm⟩ := bd1_some hm
            refine cVi X hH kl_X11_196 kv_X11_volumeOf (mt_X11_volumeOf_0_20 hq) lM_0 rfl rfl (by decide) hl.1 rfl (Nat.le_of_ble_eq_true rfl) dX11_plans_241 (fun H locs hH => ?_)
            refine lv_ineg hx hb dX11_plans_244 ?_
            refine lv_goto hx hb dX11_plans_245 (tgt := 256) (by decide) ?_
            exact wX11_plans_256 X ih82 x1 x2 x3 x4 x5 x6 x8 x9 (-v4) h _ _ _ hm hH (lv_sub hl [0, 1, 2, 3, 4, 5, 6, 8, 9] rfl)
    · rw [if_neg hc] at hm
      refine lv_iload hx hb dX11_plans_110 (lv_at hl 7 rfl) ?_
      refine lv_aload_n hx hb dX11_plans_112 rfl (lv_at hl 0 rfl) ?_
      refine gR X hH fl_X11_22 lM_0 rfl dX11_plans_113 ?_
      refine lv_iconst (v := 2) hx hb dX11_plans_116 (by decide) ?_
      obtain ⟨hin5, hm⟩ := gIn_some hm
      refine ild X hH lM_5 hin5 dX11_plans_117 ?_
      refine lv_iconst (v := 1) hx hb dX11_plans_118 (by decide) ?_
      refine lv_iadd hx hb dX11_plans_119 ?_
      obtain ⟨hnz, hm⟩ := gNz_some hm
      refine lv_irem hx hb dX11_plans_120 hnz ?_
      refine lv_iconst (v := 1) hx hb dX11_plans_121 (by decide) ?_
      refine lv_isub hx hb dX11_plans_122 ?_
      obtain ⟨u6, eu6, hm⟩ := mlet_some hm
      refine W.eq (g2 := F0 m 123 ls (.int u6 :: [])) (by rw [eu6]) ?_
      refine lv_istore (lv' := [(11, .int u6), (0, .ref (ad 0)), (1, .int x1), (2, .int x2), (3, .int x3), (4, .int x4), (5, .int x5), (6, .int x6), (7, .int x7), (8, .int x8), (9, .int x9), (10, .int x10)]) hx hb dX11_plans_123 hl (by decide) rfl (fun ls hl => ?_)
      refine lv_iload hx hb dX11_plans_125 (lv_at hl 8 rfl) ?_
      refine lv_aload_n hx hb dX11_plans_127 rfl (lv_at hl 1 rfl) ?_
      refine gR X hH fl_X11_22 lM_0 rfl dX11_plans_128 ?_
      refine lv_iconst (v := 2) hx hb dX11_plans_131 (by decide) ?_
      obtain ⟨hin7, hm⟩ := gIn_some hm
      refine ild X hH lM_5 hin7 dX11_plans_132 ?_
      refine lv_iconst (v := 1) hx hb dX11_plans_133 (by decide) ?_
      refine lv_iadd hx hb dX11_plans_134 ?_
      obtain ⟨hnz, hm⟩ := gNz_some hm
      refine lv_idiv hx hb dX11_plans_135 hnz ?_
      obtain ⟨u8, eu8, hm⟩ := mlet_some hm
      refine W.eq (g2 := F0 m 136 ls (.int u8 :: [])) (by rw [eu8]) ?_
      refine lv_istore (lv' := [(7, .int u8), (11, .int u6), (0, .ref (ad 0)), (1, .int x1), (2, .int x2), (3, .int x3), (4, .int x4), (5, .int x5), (6, .int x6), (8, .int x8), (9, .int x9), (10, .int x10)]) hx hb dX11_plans_136 hl (by decide) rfl (fun ls hl => ?_)
      refine lv_aload_n hx hb dX11_plans_138 rfl (lv_at hl 2 rfl) ?_
      refine gR X hH fl_X11_67 lM_0 rfl dX11_plans_139 ?_
      refine lv_iload_n hx hb dX11_plans_142 rfl (lv_at hl 4 rfl) ?_
      refine lv_iload hx hb dX11_plans_143 (lv_at hl 11 rfl) ?_
      refine lv_iadd hx hb dX11_plans_145 ?_
      refine lv_iload hx hb dX11_plans_146 (lv_at hl 1 rfl) ?_
      refine lv_if_ge hx hb dX11_plans_148 (tgt := 156) (by decide) (fun hc => ?_) (fun hc => ?_)
      · rw [if_pos hc] at hm
        refine lv_iload hx hb dX11_plans_156 (lv_at hl 1 rfl) ?_
        exact wX11_plans_158 X ih82 ih x1 x2 x3 x4 x5 x6 u8 x8 x9 x10 u6 u6 (x2 + x10) h _ _ _ hm hH (lv_sub hl [2, 3, 4, 5, 6, 7, 8, 0, 9, 10, 11, 1] rfl)
      · rw [if_neg hc] at hm
        refine lv_bipush (v := (-4)) hx hb dX11_plans_151 (by decide) ?_
        refine lv_goto hx hb dX11_plans_153 (tgt := 158) (by decide) ?_
        exact wX11_plans_158 X ih82 ih x1 x2 x3 x4 x5 x6 u8 x8 x9 x10 u6 (-4 : Int32) (x2 + x10) h _ _ _ hm hH (lv_sub hl [2, 3, 4, 5, 6, 7, 8, 0, 9, 10, 11, 1] rfl)
def mX11_plans_82 : Nat → Int32 → Int32 → Int32 → Int32 → Int32 → Int32 → Mm → Option Mm
  | 0, _, _, _, _, _, _, _ => none
  | n + 1, x1, x2, x3, x4, x5, x6, h => if x5 ≤ x6 then (mX11_plans_336 FU x2 x4 (0 : Int32) h) else (mlet (x4 - (1 : Int32)) (fun u1 => mX11_plans_105 (mX11_plans_82 n) FU x1 x2 x3 x4 x5 x6 x6 (0 : Int32) (0 : Int32) u1 h))
set_option maxRecDepth 4000 in
theorem wX11_plans_82 {p : Program} {l : Launch} {e : Env} {s : State} {m : MethodId} {args : Array Value} {below : List Frame} {meth : Method} {c : Code} {D : va_G} {ad : Nat → Nat} {ac : Nat → ClassId} {h' : Mm} (X : Fx p s m args meth c cX11_plans 12 RX11 none D ad ac LM []) : ∀ (n : Nat) (x1 : Int32) (x2 : Int32) (x3 : Int32) (x4 : Int32) (x5 : Int32) (x6 : Int32) (h : Mm) (H : Heap) (locs : List Loc) (ls : Array Slot), mX11_plans_82 n x1 x2 x3 x4 x5 x6 h = some h' → Hp D ad ac LM h s H locs → lv_has ls 12 [(0, .ref (ad 0)), (1, .int x1), (2, .int x2), (3, .int x3), (4, .int x4), (5, .int x5), (6, .int x6)] → W p l e (rmD 4) s m args below meth c H locs 0 0 (MQ below (QU D ad ac LM none h' s.heap.size) args s 0 0 (Aa ad LM.length s.heap.size)) (F0 m 82 ls []) := by
  obtain ⟨hx, hb, hml, hown, hts, hr, hlk, hC, hI, hR⟩ := id X
  intro n
  induction n with
  | zero => intro x1 x2 x3 x4 x5 x6 h H locs ls hm; rw [mX11_plans_82] at hm; cases hm
  | succ n ih =>
    intro x1 x2 x3 x4 x5 x6 h H locs ls hm hH hl
    rw [mX11_plans_82] at hm
    refine lv_iload hx hb dX11_plans_82 (lv_at hl 6 rfl) ?_
    refine lv_iload hx hb dX11_plans_84 (lv_at hl 5 rfl) ?_
    refine lv_icmp_ge hx hb dX11_plans_86 (tgt := 333) (by decide) (fun hc => ?_) (fun hc => ?_)
    · rw [if_pos hc] at hm
      refine lv_iconst (v := 0) hx hb dX11_plans_333 (by decide) ?_
      refine lv_istore (lv' := [(6, .int (0 : Int32)), (0, .ref (ad 0)), (1, .int x1), (2, .int x2), (3, .int x3), (4, .int x4), (5, .int x5)]) hx hb dX11_plans_334 hl (by decide) rfl (fun ls hl => ?_)
      exact wX11_plans_336 X FU x2 x4 (0 : Int32) h _ _ _ hm hH (lv_sub hl [1, 3, 5, 0] rfl)
    · rw [if_neg hc] at hm
      refine lv_iload hx hb dX11_plans_89 (lv_at hl 6 rfl) ?_
      refine lv_istore (lv' := [(7, .int x6), (0, .ref (ad 0)), (1, .int x1), (2, .int x2), (3, .int x3), (4, .int x4), (5, .int x5), (6, .int x6)]) hx hb dX11_plans_91 hl (by decide) rfl (fun ls hl => ?_)
      refine lv_iconst (v := 0) hx hb dX11_plans_93 (by decide) ?_
      refine lv_istore (lv' := [(8, .int (0 : Int32)), (7, .int x6), (0, .ref (ad 0)), (1, .int x1), (2, .int x2), (3, .int x3), (4, .int x4), (5, .int x5), (6, .int x6)]) hx hb dX11_plans_94 hl (by decide) rfl (fun ls hl => ?_)
      refine lv_iconst (v := 0) hx hb dX11_plans_96 (by decide) ?_
      refine lv_istore (lv' := [(9, .int (0 : Int32)), (8, .int (0 : Int32)), (7, .int x6), (0, .ref (ad 0)), (1, .int x1), (2, .int x2), (3, .int x3), (4, .int x4), (5, .int x5), (6, .int x6)]) hx hb dX11_plans_97 hl (by decide) rfl (fun ls hl => ?_)
      refine lv_iload hx hb dX11_plans_99 (lv_at hl 7 rfl) ?_
      refine lv_iconst (v := 1) hx hb dX11_plans_101 (by decide) ?_
      refine lv_isub hx hb dX11_plans_102 ?_
      obtain ⟨u1, eu1, hm⟩ := mlet_some hm
      refine W.eq (g2 := F0 m 103 ls (.int u1 :: [])) (by rw [eu1]) ?_
      refine lv_istore (lv' := [(10, .int u1), (9, .int (0 : Int32)), (8, .int (0 : Int32)), (7, .int x6), (0, .ref (ad 0)), (1, .int x1), (2, .int x2), (3, .int x3), (4, .int x4), (5, .int x5), (6, .int x6)]) hx hb dX11_plans_103 hl (by decide) rfl (fun ls hl => ?_)
      exact wX11_plans_105 X ih FU x1 x2 x3 x4 x5 x6 x6 (0 : Int32) (0 : Int32) u1 h _ _ _ hm hH (lv_sub hl [4, 5, 6, 7, 8, 9, 10, 3, 2, 1, 0] rfl)
def mX11_plans_50 : Nat → Int32 → Int32 → Int32 → Int32 → Int32 → Int32 → Mm → Option Mm
  | 0, _, _, _, _, _, _, _ => none
  | n + 1, x1, x2, x3, x4, x5, x6, h => if (h 0 16) ≤ x6 then (mX11_plans_82 FU x1 x2 x3 x4 x5 (0 : Int32) h) else (gIn x6 32 (gIn x6 24 (mlet (wr h 20 x6.toNatClampNeg (h 15 x6.toNatClampNeg)) (fun h2 => mX11_plans_50 n x1 x2 x3 x4 x5 (x6 + 1) h2))))
set_option maxRecDepth 4000 in
theorem wX11_plans_50 {p : Program} {l : Launch} {e : Env} {s : State} {m : MethodId} {args : Array Value} {below : List Frame} {meth : Method} {c : Code} {D : va_G} {ad : Nat → Nat} {ac : Nat → ClassId} {h' : Mm} (X : Fx p s m args meth c cX11_plans 12 RX11 none D ad ac LM []) : ∀ (n : Nat) (x1 : Int32) (x2 : Int32) (x3 : Int32) (x4 : Int32) (x5 : Int32) (x6 : Int32) (h : Mm) (H : Heap) (locs : List Loc) (ls : Array Slot), mX11_plans_50 n x1 x2 x3 x4 x5 x6 h = some h' → Hp D ad ac LM h s H locs → lv_has ls 12 [(0, .ref (ad 0)), (1, .int x1), (2, .int x2), (3, .int x3), (4, .int x4), (5, .int x5), (6, .int x6)] → W p l e (rmD 4) s m args below meth c H locs 0 0 (MQ below (QU D ad ac LM none h' s.heap.size) args s 0 0 (Aa ad LM.length s.heap.size)) (F0 m 50 ls []) := by
  obtain ⟨hx, hb, hml, hown, hts, hr, hlk, hC, hI, hR⟩ := id X
  intro n
  induction n with
  | zero => intro x1 x2 x3 x4 x5 x6 h H locs ls hm; rw [mX11_plans_50] at hm; cases hm
  | succ n ih =>
    intro x1 x2 x3 x4 x5 x6 h H locs ls hm hH hl
    rw [mX11_plans_50] at hm
    refine lv_iload hx hb dX11_plans_50 (lv_at hl 6 rfl) ?_
    refine lv_aload_n hx hb dX11_plans_52 rfl (lv_at hl 0 rfl) ?_
    refine gI X hH fl_X11_124 lM_0 rfl dX11_plans_53 ?_
    refine lv_icmp_ge hx hb dX11_plans_56 (tgt := 79) (by decide) (fun hc => ?_) (fun hc => ?_)
    · rw [if_pos hc] at hm
      refine lv_iconst (v := 0) hx hb dX11_plans_79 (by decide) ?_
      refine lv_istore (lv' := [(6, .int (0 : Int32)), (0, .ref (ad 0)), (1, .int x1), (2, .int x2), (3, .int x3), (4, .int x4), (5, .int x5)]) hx hb dX11_plans_80 hl (by decide) rfl (fun ls hl => ?_)
      exact wX11_plans_82 X FU x1 x2 x3 x4 x5 (0 : Int32) h _ _ _ hm hH (lv_sub hl [1, 2, 3, 4, 5, 6, 0] rfl)
    · rw [if_neg hc] at hm
      refine lv_aload_n hx hb dX11_plans_59 rfl (lv_at hl 0 rfl) ?_
      refine gR X hH fl_X11_67 lM_0 rfl dX11_plans_60 ?_
      refine lv_iload hx hb dX11_plans_63 (lv_at hl 6 rfl) ?_
      refine lv_aload_n hx hb dX11_plans_65 rfl (lv_at hl 0 rfl) ?_
      refine gR X hH fl_X11_52 lM_0 rfl dX11_plans_66 ?_
      refine lv_iload hx hb dX11_plans_69 (lv_at hl 6 rfl) ?_
      obtain ⟨hin1, hm⟩ := gIn_some hm
      refine ild X hH lM_15 hin1 dX11_plans_71 ?_
      obtain ⟨hin3, hm⟩ := gIn_some hm
      obtain ⟨h2, eh2, hm⟩ := mlet_some hm
      refine ist X hH lM_20 hin3 dX11_plans_72 (fun H locs hH => ?_)
      rw [← eh2] at hH
      refine lv_iinc (k := 6) (v := (x6 + 1)) (lv' := [(6, .int (x6 + 1)), (0, .ref (ad 0)), (1, .int x1), (2, .int x2), (3, .int x3), (4, .int x4), (5, .int x5)]) hx hb dX11_plans_73 hl rfl rfl (by decide) rfl (fun ls hl => ?_)
      refine lv_goto hx hb dX11_plans_76 (tgt := 50) (by decide) ?_
      exact ih x1 x2 x3 x4 x5 (x6 + 1) h2 _ _ _ hm hH (lv_sub hl [1, 2, 3, 4, 5, 6, 0] rfl)
def mX11_plans_13 : Nat → Int32 → Int32 → Int32 → Int32 → Int32 → Int32 → Mm → Option Mm
  | 0, _, _, _, _, _, _, _ => none
  | n + 1, x1, x2, x3, x4, x5, x6, h => if x4 ≤ x6 then (gIn (0 : Int32) 4 (mlet (wr h 22 (0 : Int32).toNatClampNeg (1000000 : Int32)) (fun h1 => mX11_plans_50 FU x1 x2 x3 x4 x5 (0 : Int32) h1))) else (gIn (2 : Int32) 3 (mlet (x5 * ((h 5 (2 : Int32).toNatClampNeg) + (1 : Int32))) (fun u4 => mX11_plans_13 n x1 x2 x3 x4 u4 (x6 + 1) h)))
set_option maxRecDepth 4000 in
theorem wX11_plans_13 {p : Program} {l : Launch} {e : Env} {s : State} {m : MethodId} {args : Array Value} {below : List Frame} {meth : Method} {c : Code} {D : va_G} {ad : Nat → Nat} {ac : Nat → ClassId} {h' : Mm} (X : Fx p s m args meth c cX11_plans 12 RX11 none D ad ac LM []) : ∀ (n : Nat) (x1 : Int32) (x2 : Int32) (x3 : Int32) (x4 : Int32) (x5 : Int32) (x6 : Int32) (h : Mm) (H : Heap) (locs : List Loc) (ls : Array Slot), mX11_plans_13 n x1 x2 x3 x4 x5 x6 h = some h' → Hp D ad ac LM h s H locs → lv_has ls 12 [(0, .ref (ad 0)), (1, .int x1), (2, .int x2), (3, .int x3), (4, .int x4), (5, .int x5), (6, .int x6)] → W p l e (rmD 4) s m args below meth c H locs 0 0 (MQ below (QU D ad ac LM none h' s.heap.size) args s 0 0 (Aa ad LM.length s.heap.size)) (F0 m 13 ls []) := by
  obtain ⟨hx, hb, hml, hown, hts, hr, hlk, hC, hI, hR⟩ := id X
  intro n
  induction n with
  | zero => intro x1 x2 x3 x4 x5 x6 h H locs ls hm; rw [mX11_plans_13] at hm; cases hm
  | succ n ih =>
    intro x1 x2 x3 x4 x5 x6 h H locs ls hm hH hl
    rw [mX11_plans_13] at hm
    refine lv_iload hx hb dX11_plans_13 (lv_at hl 6 rfl) ?_
    refine lv_iload hx hb dX11_plans_15 (lv_at hl 4 rfl) ?_
    refine lv_icmp_ge hx hb dX11_plans_17 (tgt := 39) (by decide) (fun hc => ?_) (fun hc => ?_)
    · rw [if_pos hc] at hm
      refine lv_aload_n hx hb dX11_plans_39 rfl (lv_at hl 0 rfl) ?_
      refine gR X hH fl_X11_73 lM_0 rfl dX11_plans_40 ?_
      refine lv_iconst (v := 0) hx hb dX11_plans_43 (by decide) ?_
      refine lv_ldc hx hb hown (hts _ kc_X11_192) dX11_plans_44 ?_
      obtain ⟨hin2, hm⟩ := gIn_some hm
      obtain ⟨h1, eh1, hm⟩ := mlet_some hm
      refine ist X hH lM_22 hin2 dX11_plans_46 (fun H locs hH => ?_)
      rw [← eh1] at hH
      refine lv_iconst (v := 0) hx hb dX11_plans_47 (by decide) ?_
      refine lv_istore (lv' := [(6, .int (0 : Int32)), (0, .ref (ad 0)), (1, .int x1), (2, .int x2), (3, .int x3), (4, .int x4), (5, .int x5)]) hx hb dX11_plans_48 hl (by decide) rfl (fun ls hl => ?_)
      exact wX11_plans_50 X FU x1 x2 x3 x4 x5 (0 : Int32) h1 _ _ _ hm hH (lv_sub hl [1, 2, 3, 4, 5, 6, 0] rfl)
    · rw [if_neg hc] at hm
      refine lv_iload hx hb dX11_plans_20 (lv_at hl 5 rfl) ?_
      refine lv_aload_n hx hb dX11_plans_22 rfl (lv_at hl 0 rfl) ?_
      refine gR X hH fl_X11_22 lM_0 rfl dX11_plans_23 ?_
      refine lv_iconst (v := 2) hx hb dX11_plans_26 (by decide) ?_
      obtain ⟨hin3, hm⟩ := gIn_some hm
      refine ild X hH lM_5 hin3 dX11_plans_27 ?_
      refine lv_iconst (v := 1) hx hb dX11_plans_28 (by decide) ?_
      refine lv_iadd hx hb dX11_plans_29 ?_
      refine lv_imul hx hb dX11_plans_30 ?_
      obtain ⟨u4, eu4, hm⟩ := mlet_some hm
      refine W.eq (g2 := F0 m 31 ls (.int u4 :: [])) (by rw [eu4]) ?_
      refine lv_istore (lv' := [(5, .int u4), (0, .ref (ad 0)), (1, .int x1), (2, .int x2), (3, .int x3), (4, .int x4), (6, .int x6)]) hx hb dX11_plans_31 hl (by decide) rfl (fun ls hl => ?_)
      refine lv_iinc (k := 6) (v := (x6 + 1)) (lv' := [(6, .int (x6 + 1)), (5, .int u4), (0, .ref (ad 0)), (1, .int x1), (2, .int x2), (3, .int x3), (4, .int x4)]) hx hb dX11_plans_33 hl rfl rfl (by decide) rfl (fun ls hl => ?_)
      refine lv_goto hx hb dX11_plans_36 (tgt := 13) (by decide) ?_
      exact ih x1 x2 x3 x4 u4 (x6 + 1) h _ _ _ hm hH (lv_sub hl [2, 3, 4, 5, 6, 1, 0] rfl)
def mX11_plans (h : Mm) (a1 : Int32) (a2 : Int32) (a3 : Int32) : Option Mm := bd1 (mX11_wide h a2) (fun v1 => mX11_plans_13 FU a1 a2 a3 v1 (1 : Int32) (0 : Int32) h)
set_option maxRecDepth 4000 in
theorem mt_X11_plans {l : Launch} {D : va_G} {ad : Nat → Nat} {ac : Nat → ClassId} {h : Mm} {a1 : Int32} {a2 : Int32} {a3 : Int32} {h' : Mm} (hm : mX11_plans h a1 a2 a3 = some h') : Mt l D ad ac LM [] yX11_plans cX11_plans 12 none 4 [.ref (ad 0), .int a1, .int a2, .int a3] h none h' := by
  refine Mt.of (own := RX11) (by decide) rfl (Nat.le_of_ble_eq_true rfl) ?_
  intro p e s m below meth c ls X hH hl
  obtain ⟨hx, hb, hml, hown, hts, hr, hlk, hC, hI, hR⟩ := id X
  have hl : lv_has ls 12 [(0, .ref (ad 0)), (1, .int a1), (2, .int a2), (3, .int a3)] := hl
  rw [mX11_plans] at hm
  refine lv_aload_n hx hb dX11_plans_0 rfl (lv_at hl 0 rfl) ?_
  refine lv_iload_n hx hb dX11_plans_1 rfl (lv_at hl 2 rfl) ?_
  obtain ⟨v1, hq, hm⟩ := bd1_some hm
  refine cVi X hH kl_X11_189 kv_X11_wide (mt_X11_wide hq) lM_0 rfl rfl (by decide) hl.1 rfl (Nat.le_of_ble_eq_true rfl) dX11_plans_2 (fun H locs hH => ?_)
  refine lv_istore (lv' := [(4, .int v1), (0, .ref (ad 0)), (1, .int a1), (2, .int a2), (3, .int a3)]) hx hb dX11_plans_5 hl (by decide) rfl (fun ls hl => ?_)
  refine lv_iconst (v := 1) hx hb dX11_plans_7 (by decide) ?_
  refine lv_istore (lv' := [(5, .int (1 : Int32)), (4, .int v1), (0, .ref (ad 0)), (1, .int a1), (2, .int a2), (3, .int a3)]) hx hb dX11_plans_8 hl (by decide) rfl (fun ls hl => ?_)
  refine lv_iconst (v := 0) hx hb dX11_plans_10 (by decide) ?_
  refine lv_istore (lv' := [(6, .int (0 : Int32)), (5, .int (1 : Int32)), (4, .int v1), (0, .ref (ad 0)), (1, .int a1), (2, .int a2), (3, .int a3)]) hx hb dX11_plans_11 hl (by decide) rfl (fun ls hl => ?_)
  exact wX11_plans_13 X FU a1 a2 a3 v1 (1 : Int32) (0 : Int32) h _ _ _ hm hH (lv_sub hl [3, 4, 5, 6, 2, 1, 0] rfl)
/-! X11_note -/
def mX11_note_51 : Nat → Int32 → Mm → Option Mm
  | 0, _, _ => none
  | n + 1, x1, h => if (32 : Int32) ≤ x1 then (mlet (wr h 0 19 ((h 0 19) + (1 : Int32))) (fun h1 => some h1)) else (gIn x1 32 (gIn (((32 : Int32) * (h 0 19)) + x1) 192 (mlet (wr h 16 (((32 : Int32) * (h 0 19)) + x1).toNatClampNeg (h 15 x1.toNatClampNeg)) (fun h3 => mX11_note_51 n (x1 + 1) h3))))
set_option maxRecDepth 4000 in
theorem wX11_note_51 {p : Program} {l : Launch} {e : Env} {s : State} {m : MethodId} {args : Array Value} {below : List Frame} {meth : Method} {c : Code} {D : va_G} {ad : Nat → Nat} {ac : Nat → ClassId} {h' : Mm} (X : Fx p s m args meth c cX11_note 2 RX11 none D ad ac LM []) : ∀ (n : Nat) (x1 : Int32) (h : Mm) (H : Heap) (locs : List Loc) (ls : Array Slot), mX11_note_51 n x1 h = some h' → Hp D ad ac LM h s H locs → lv_has ls 2 [(0, .ref (ad 0)), (1, .int x1)] → W p l e (rmD 0) s m args below meth c H locs 0 0 (MQ below (QU D ad ac LM none h' s.heap.size) args s 0 0 (Aa ad LM.length s.heap.size)) (F0 m 51 ls []) := by
  obtain ⟨hx, hb, hml, hown, hts, hr, hlk, hC, hI, hR⟩ := id X
  intro n
  induction n with
  | zero => intro x1 h H locs ls hm; rw [mX11_note_51] at hm; cases hm
  | succ n ih =>
    intro x1 h H locs ls hm hH hl
    rw [mX11_note_51] at hm
    refine lv_iload_n hx hb dX11_note_51 rfl (lv_at hl 1 rfl) ?_
    refine lv_bipush (v := 32) hx hb dX11_note_52 (by decide) ?_
    refine lv_icmp_ge hx hb dX11_note_54 (tgt := 83) (by decide) (fun hc => ?_) (fun hc => ?_)
    · rw [if_pos hc] at hm
      refine lv_aload_n hx hb dX11_note_83 rfl (lv_at hl 0 rfl) ?_
      refine lv_dup hx hb dX11_note_84 rfl ?_
      refine gI X hH fl_X11_135 lM_0 rfl dX11_note_85 ?_
      refine lv_iconst (v := 1) hx hb dX11_note_88 (by decide) ?_
      refine lv_iadd hx hb dX11_note_89 ?_
      obtain ⟨h1, eh1, hm⟩ := mlet_some hm
      refine pI X hH fl_X11_135 fw_11_19 lM_0 rfl dX11_note_90 (fun H locs hH => ?_)
      rw [← eh1] at hH
      cases hm
      exact retV X hH dX11_note_93
    · rw [if_neg hc] at hm
      refine lv_aload_n hx hb dX11_note_57 rfl (lv_at hl 0 rfl) ?_
      refine gR X hH fl_X11_55 lM_0 rfl dX11_note_58 ?_
      refine lv_bipush (v := 32) hx hb dX11_note_61 (by decide) ?_
      refine lv_aload_n hx hb dX11_note_63 rfl (lv_at hl 0 rfl) ?_
      refine gI X hH fl_X11_135 lM_0 rfl dX11_note_64 ?_
      refine lv_imul hx hb dX11_note_67 ?_
      refine lv_iload_n hx hb dX11_note_68 rfl (lv_at hl 1 rfl) ?_
      refine lv_iadd hx hb dX11_note_69 ?_
      refine lv_aload_n hx hb dX11_note_70 rfl (lv_at hl 0 rfl) ?_
      refine gR X hH fl_X11_52 lM_0 rfl dX11_note_71 ?_
      refine lv_iload_n hx hb dX11_note_74 rfl (lv_at hl 1 rfl) ?_
      obtain ⟨hin2, hm⟩ := gIn_some hm
      refine ild X hH lM_15 hin2 dX11_note_75 ?_
      obtain ⟨hin4, hm⟩ := gIn_some hm
      obtain ⟨h3, eh3, hm⟩ := mlet_some hm
      refine ist X hH lM_16 hin4 dX11_note_76 (fun H locs hH => ?_)
      rw [← eh3] at hH
      refine lv_iinc (k := 1) (v := (x1 + 1)) (lv' := [(1, .int (x1 + 1)), (0, .ref (ad 0))]) hx hb dX11_note_77 hl rfl rfl (by decide) rfl (fun ls hl => ?_)
      refine lv_goto hx hb dX11_note_80 (tgt := 51) (by decide) ?_
      exact ih (x1 + 1) h3 _ _ _ hm hH (lv_sub hl [1, 0] rfl)
def mX11_note_49 (h : Mm) : Option Mm := mX11_note_51 FU (0 : Int32) h
set_option maxRecDepth 4000 in
theorem wX11_note_49 {p : Program} {l : Launch} {e : Env} {s : State} {m : MethodId} {args : Array Value} {below : List Frame} {meth : Method} {c : Code} {D : va_G} {ad : Nat → Nat} {ac : Nat → ClassId} {h' : Mm} (X : Fx p s m args meth c cX11_note 2 RX11 none D ad ac LM []) : ∀ (h : Mm) (H : Heap) (locs : List Loc) (ls : Array Slot), mX11_note_49 h = some h' → Hp D ad ac LM h s H locs → lv_has ls 2 [(0, .ref (ad 0))] → W p l e (rmD 0) s m args below meth c H locs 0 0 (MQ below (QU D ad ac LM none h' s.heap.size) args s 0 0 (Aa ad LM.length s.heap.size)) (F0 m 49 ls []) := by
  obtain ⟨hx, hb, hml, hown, hts, hr, hlk, hC, hI, hR⟩ := id X
  intro h H locs ls hm hH hl
  rw [mX11_note_49] at hm
  refine lv_iconst (v := 0) hx hb dX11_note_49 (by decide) ?_
  refine lv_istore_n (lv' := [(1, .int (0 : Int32)), (0, .ref (ad 0))]) hx hb dX11_note_50 rfl hl (by decide) rfl (fun ls hl => ?_)
  exact wX11_note_51 X FU (0 : Int32) h _ _ _ hm hH (lv_sub hl [1, 0] rfl)
def mX11_note_11 : Nat → Int32 → Mm → Option Mm
  | 0, _, _ => none
  | n + 1, x1, h => if (160 : Int32) ≤ x1 then (mlet (wr h 0 19 ((h 0 19) - (1 : Int32))) (fun h1 => mX11_note_49  h1)) else (gIn ((32 : Int32) + x1) 192 (gIn x1 192 (mlet (wr h 16 x1.toNatClampNeg (h 16 ((32 : Int32) + x1).toNatClampNeg)) (fun h3 => mX11_note_11 n (x1 + 1) h3))))
set_option maxRecDepth 4000 in
theorem wX11_note_11 {p : Program} {l : Launch} {e : Env} {s : State} {m : MethodId} {args : Array Value} {below : List Frame} {meth : Method} {c : Code} {D : va_G} {ad : Nat → Nat} {ac : Nat → ClassId} {h' : Mm} (X : Fx p s m args meth c cX11_note 2 RX11 none D ad ac LM []) : ∀ (n : Nat) (x1 : Int32) (h : Mm) (H : Heap) (locs : List Loc) (ls : Array Slot), mX11_note_11 n x1 h = some h' → Hp D ad ac LM h s H locs → lv_has ls 2 [(0, .ref (ad 0)), (1, .int x1)] → W p l e (rmD 0) s m args below meth c H locs 0 0 (MQ below (QU D ad ac LM none h' s.heap.size) args s 0 0 (Aa ad LM.length s.heap.size)) (F0 m 11 ls []) := by
  obtain ⟨hx, hb, hml, hown, hts, hr, hlk, hC, hI, hR⟩ := id X
  intro n
  induction n with
  | zero => intro x1 h H locs ls hm; rw [mX11_note_11] at hm; cases hm
  | succ n ih =>
    intro x1 h H locs ls hm hH hl
    rw [mX11_note_11] at hm
    refine lv_iload_n hx hb dX11_note_11 rfl (lv_at hl 1 rfl) ?_
    refine lv_sipush (v := 160) hx hb dX11_note_12 (by decide) ?_
    refine lv_icmp_ge hx hb dX11_note_15 (tgt := 39) (by decide) (fun hc => ?_) (fun hc => ?_)
    · rw [if_pos hc] at hm
      refine lv_aload_n hx hb dX11_note_39 rfl (lv_at hl 0 rfl) ?_
      refine lv_dup hx hb dX11_note_40 rfl ?_
      refine gI X hH fl_X11_135 lM_0 rfl dX11_note_41 ?_
      refine lv_iconst (v := 1) hx hb dX11_note_44 (by decide) ?_
      refine lv_isub hx hb dX11_note_45 ?_
      obtain ⟨h1, eh1, hm⟩ := mlet_some hm
      refine pI X hH fl_X11_135 fw_11_19 lM_0 rfl dX11_note_46 (fun H locs hH => ?_)
      rw [← eh1] at hH
      exact wX11_note_49 X  h1 _ _ _ hm hH (lv_sub hl [0] rfl)
    · rw [if_neg hc] at hm
      refine lv_aload_n hx hb dX11_note_18 rfl (lv_at hl 0 rfl) ?_
      refine gR X hH fl_X11_55 lM_0 rfl dX11_note_19 ?_
      refine lv_iload_n hx hb dX11_note_22 rfl (lv_at hl 1 rfl) ?_
      refine lv_aload_n hx hb dX11_note_23 rfl (lv_at hl 0 rfl) ?_
      refine gR X hH fl_X11_55 lM_0 rfl dX11_note_24 ?_
      refine lv_bipush (v := 32) hx hb dX11_note_27 (by decide) ?_
      refine lv_iload_n hx hb dX11_note_29 rfl (lv_at hl 1 rfl) ?_
      refine lv_iadd hx hb dX11_note_30 ?_
      obtain ⟨hin2, hm⟩ := gIn_some hm
      refine ild X hH lM_16 hin2 dX11_note_31 ?_
      obtain ⟨hin4, hm⟩ := gIn_some hm
      obtain ⟨h3, eh3, hm⟩ := mlet_some hm
      refine ist X hH lM_16 hin4 dX11_note_32 (fun H locs hH => ?_)
      rw [← eh3] at hH
      refine lv_iinc (k := 1) (v := (x1 + 1)) (lv' := [(1, .int (x1 + 1)), (0, .ref (ad 0))]) hx hb dX11_note_33 hl rfl rfl (by decide) rfl (fun ls hl => ?_)
      refine lv_goto hx hb dX11_note_36 (tgt := 11) (by decide) ?_
      exact ih (x1 + 1) h3 _ _ _ hm hH (lv_sub hl [1, 0] rfl)
def mX11_note (h : Mm) : Option Mm := if (h 0 19) = (6 : Int32) then (mX11_note_11 FU (0 : Int32) h) else (mX11_note_49  h)
set_option maxRecDepth 4000 in
theorem mt_X11_note {l : Launch} {D : va_G} {ad : Nat → Nat} {ac : Nat → ClassId} {h : Mm} {h' : Mm} (hm : mX11_note h = some h') : Mt l D ad ac LM [] yX11_note cX11_note 2 none 0 [.ref (ad 0)] h none h' := by
  refine Mt.of (own := RX11) (by decide) rfl (Nat.le_of_ble_eq_true rfl) ?_
  intro p e s m below meth c ls X hH hl
  obtain ⟨hx, hb, hml, hown, hts, hr, hlk, hC, hI, hR⟩ := id X
  have hl : lv_has ls 2 [(0, .ref (ad 0))] := hl
  rw [mX11_note] at hm
  refine lv_aload_n hx hb dX11_note_0 rfl (lv_at hl 0 rfl) ?_
  refine gI X hH fl_X11_135 lM_0 rfl dX11_note_1 ?_
  refine lv_bipush (v := 6) hx hb dX11_note_4 (by decide) ?_
  refine lv_icmp_ne hx hb dX11_note_6 (tgt := 49) (by decide) (fun hc => ?_) (fun hc => ?_)
  · rw [if_neg hc] at hm
    exact wX11_note_49 X  h _ _ _ hm hH (lv_sub hl [0] rfl)
  · rw [if_pos hc] at hm
    refine lv_iconst (v := 0) hx hb dX11_note_9 (by decide) ?_
    refine lv_istore_n (lv' := [(1, .int (0 : Int32)), (0, .ref (ad 0))]) hx hb dX11_note_10 rfl hl (by decide) rfl (fun ls hl => ?_)
    exact wX11_note_11 X FU (0 : Int32) h _ _ _ hm hH (lv_sub hl [1, 0] rfl)
/-! X11_adopt -/
def mX11_adopt_46 : Nat → Int32 → Int32 → Mm → Option (Int32 × Mm)
  | 0, _, _, _ => none
  | n + 1, x2, x4, h => bd1 (mX11_wide h x2) (fun v1 => if v1 ≤ x4 then (gIn (2 : Int32) 4 (some ((h 22 (2 : Int32).toNatClampNeg), h))) else (gIn x4 6 (gIn (x2 + x4) 32 (mlet (wr h 15 (x2 + x4).toNatClampNeg (h 21 x4.toNatClampNeg)) (fun h4 => mX11_adopt_46 n x2 (x4 + 1) h4)))))
set_option maxRecDepth 4000 in
theorem wX11_adopt_46 {p : Program} {l : Launch} {e : Env} {s : State} {m : MethodId} {args : Array Value} {below : List Frame} {meth : Method} {c : Code} {D : va_G} {ad : Nat → Nat} {ac : Nat → ClassId} {r : Int32} {h' : Mm} (X : Fx p s m args meth c cX11_adopt 5 RX11 (some .int) D ad ac LM []) : ∀ (n : Nat) (x2 : Int32) (x4 : Int32) (h : Mm) (H : Heap) (locs : List Loc) (ls : Array Slot), mX11_adopt_46 n x2 x4 h = some (r, h') → Hp D ad ac LM h s H locs → lv_has ls 5 [(0, .ref (ad 0)), (2, .int x2), (4, .int x4)] → W p l e (rmD 5) s m args below meth c H locs 0 0 (MQ below (QU D ad ac LM (some (.int r)) h' s.heap.size) args s 0 0 (Aa ad LM.length s.heap.size)) (F0 m 46 ls []) := by
  obtain ⟨hx, hb, hml, hown, hts, hr, hlk, hC, hI, hR⟩ := id X
  intro n
  induction n with
  | zero => intro x2 x4 h H locs ls hm; rw [mX11_adopt_46] at hm; cases hm
  | succ n ih =>
    intro x2 x4 h H locs ls hm hH hl
    rw [mX11_adopt_46] at hm
    refine lv_iload hx hb dX11_adopt_46 (lv_at hl 2 rfl) ?_
    refine lv_aload_n hx hb dX11_adopt_48 rfl (lv_at hl 0 rfl) ?_
    refine lv_iload_n hx hb dX11_adopt_49 rfl (lv_at hl 1 rfl) ?_
    obtain ⟨v1, hq, hm⟩ := bd1_some hm
    refine cVi X hH kl_X11_189 kv_X11_wide (mt_X11_wide hq) lM_0 rfl rfl (by decide) hl.1 rfl (Nat.le_of_ble_eq_true rfl) dX11_adopt_50 (fun H locs hH => ?_)
    refine lv_icmp_ge hx hb dX11_adopt_53 (tgt := 78) (by decide) (fun hc => ?_) (fun hc => ?_)
    · rw [if_pos hc] at hm
      refine lv_aload_n hx hb dX11_adopt_78 rfl (lv_at hl 0 rfl) ?_
      refine gR X hH fl_X11_73 lM_0 rfl dX11_adopt_79 ?_
      refine lv_iconst (v := 2) hx hb dX11_adopt_82 (by decide) ?_
      obtain ⟨hin2, hm⟩ := gIn_some hm
      refine ild X hH lM_22 hin2 dX11_adopt_83 ?_
      cases hm
      exact retI X hH dX11_adopt_84
    · rw [if_neg hc] at hm
      refine lv_aload_n hx hb dX11_adopt_56 rfl (lv_at hl 0 rfl) ?_
      refine gR X hH fl_X11_52 lM_0 rfl dX11_adopt_57 ?_
      refine lv_iload_n hx hb dX11_adopt_60 rfl (lv_at hl 1 rfl) ?_
      refine lv_iload hx hb dX11_adopt_61 (lv_at hl 2 rfl) ?_
      refine lv_iadd hx hb dX11_adopt_63 ?_
      refine lv_aload_n hx hb dX11_adopt_64 rfl (lv_at hl 0 rfl) ?_
      refine gR X hH fl_X11_70 lM_0 rfl dX11_adopt_65 ?_
      refine lv_iload hx hb dX11_adopt_68 (lv_at hl 2 rfl) ?_
      obtain ⟨hin3, hm⟩ := gIn_some hm
      refine ild X hH lM_21 hin3 dX11_adopt_70 ?_
      obtain ⟨hin5, hm⟩ := gIn_some hm
      obtain ⟨h4, eh4, hm⟩ := mlet_some hm
      refine ist X hH lM_15 hin5 dX11_adopt_71 (fun H locs hH => ?_)
      rw [← eh4] at hH
      refine lv_iinc (k := 2) (v := (x4 + 1)) (lv' := [(4, .int (x4 + 1)), (0, .ref (ad 0)), (2, .int x2)]) hx hb dX11_adopt_72 hl rfl rfl (by decide) rfl (fun ls hl => ?_)
      refine lv_goto hx hb dX11_adopt_75 (tgt := 46) (by decide) ?_
      exact ih x2 (x4 + 1) h4 _ _ _ hm hH (lv_sub hl [1, 2, 0] rfl)
def mX11_adopt (h : Mm) (a1 : Int32) (a2 : Int32) (a3 : Int32) : Option (Int32 × Mm) := bd1 (mX11_in h a1.toInt64 (0 : Int64) (1 : Int64)) (fun v1 => if v1 = 0 then (some ((-1 : Int32), h)) else (bd1 (mX11_isPass h a2) (fun v2 => if v2 = 0 then (some ((-1 : Int32), h)) else (bd1 (mX11_in h a3.toInt64 (0 : Int64) (6 : Int64)) (fun v3 => if v3 = 0 then (some ((-1 : Int32), h)) else (bdh (mX11_plans h a1 a2 a3) (fun h4 => bdh (mX11_note h4) (fun h5 => mX11_adopt_46 FU a2 (0 : Int32) h5))))))))
set_option maxRecDepth 4000 in
theorem mt_X11_adopt {l : Launch} {D : va_G} {ad : Nat → Nat} {ac : Nat → ClassId} {h : Mm} {a1 : Int32} {a2 : Int32} {a3 : Int32} {r : Int32} {h' : Mm} (hm : mX11_adopt h a1 a2 a3 = some (r, h')) : Mt l D ad ac LM [] yX11_adopt cX11_adopt 5 (some .int) 5 [.ref (ad 0), .int a1, .int a2, .int a3] h (some (.int r)) h' := by
  refine Mt.of (own := RX11) (by decide) rfl (Nat.le_of_ble_eq_true rfl) ?_
  intro p e s m below meth c ls X hH hl
  obtain ⟨hx, hb, hml, hown, hts, hr, hlk, hC, hI, hR⟩ := id X
  have hl : lv_has ls 5 [(0, .ref (ad 0)), (1, .int a1), (2, .int a2), (3, .int a3)] := hl
  rw [mX11_adopt] at hm
  refine lv_iload_n hx hb dX11_adopt_0 rfl (lv_at hl 1 rfl) ?_
  refine lv_i2l hx hb dX11_adopt_1 rfl ?_
  refine lv_lconst (v := 0) hx hb dX11_adopt_2 (by decide) ?_
  refine lv_lconst (v := 1) hx hb dX11_adopt_3 (by decide) ?_
  obtain ⟨v1, hq, hm⟩ := bd1_some hm
  refine cSi (As := [.long a1.toInt64, .long (0 : Int64), .long (1 : Int64)]) X hH kl_X11_93 ks_X11_in (mt_X11_in hq) rfl (by decide) hl.1 rfl (Nat.le_of_ble_eq_true rfl) dX11_adopt_4 (fun H locs hH => ?_)
  refine lv_if_eq hx hb dX11_adopt_7 (tgt := 30) (by decide) (fun hc => ?_) (fun hc => ?_)
  · rw [if_pos hc] at hm
    refine lv_iconst (v := (-1)) hx hb dX11_adopt_30 (by decide) ?_
    cases hm
    exact retI X hH dX11_adopt_31
  · rw [if_neg hc] at hm
    refine lv_aload_n hx hb dX11_adopt_10 rfl (lv_at hl 0 rfl) ?_
    refine lv_iload_n hx hb dX11_adopt_11 rfl (lv_at hl 2 rfl) ?_
    obtain ⟨v2, hq, hm⟩ := bd1_some hm
    refine cVi X hH kl_X11_149 kv_X11_isPass (mt_X11_isPass hq) lM_0 rfl rfl (by decide) hl.1 rfl (Nat.le_of_ble_eq_true rfl) dX11_adopt_12 (fun H locs hH => ?_)
    refine lv_if_eq hx hb dX11_adopt_15 (tgt := 30) (by decide) (fun hc => ?_) (fun hc => ?_)
    · rw [if_pos hc] at hm
      refine lv_iconst (v := (-1)) hx hb dX11_adopt_30 (by decide) ?_
      cases hm
      exact retI X hH dX11_adopt_31
    · rw [if_neg hc] at hm
      refine lv_iload_n hx hb dX11_adopt_18 rfl (lv_at hl 3 rfl) ?_
      refine lv_i2l hx hb dX11_adopt_19 rfl ?_
      refine lv_lconst (v := 0) hx hb dX11_adopt_20 (by decide) ?_
      refine lv_ldc2 hx hb hown (hts _ kc_X11_138) dX11_adopt_21 ?_
      obtain ⟨v3, hq, hm⟩ := bd1_some hm
      refine cSi (As := [.long a3.toInt64, .long (0 : Int64), .long (6 : Int64)]) X hH kl_X11_93 ks_X11_in (mt_X11_in hq) rfl (by decide) hl.1 rfl (Nat.le_of_ble_eq_true rfl) dX11_adopt_24 (fun H locs hH => ?_)
      refine lv_if_ne hx hb dX11_adopt_27 (tgt := 32) (by decide) (fun hc => ?_) (fun hc => ?_)
      · rw [if_neg hc] at hm
        refine lv_aload_n hx hb dX11_adopt_32 rfl (lv_at hl 0 rfl) ?_
        refine lv_iload_n hx hb dX11_adopt_33 rfl (lv_at hl 1 rfl) ?_
        refine lv_iload_n hx hb dX11_adopt_34 rfl (lv_at hl 2 rfl) ?_
        refine lv_iload_n hx hb dX11_adopt_35 rfl (lv_at hl 3 rfl) ?_
        obtain ⟨h4, hq, hm⟩ := bdh_some hm
        refine cVv X hH kl_X11_209 kv_X11_plans (mt_X11_plans hq) lM_0 rfl rfl (by decide) hl.1 rfl (Nat.le_of_ble_eq_true rfl) dX11_adopt_36 (fun H locs hH => ?_)
        refine lv_aload_n hx hb dX11_adopt_39 rfl (lv_at hl 0 rfl) ?_
        obtain ⟨h5, hq, hm⟩ := bdh_some hm
        refine cVv X hH kl_X11_168 kv_X11_note (mt_X11_note hq) lM_0 rfl rfl (by decide) hl.1 rfl (Nat.le_of_ble_eq_true rfl) dX11_adopt_40 (fun H locs hH => ?_)
        refine lv_iconst (v := 0) hx hb dX11_adopt_43 (by decide) ?_
        refine lv_istore (lv' := [(4, .int (0 : Int32)), (0, .ref (ad 0)), (1, .int a1), (2, .int a2), (3, .int a3)]) hx hb dX11_adopt_44 hl (by decide) rfl (fun ls hl => ?_)
        exact wX11_adopt_46 X FU a2 (0 : Int32) h5 _ _ _ hm hH (lv_sub hl [1, 3, 0] rfl)
      · rw [if_pos hc] at hm
        refine lv_iconst (v := (-1)) hx hb dX11_adopt_30 (by decide) ?_
        cases hm
        exact retI X hH dX11_adopt_31
/-! X11_isAntenna -/
def mX11_isAntenna (h : Mm) (a1 : Int32) : Option Int32 := gIn (2 : Int32) 3 (bd1 (mX11_in h a1.toInt64 (0 : Int64) ((h 5 (2 : Int32).toNatClampNeg) - (1 : Int32)).toInt64) (fun v2 => gB v2 (some v2)))
set_option maxRecDepth 4000 in
theorem mt_X11_isAntenna {l : Launch} {D : va_G} {ad : Nat → Nat} {ac : Nat → ClassId} {h : Mm} {a1 : Int32} {r : Int32} (hm : mX11_isAntenna h a1 = some r) : Mt l D ad ac LM [] yX11_isAntenna cX11_isAntenna 2 (some .boolean) 1 [.ref (ad 0), .int a1] h (some (.int r)) h := by
  refine Mt.of (own := RX11) (by decide) rfl (Nat.le_of_ble_eq_true rfl) ?_
  intro p e s m below meth c ls X hH hl
  obtain ⟨hx, hb, hml, hown, hts, hr, hlk, hC, hI, hR⟩ := id X
  have hl : lv_has ls 2 [(0, .ref (ad 0)), (1, .int a1)] := hl
  rw [mX11_isAntenna] at hm
  refine lv_iload_n hx hb dX11_isAntenna_0 rfl (lv_at hl 1 rfl) ?_
  refine lv_i2l hx hb dX11_isAntenna_1 rfl ?_
  refine lv_lconst (v := 0) hx hb dX11_isAntenna_2 (by decide) ?_
  refine lv_aload_n hx hb dX11_isAntenna_3 rfl (lv_at hl 0 rfl) ?_
  refine gR X hH fl_X11_22 lM_0 rfl dX11_isAntenna_4 ?_
  refine lv_iconst (v := 2) hx hb dX11_isAntenna_7 (by decide) ?_
  obtain ⟨hin1, hm⟩ := gIn_some hm
  refine ild X hH lM_5 hin1 dX11_isAntenna_8 ?_
  refine lv_iconst (v := 1) hx hb dX11_isAntenna_9 (by decide) ?_
  refine lv_isub hx hb dX11_isAntenna_10 ?_
  refine lv_i2l hx hb dX11_isAntenna_11 rfl ?_
  obtain ⟨v2, hq, hm⟩ := bd1_some hm
  refine cSi (As := [.long a1.toInt64, .long (0 : Int64), .long ((h 5 (2 : Int32).toNatClampNeg) - (1 : Int32)).toInt64]) X hH kl_X11_93 ks_X11_in (mt_X11_in hq) rfl (by decide) hl.1 rfl (Nat.le_of_ble_eq_true rfl) dX11_isAntenna_12 (fun H locs hH => ?_)
  obtain ⟨hgn, hm⟩ := gB_some hm
  cases hm
  exact retZ X hH hgn dX11_isAntenna_15
