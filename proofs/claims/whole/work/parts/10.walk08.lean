/-! X11_isWay -/
def mX11_isWay_162 (h : Mm) (k2 : Int32 → Int32 → Int32 → Option Int32) (x1 : Int32) (x2 : Int32) (x3 : Int32) : Option Int32 := k2 x1 x2 (x3 + 1)
set_option maxRecDepth 4000 in
theorem wX11_isWay_162 {p : Program} {l : Launch} {e : Env} {s : State} {m : MethodId} {args : Array Value} {below : List Frame} {meth : Method} {c : Code} {D : va_G} {ad : Nat → Nat} {ac : Nat → ClassId} {h : Mm} {r : Int32} (X : Fx p s m args meth c cX11_isWay 7 RX11 (some .boolean) D ad ac LM []) {k2 : Int32 → Int32 → Int32 → Option Int32} (ih2 : ∀ (x1 : Int32) (x2 : Int32) (x3 : Int32) (H : Heap) (locs : List Loc) (ls : Array Slot), k2 x1 x2 x3 = some r → Hp D ad ac LM h s H locs → lv_has ls 7 [(0, .ref (ad 0)), (1, .int x1), (2, .int x2), (3, .int x3)] → W p l e (rmD 1) s m args below meth c H locs 0 0 (MQ below (QU D ad ac LM (some (.int r)) h s.heap.size) args s 0 0 (Aa ad LM.length s.heap.size)) (F0 m 2 ls [])) : ∀ (x1 : Int32) (x2 : Int32) (x3 : Int32) (H : Heap) (locs : List Loc) (ls : Array Slot), mX11_isWay_162 h k2 x1 x2 x3 = some r → Hp D ad ac LM h s H locs → lv_has ls 7 [(0, .ref (ad 0)), (1, .int x1), (2, .int x2), (3, .int x3)] → W p l e (rmD 1) s m args below meth c H locs 0 0 (MQ below (QU D ad ac LM (some (.int r)) h s.heap.size) args s 0 0 (Aa ad LM.length s.heap.size)) (F0 m 162 ls []) := by
  obtain ⟨hx, hb, hml, hown, hts, hr, hlk, hC, hI, hR⟩ := id X
  intro x1 x2 x3 H locs ls hm hH hl
  rw [mX11_isWay_162] at hm
  refine lv_iinc (k := 3) (v := (x3 + 1)) (lv' := [(3, .int (x3 + 1)), (0, .ref (ad 0)), (1, .int x1), (2, .int x2)]) hx hb dX11_isWay_162 hl rfl rfl (by decide) rfl (fun ls hl => ?_)
  refine lv_goto hx hb dX11_isWay_165 (tgt := 2) (by decide) ?_
  exact ih2 x1 x2 (x3 + 1) _ _ _ hm hH (lv_sub hl [1, 2, 3, 0] rfl)
def mX11_isWay_142 (h : Mm) (k2 : Int32 → Int32 → Int32 → Option Int32) (k39 : Int32 → Int32 → Int32 → Int32 → Option Int32) (x1 : Int32) (x2 : Int32) (x3 : Int32) (x4 : Int32) (x5 : Int32) (t0 : Int32) : Option Int32 := if x5 = 0 then (if t0 = 0 then (k39 x1 x2 x3 (x4 + 1)) else (some (0 : Int32))) else (some (0 : Int32))
set_option maxRecDepth 4000 in
theorem wX11_isWay_142 {p : Program} {l : Launch} {e : Env} {s : State} {m : MethodId} {args : Array Value} {below : List Frame} {meth : Method} {c : Code} {D : va_G} {ad : Nat → Nat} {ac : Nat → ClassId} {h : Mm} {r : Int32} (X : Fx p s m args meth c cX11_isWay 7 RX11 (some .boolean) D ad ac LM []) {k2 : Int32 → Int32 → Int32 → Option Int32} {k39 : Int32 → Int32 → Int32 → Int32 → Option Int32} (ih2 : ∀ (x1 : Int32) (x2 : Int32) (x3 : Int32) (H : Heap) (locs : List Loc) (ls : Array Slot), k2 x1 x2 x3 = some r → Hp D ad ac LM h s H locs → lv_has ls 7 [(0, .ref (ad 0)), (1, .int x1), (2, .int x2), (3, .int x3)] → W p l e (rmD 1) s m args below meth c H locs 0 0 (MQ below (QU D ad ac LM (some (.int r)) h s.heap.size) args s 0 0 (Aa ad LM.length s.heap.size)) (F0 m 2 ls [])) (ih39 : ∀ (x1 : Int32) (x2 : Int32) (x3 : Int32) (x4 : Int32) (H : Heap) (locs : List Loc) (ls : Array Slot), k39 x1 x2 x3 x4 = some r → Hp D ad ac LM h s H locs → lv_has ls 7 [(0, .ref (ad 0)), (1, .int x1), (2, .int x2), (3, .int x3), (4, .int x4)] → W p l e (rmD 1) s m args below meth c H locs 0 0 (MQ below (QU D ad ac LM (some (.int r)) h s.heap.size) args s 0 0 (Aa ad LM.length s.heap.size)) (F0 m 39 ls [])) : ∀ (x1 : Int32) (x2 : Int32) (x3 : Int32) (x4 : Int32) (x5 : Int32) (t0 : Int32) (H : Heap) (locs : List Loc) (ls : Array Slot), mX11_isWay_142 h k2 k39 x1 x2 x3 x4 x5 t0 = some r → Hp D ad ac LM h s H locs → lv_has ls 7 [(0, .ref (ad 0)), (1, .int x1), (2, .int x2), (3, .int x3), (4, .int x4), (5, .int x5)] → W p l e (rmD 1) s m args below meth c H locs 0 0 (MQ below (QU D ad ac LM (some (.int r)) h s.heap.size) args s 0 0 (Aa ad LM.length s.heap.size)) (F0 m 142 ls [.int t0]) := by
  obtain ⟨hx, hb, hml, hown, hts, hr, hlk, hC, hI, hR⟩ := id X
  intro x1 x2 x3 x4 x5 t0 H locs ls hm hH hl
  rw [mX11_isWay_142] at hm
  refine lv_istore (lv' := [(6, .int t0), (0, .ref (ad 0)), (1, .int x1), (2, .int x2), (3, .int x3), (4, .int x4), (5, .int x5)]) hx hb dX11_isWay_142 hl (by decide) rfl (fun ls hl => ?_)
  refine lv_iload hx hb dX11_isWay_144 (lv_at hl 6 rfl) ?_
  refine lv_if_ne hx hb dX11_isWay_146 (tgt := 154) (by decide) (fun hc => ?_) (fun hc => ?_)
  · rw [if_neg hc] at hm
    refine lv_iconst (v := 0) hx hb dX11_isWay_154 (by decide) ?_
    cases hm
    exact retZ X hH rfl dX11_isWay_155
  · rw [if_pos hc] at hm
    refine lv_iload hx hb dX11_isWay_149 (lv_at hl 0 rfl) ?_
    refine lv_if_eq hx hb dX11_isWay_151 (tgt := 156) (by decide) (fun hc => ?_) (fun hc => ?_)
    · rw [if_pos hc] at hm
      refine lv_iinc (k := 5) (v := (x4 + 1)) (lv' := [(4, .int (x4 + 1)), (6, .int t0), (0, .ref (ad 0)), (1, .int x1), (2, .int x2), (3, .int x3), (5, .int x5)]) hx hb dX11_isWay_156 hl rfl rfl (by decide) rfl (fun ls hl => ?_)
      refine lv_goto hx hb dX11_isWay_159 (tgt := 39) (by decide) ?_
      exact ih39 x1 x2 x3 (x4 + 1) _ _ _ hm hH (lv_sub hl [2, 3, 4, 5, 0] rfl)
    · rw [if_neg hc] at hm
      refine lv_iconst (v := 0) hx hb dX11_isWay_154 (by decide) ?_
      cases hm
      exact retZ X hH rfl dX11_isWay_155
def mX11_isWay_141 (h : Mm) (k2 : Int32 → Int32 → Int32 → Option Int32) (k39 : Int32 → Int32 → Int32 → Int32 → Option Int32) (x1 : Int32) (x2 : Int32) (x3 : Int32) (x4 : Int32) (x5 : Int32) : Option Int32 := mX11_isWay_142 h k2 k39 x1 x2 x3 x4 x5 (0 : Int32)
set_option maxRecDepth 4000 in
theorem wX11_isWay_141 {p : Program} {l : Launch} {e : Env} {s : State} {m : MethodId} {args : Array Value} {below : List Frame} {meth : Method} {c : Code} {D : va_G} {ad : Nat → Nat} {ac : Nat → ClassId} {h : Mm} {r : Int32} (X : Fx p s m args meth c cX11_isWay 7 RX11 (some .boolean) D ad ac LM []) {k2 : Int32 → Int32 → Int32 → Option Int32} {k39 : Int32 → Int32 → Int32 → Int32 → Option Int32} (ih2 : ∀ (x1 : Int32) (x2 : Int32) (x3 : Int32) (H : Heap) (locs : List Loc) (ls : Array Slot), k2 x1 x2 x3 = some r → Hp D ad ac LM h s H locs → lv_has ls 7 [(0, .ref (ad 0)), (1, .int x1), (2, .int x2), (3, .int x3)] → W p l e (rmD 1) s m args below meth c H locs 0 0 (MQ below (QU D ad ac LM (some (.int r)) h s.heap.size) args s 0 0 (Aa ad LM.length s.heap.size)) (F0 m 2 ls [])) (ih39 : ∀ (x1 : Int32) (x2 : Int32) (x3 : Int32) (x4 : Int32) (H : Heap) (locs : List Loc) (ls : Array Slot), k39 x1 x2 x3 x4 = some r → Hp D ad ac LM h s H locs → lv_has ls 7 [(0, .ref (ad 0)), (1, .int x1), (2, .int x2), (3, .int x3), (4, .int x4)] → W p l e (rmD 1) s m args below meth c H locs 0 0 (MQ below (QU D ad ac LM (some (.int r)) h s.heap.size) args s 0 0 (Aa ad LM.length s.heap.size)) (F0 m 39 ls [])) : ∀ (x1 : Int32) (x2 : Int32) (x3 : Int32) (x4 : Int32) (x5 : Int32) (H : Heap) (locs : List Loc) (ls : Array Slot), mX11_isWay_141 h k2 k39 x1 x2 x3 x4 x5 = some r → Hp D ad ac LM h s H locs → lv_has ls 7 [(0, .ref (ad 0)), (1, .int x1), (2, .int x2), (3, .int x3), (4, .int x4), (5, .int x5)] → W p l e (rmD 1) s m args below meth c H locs 0 0 (MQ below (QU D ad ac LM (some (.int r)) h s.heap.size) args s 0 0 (Aa ad LM.length s.heap.size)) (F0 m 141 ls []) := by
  obtain ⟨hx, hb, hml, hown, hts, hr, hlk, hC, hI, hR⟩ := id X
  intro x1 x2 x3 x4 x5 H locs ls hm hH hl
  rw [mX11_isWay_141] at hm
  refine lv_iconst (v := 0) hx hb dX11_isWay_141 (by decide) ?_
  exact wX11_isWay_142 X ih2 ih39 x1 x2 x3 x4 x5 (0 : Int32) _ _ _ hm hH (lv_sub hl [0, 1, 2, 3, 4, 5] rfl)
def mX11_isWay_91 (h : Mm) (k2 : Int32 → Int32 → Int32 → Option Int32) (k39 : Int32 → Int32 → Int32 → Int32 → Option Int32) (x1 : Int32) (x2 : Int32) (x3 : Int32) (x4 : Int32) (t0 : Int32) : Option Int32 := if x4 = x3 then (mX11_isWay_141 h k2 k39 x1 x2 x3 x4 t0) else (gIn x4 24 (if (h 20 x4.toNatClampNeg) = (-4 : Int32) then (mX11_isWay_141 h k2 k39 x1 x2 x3 x4 t0) else (gIn x4 24 (gIn x3 24 (if (h 12 x4.toNatClampNeg) = (h 12 x3.toNatClampNeg) then (bd1 (mX11_overlap h x4 x3) (fun v4 => if v4 = 0 then (mX11_isWay_141 h k2 k39 x1 x2 x3 x4 t0) else (mX11_isWay_142 h k2 k39 x1 x2 x3 x4 t0 (1 : Int32)))) else (mX11_isWay_141 h k2 k39 x1 x2 x3 x4 t0))))))
set_option maxRecDepth 4000 in
theorem wX11_isWay_91 {p : Program} {l : Launch} {e : Env} {s : State} {m : MethodId} {args : Array Value} {below : List Frame} {meth : Method} {c : Code} {D : va_G} {ad : Nat → Nat} {ac : Nat → ClassId} {h : Mm} {r : Int32} (X : Fx p s m args meth c cX11_isWay 7 RX11 (some .boolean) D ad ac LM []) {k2 : Int32 → Int32 → Int32 → Option Int32} {k39 : Int32 → Int32 → Int32 → Int32 → Option Int32} (ih2 : ∀ (x1 : Int32) (x2 : Int32) (x3 : Int32) (H : Heap) (locs : List Loc) (ls : Array Slot), k2 x1 x2 x3 = some r → Hp D ad ac LM h s H locs → lv_has ls 7 [(0, .ref (ad 0)), (1, .int x1), (2, .int x2), (3, .int x3)] → W p l e (rmD 1) s m args below meth c H locs 0 0 (MQ below (QU D ad ac LM (some (.int r)) h s.heap.size) args s 0 0 (Aa ad LM.length s.heap.size)) (F0 m 2 ls [])) (ih39 : ∀ (x1 : Int32) (x2 : Int32) (x3 : Int32) (x4 : Int32) (H : Heap) (locs : List Loc) (ls : Array Slot), k39 x1 x2 x3 x4 = some r → Hp D ad ac LM h s H locs → lv_has ls 7 [(0, .ref (ad 0)), (1, .int x1), (2, .int x2), (3, .int x3), (4, .int x4)] → W p l e (rmD 1) s m args below meth c H locs 0 0 (MQ below (QU D ad ac LM (some (.int r)) h s.heap.size) args s 0 0 (Aa ad LM.length s.heap.size)) (F0 m 39 ls [])) : ∀ (x1 : Int32) (x2 : Int32) (x3 : Int32) (x4 : Int32) (t0 : Int32) (H : Heap) (locs : List Loc) (ls : Array Slot), mX11_isWay_91 h k2 k39 x1 x2 x3 x4 t0 = some r → Hp D ad ac LM h s H locs → lv_has ls 7 [(0, .ref (ad 0)), (1, .int x1), (2, .int x2), (3, .int x3), (4, .int x4)] → W p l e (rmD 1) s m args below meth c H locs 0 0 (MQ below (QU D ad ac LM (some (.int r)) h s.heap.size) args s 0 0 (Aa ad LM.length s.heap.size)) (F0 m 91 ls [.int t0]) := by
  obtain ⟨hx, hb, hml, hown, hts, hr, hlk, hC, hI, hR⟩ := id X
  intro x1 x2 x3 x4 t0 H locs ls hm hH hl
  rw [mX11_isWay_91] at hm
  refine lv_istore (lv' := [(5, .int t0), (0, .ref (ad 0)), (1, .int x1), (2, .int x2), (3, .int x3), (4, .int x4)]) hx hb dX11_isWay_91 hl (by decide) rfl (fun ls hl => ?_)
  refine lv_iload hx hb dX11_isWay_93 (lv_at hl 5 rfl) ?_
  refine lv_iload_n hx hb dX11_isWay_95 rfl (lv_at hl 4 rfl) ?_
  refine lv_icmp_eq hx hb dX11_isWay_96 (tgt := 141) (by decide) (fun hc => ?_) (fun hc => ?_)
  · rw [if_pos hc] at hm
    exact wX11_isWay_141 X ih2 ih39 x1 x2 x3 x4 t0 _ _ _ hm hH (lv_sub hl [1, 2, 3, 4, 5, 0] rfl)
  · rw [if_neg hc] at hm
    refine lv_aload_n hx hb dX11_isWay_99 rfl (lv_at hl 1 rfl) ?_
    refine gR X hH fl_X11_67 lM_0 rfl dX11_isWay_100 ?_
    refine lv_iload hx hb dX11_isWay_103 (lv_at hl 5 rfl) ?_
    obtain ⟨hin1, hm⟩ := gIn_some hm
    refine ild X hH lM_20 hin1 dX11_isWay_105 ?_
    refine lv_bipush (v := (-4)) hx hb dX11_isWay_106 (by decide) ?_
    refine lv_icmp_eq hx hb dX11_isWay_108 (tgt := 141) (by decide) (fun hc => ?_) (fun hc => ?_)
    · rw [if_pos hc] at hm
      exact wX11_isWay_141 X ih2 ih39 x1 x2 x3 x4 t0 _ _ _ hm hH (lv_sub hl [1, 2, 3, 4, 5, 0] rfl)
    · rw [if_neg hc] at hm
      refine lv_aload_n hx hb dX11_isWay_111 rfl (lv_at hl 1 rfl) ?_
      refine gR X hH fl_X11_43 lM_0 rfl dX11_isWay_112 ?_
      refine lv_iload hx hb dX11_isWay_115 (lv_at hl 5 rfl) ?_
      obtain ⟨hin2, hm⟩ := gIn_some hm
      refine ild X hH lM_12 hin2 dX11_isWay_117 ?_
      refine lv_aload_n hx hb dX11_isWay_118 rfl (lv_at hl 1 rfl) ?_
      refine gR X hH fl_X11_43 lM_0 rfl dX11_isWay_119 ?_
      refine lv_iload_n hx hb dX11_isWay_122 rfl (lv_at hl 4 rfl) ?_
      obtain ⟨hin3, hm⟩ := gIn_some hm
      refine ild X hH lM_12 hin3 dX11_isWay_123 ?_
      refine lv_icmp_ne hx hb dX11_isWay_124 (tgt := 141) (by decide) (fun hc => ?_) (fun hc => ?_)
      · rw [if_neg hc] at hm
        exact wX11_isWay_141 X ih2 ih39 x1 x2 x3 x4 t0 _ _ _ hm hH (lv_sub hl [1, 2, 3, 4, 5, 0] rfl)
      · rw [if_pos hc] at hm
        refine lv_aload_n hx hb dX11_isWay_127 rfl (lv_at hl 1 rfl) ?_
        refine lv_iload hx hb dX11_isWay_128 (lv_at hl 5 rfl) ?_
        refine lv_iload_n hx hb dX11_isWay_130 rfl (lv_at hl 4 rfl) ?_
        obtain ⟨v4, hq, hm⟩ := bd1_some hm
        refine cVi X hH kl_X11_162 kv_X11_overlap (mt_X11_overlap hq) lM_0 rfl rfl (by decide) hl.1 rfl (Nat.le_of_ble_eq_true rfl) dX11_isWay_131 (fun H locs hH => ?_)
        refine lv_if_eq hx hb dX11_isWay_134 (tgt := 141) (by decide) (fun hc => ?_) (fun hc => ?_)
        · rw [if_pos hc] at hm
          exact wX11_isWay_141 X ih2 ih39 x1 x2 x3 x4 t0 _ _ _ hm hH (lv_sub hl [1, 2, 3, 4, 5, 0] rfl)
        · rw [if_neg hc] at hm
          refine lv_iconst (v := 1) hx hb dX11_isWay_137 (by decide) ?_
          refine lv_goto hx hb dX11_isWay_138 (tgt := 142) (by decide) ?_
          exact wX11_isWay_142 X ih2 ih39 x1 x2 x3 x4 t0 (1 : Int32) _ _ _ hm hH (lv_sub hl [1, 2, 3, 4, 5, 0] rfl)
def mX11_isWay_90 (h : Mm) (k2 : Int32 → Int32 → Int32 → Option Int32) (k39 : Int32 → Int32 → Int32 → Int32 → Option Int32) (x1 : Int32) (x2 : Int32) (x3 : Int32) (x4 : Int32) : Option Int32 := mX11_isWay_91 h k2 k39 x1 x2 x3 x4 (0 : Int32)
set_option maxRecDepth 4000 in
theorem wX11_isWay_90 {p : Program} {l : Launch} {e : Env} {s : State} {m : MethodId} {args : Array Value} {below : List Frame} {meth : Method} {c : Code} {D : va_G} {ad : Nat → Nat} {ac : Nat → ClassId} {h : Mm} {r : Int32} (X : Fx p s m args meth c cX11_isWay 7 RX11 (some .boolean) D ad ac LM []) {k2 : Int32 → Int32 → Int32 → Option Int32} {k39 : Int32 → Int32 → Int32 → Int32 → Option Int32} (ih2 : ∀ (x1 : Int32) (x2 : Int32) (x3 : Int32) (H : Heap) (locs : List Loc) (ls : Array Slot), k2 x1 x2 x3 = some r → Hp D ad ac LM h s H locs → lv_has ls 7 [(0, .ref (ad 0)), (1, .int x1), (2, .int x2), (3, .int x3)] → W p l e (rmD 1) s m args below meth c H locs 0 0 (MQ below (QU D ad ac LM (some (.int r)) h s.heap.size) args s 0 0 (Aa ad LM.length s.heap.size)) (F0 m 2 ls [])) (ih39 : ∀ (x1 : Int32) (x2 : Int32) (x3 : Int32) (x4 : Int32) (H : Heap) (locs : List Loc) (ls : Array Slot), k39 x1 x2 x3 x4 = some r → Hp D ad ac LM h s H locs → lv_has ls 7 [(0, .ref (ad 0)), (1, .int x1), (2, .int x2), (3, .int x3), (4, .int x4)] → W p l e (rmD 1) s m args below meth c H locs 0 0 (MQ below (QU D ad ac LM (some (.int r)) h s.heap.size) args s 0 0 (Aa ad LM.length s.heap.size)) (F0 m 39 ls [])) : ∀ (x1 : Int32) (x2 : Int32) (x3 : Int32) (x4 : Int32) (H : Heap) (locs : List Loc) (ls : Array Slot), mX11_isWay_90 h k2 k39 x1 x2 x3 x4 = some r → Hp D ad ac LM h s H locs → lv_has ls 7 [(0, .ref (ad 0)), (1, .int x1), (2, .int x2), (3, .int x3), (4, .int x4)] → W p l e (rmD 1) s m args below meth c H locs 0 0 (MQ below (QU D ad ac LM (some (.int r)) h s.heap.size) args s 0 0 (Aa ad LM.length s.heap.size)) (F0 m 90 ls []) := by
  obtain ⟨hx, hb, hml, hown, hts, hr, hlk, hC, hI, hR⟩ := id X
  intro x1 x2 x3 x4 H locs ls hm hH hl
  rw [mX11_isWay_90] at hm
  refine lv_iconst (v := 0) hx hb dX11_isWay_90 (by decide) ?_
  exact wX11_isWay_91 X ih2 ih39 x1 x2 x3 x4 (0 : Int32) _ _ _ hm hH (lv_sub hl [0, 1, 2, 3, 4] rfl)
def mX11_isWay_39 (h : Mm) (k2 : Int32 → Int32 → Int32 → Option Int32) : Nat → Int32 → Int32 → Int32 → Int32 → Option Int32
  | 0, _, _, _, _ => none
  | n + 1, x1, x2, x3, x4 => if (h 0 16) ≤ x4 then (mX11_isWay_162 h k2 x1 x2 x3) else (if x4 = x3 then (mX11_isWay_90 h k2 (mX11_isWay_39 h k2 n) x1 x2 x3 x4) else (gIn x4 24 (gIn x3 24 (if (h 20 x4.toNatClampNeg) = (h 20 x3.toNatClampNeg) then (gIn x3 24 (bd1 (mX11_together h x4 x3 (h 20 x3.toNatClampNeg)) (fun v4 => if v4 = 0 then (mX11_isWay_91 h k2 (mX11_isWay_39 h k2 n) x1 x2 x3 x4 (1 : Int32)) else (mX11_isWay_90 h k2 (mX11_isWay_39 h k2 n) x1 x2 x3 x4)))) else (mX11_isWay_90 h k2 (mX11_isWay_39 h k2 n) x1 x2 x3 x4)))))
set_option maxRecDepth 4000 in
theorem wX11_isWay_39 {p : Program} {l : Launch} {e : Env} {s : State} {m : MethodId} {args : Array Value} {below : List Frame} {meth : Method} {c : Code} {D : va_G} {ad : Nat → Nat} {ac : Nat → ClassId} {h : Mm} {r : Int32} (X : Fx p s m args meth c cX11_isWay 7 RX11 (some .boolean) D ad ac LM []) {k2 : Int32 → Int32 → Int32 → Option Int32} (ih2 : ∀ (x1 : Int32) (x2 : Int32) (x3 : Int32) (H : Heap) (locs : List Loc) (ls : Array Slot), k2 x1 x2 x3 = some r → Hp D ad ac LM h s H locs → lv_has ls 7 [(0, .ref (ad 0)), (1, .int x1), (2, .int x2), (3, .int x3)] → W p l e (rmD 1) s m args below meth c H locs 0 0 (MQ below (QU D ad ac LM (some (.int r)) h s.heap.size) args s 0 0 (Aa ad LM.length s.heap.size)) (F0 m 2 ls [])) : ∀ (n : Nat) (x1 : Int32) (x2 : Int32) (x3 : Int32) (x4 : Int32) (H : Heap) (locs : List Loc) (ls : Array Slot), mX11_isWay_39 h k2 n x1 x2 x3 x4 = some r → Hp D ad ac LM h s H locs → lv_has ls 7 [(0, .ref (ad 0)), (1, .int x1), (2, .int x2), (3, .int x3), (4, .int x4)] → W p l e (rmD 1) s m args below meth c H locs 0 0 (MQ below (QU D ad ac LM (some (.int r)) h s.heap.size) args s 0 0 (Aa ad LM.length s.heap.size)) (F0 m 39 ls []) := by
  obtain ⟨hx, hb, hml, hown, hts, hr, hlk, hC, hI, hR⟩ := id X
  intro n
  induction n with
  | zero => intro x1 x2 x3 x4 H locs ls hm; rw [mX11_isWay_39] at hm; cases hm
  | succ n ih =>
    intro x1 x2 x3 x4 H locs ls hm hH hl
    rw [mX11_isWay_39] at hm
    refine lv_iload hx hb dX11_isWay_39 (lv_at hl 4 rfl) ?_
    refine lv_aload_n hx hb dX11_isWay_41 rfl (lv_at hl 0 rfl) ?_
    refine gI X hH fl_X11_124 lM_0 rfl dX11_isWay_42 ?_
    refine lv_icmp_ge hx hb dX11_isWay_45 (tgt := 162) (by decide) (fun hc => ?_) (fun hc => ?_)
    · rw [if_pos hc] at hm
      exact wX11_isWay_162 X ih2 x1 x2 x3 _ _ _ hm hH (lv_sub hl [0, 1, 2, 3] rfl)
    · rw [if_neg hc] at hm
      refine lv_iload hx hb dX11_isWay_48 (lv_at hl 4 rfl) ?_
      refine lv_iload_n hx hb dX11_isWay_50 rfl (lv_at hl 3 rfl) ?_
      refine lv_icmp_eq hx hb dX11_isWay_51 (tgt := 90) (by decide) (fun hc => ?_) (fun hc => ?_)
      · rw [if_pos hc] at hm
        exact wX11_isWay_90 X ih2 ih x1 x2 x3 x4 _ _ _ hm hH (lv_sub hl [0, 1, 2, 3, 4] rfl)
      · rw [if_neg hc] at hm
        refine lv_aload_n hx hb dX11_isWay_54 rfl (lv_at hl 0 rfl) ?_
        refine gR X hH fl_X11_67 lM_0 rfl dX11_isWay_55 ?_
        refine lv_iload hx hb dX11_isWay_58 (lv_at hl 4 rfl) ?_
        obtain ⟨hin1, hm⟩ := gIn_some hm
        refine ild X hH lM_20 hin1 dX11_isWay_60 ?_
        refine lv_aload_n hx hb dX11_isWay_61 rfl (lv_at hl 0 rfl) ?_
        refine gR X hH fl_X11_67 lM_0 rfl dX11_isWay_62 ?_
        refine lv_iload_n hx hb dX11_isWay_65 rfl (lv_at hl 3 rfl) ?_
        obtain ⟨hin2, hm⟩ := gIn_some hm
        refine ild X hH lM_20 hin2 dX11_isWay_66 ?_
        refine lv_icmp_ne hx hb dX11_isWay_67 (tgt := 90) (by decide) (fun hc => ?_) (fun hc => ?_)
        · rw [if_neg hc] at hm
          exact wX11_isWay_90 X ih2 ih x1 x2 x3 x4 _ _ _ hm hH (lv_sub hl [0, 1, 2, 3, 4] rfl)
        · rw [if_pos hc] at hm
          refine lv_aload_n hx hb dX11_isWay_70 rfl (lv_at hl 0 rfl) ?_
          refine lv_iload hx hb dX11_isWay_71 (lv_at hl 4 rfl) ?_
          refine lv_iload_n hx hb dX11_isWay_73 rfl (lv_at hl 3 rfl) ?_
          refine lv_aload_n hx hb dX11_isWay_74 rfl (lv_at hl 0 rfl) ?_
          refine gR X hH fl_X11_67 lM_0 rfl dX11_isWay_75 ?_
          refine lv_iload_n hx hb dX11_isWay_78 rfl (lv_at hl 3 rfl) ?_
          obtain ⟨hin3, hm⟩ := gIn_some hm
          refine ild X hH lM_20 hin3 dX11_isWay_79 ?_
          obtain ⟨v4, hq, hm⟩ := bd1_some hm
          refine cVi X hH kl_X11_159 kv_X11_together (mt_X11_together hq) lM_0 rfl rfl (by decide) hl.1 rfl (Nat.le_of_ble_eq_true rfl) dX11_isWay_80 (fun H locs hH => ?_)
          refine lv_if_ne hx hb dX11_isWay_83 (tgt := 90) (by decide) (fun hc => ?_) (fun hc => ?_)
          · rw [if_neg hc] at hm
            exact wX11_isWay_90 X ih2 ih x1 x2 x3 x4 _ _ _ hm hH (lv_sub hl [0, 1, 2, 3, 4] rfl)
          · rw [if_pos hc] at hm
            refine lv_iconst (v := 1) hx hb dX11_isWay_86 (by decide) ?_
            refine lv_goto hx hb dX11_isWay_87 (tgt := 91) (by decide) ?_
            exact wX11_isWay_91 X ih2 ih x1 x2 x3 x4 (1 : Int32) _ _ _ hm hH (lv_sub hl [0, 1, 2, 3, 4] rfl)
def mX11_isWay_2 (h : Mm) : Nat → Int32 → Int32 → Int32 → Option Int32
  | 0, _, _, _ => none
  | n + 1, x1, x2, x3 => if (x1 + x2) ≤ x3 then (some (1 : Int32)) else (gIn x3 24 (if (h 20 x3.toNatClampNeg) = (-4 : Int32) then (mX11_isWay_162 h (mX11_isWay_2 h n) x1 x2 x3) else (gIn x3 24 (bd1 (mX11_fits h x3 (h 20 x3.toNatClampNeg)) (fun v3 => if v3 = 0 then (some (0 : Int32)) else (mX11_isWay_39 h (mX11_isWay_2 h n) FU x1 x2 x3 (0 : Int32)))))))
set_option maxRecDepth 4000 in
theorem wX11_isWay_2 {p : Program} {l : Launch} {e : Env} {s : State} {m : MethodId} {args : Array Value} {below : List Frame} {meth : Method} {c : Code} {D : va_G} {ad : Nat → Nat} {ac : Nat → ClassId} {h : Mm} {r : Int32} (X : Fx p s m args meth c cX11_isWay 7 RX11 (some .boolean) D ad ac LM []) : ∀ (n : Nat) (x1 : Int32) (x2 : Int32) (x3 : Int32) (H : Heap) (locs : List Loc) (ls : Array Slot), mX11_isWay_2 h n x1 x2 x3 = some r → Hp D ad ac LM h s H locs → lv_has ls 7 [(0, .ref (ad 0)), (1, .int x1), (2, .int x2), (3, .int x3)] → W p l e (rmD 1) s m args below meth c H locs 0 0 (MQ below (QU D ad ac LM (some (.int r)) h s.heap.size) args s 0 0 (Aa ad LM.length s.heap.size)) (F0 m 2 ls []) := by
  obtain ⟨hx, hb, hml, hown, hts, hr, hlk, hC, hI, hR⟩ := id X
  intro n
  induction n with
  | zero => intro x1 x2 x3 H locs ls hm; rw [mX11_isWay_2] at hm; cases hm
  | succ n ih =>
    intro x1 x2 x3 H locs ls hm hH hl
    rw [mX11_isWay_2] at hm
    refine lv_iload_n hx hb dX11_isWay_2 rfl (lv_at hl 3 rfl) ?_
    refine lv_iload_n hx hb dX11_isWay_3 rfl (lv_at hl 1 rfl) ?_
    refine lv_iload_n hx hb dX11_isWay_4 rfl (lv_at hl 2 rfl) ?_
    refine lv_iadd hx hb dX11_isWay_5 ?_
    refine lv_icmp_ge hx hb dX11_isWay_6 (tgt := 168) (by decide) (fun hc => ?_) (fun hc => ?_)
    · rw [if_pos hc] at hm
      refine lv_iconst (v := 1) hx hb dX11_isWay_168 (by decide) ?_
      cases hm
      exact retZ X hH rfl dX11_isWay_169
    · rw [if_neg hc] at hm
      refine lv_aload_n hx hb dX11_isWay_9 rfl (lv_at hl 0 rfl) ?_
      refine gR X hH fl_X11_67 lM_0 rfl dX11_isWay_10 ?_
      refine lv_iload_n hx hb dX11_isWay_13 rfl (lv_at hl 3 rfl) ?_
      obtain ⟨hin1, hm⟩ := gIn_some hm
      refine ild X hH lM_20 hin1 dX11_isWay_14 ?_
      refine lv_bipush (v := (-4)) hx hb dX11_isWay_15 (by decide) ?_
      refine lv_icmp_eq hx hb dX11_isWay_17 (tgt := 162) (by decide) (fun hc => ?_) (fun hc => ?_)
      · rw [if_pos hc] at hm
        exact wX11_isWay_162 X ih x1 x2 x3 _ _ _ hm hH (lv_sub hl [0, 1, 2, 3] rfl)
      · rw [if_neg hc] at hm
        refine lv_aload_n hx hb dX11_isWay_20 rfl (lv_at hl 0 rfl) ?_
        refine lv_iload_n hx hb dX11_isWay_21 rfl (lv_at hl 3 rfl) ?_
        refine lv_aload_n hx hb dX11_isWay_22 rfl (lv_at hl 0 rfl) ?_
        refine gR X hH fl_X11_67 lM_0 rfl dX11_isWay_23 ?_
        refine lv_iload_n hx hb dX11_isWay_26 rfl (lv_at hl 3 rfl) ?_
        obtain ⟨hin2, hm⟩ := gIn_some hm
        refine ild X hH lM_20 hin2 dX11_isWay_27 ?_
        obtain ⟨v3, hq, hm⟩ := bd1_some hm
        refine cVi X hH kl_X11_152 kv_X11_fits (mt_X11_fits hq) lM_0 rfl rfl (by decide) hl.1 rfl (Nat.le_of_ble_eq_true rfl) dX11_isWay_28 (fun H locs hH => ?_)
        refine lv_if_ne hx hb dX11_isWay_31 (tgt := 36) (by decide) (fun hc => ?_) (fun hc => ?_)
        · rw [if_neg hc] at hm
          refine lv_iconst (v := 0) hx hb dX11_isWay_36 (by decide) ?_
          refine lv_istore (lv' := [(4, .int (0 : Int32)), (0, .ref (ad 0)), (1, .int x1), (2, .int x2), (3, .int x3)]) hx hb dX11_isWay_37 hl (by decide) rfl (fun ls hl => ?_)
          exact wX11_isWay_39 X ih FU x1 x2 x3 (0 : Int32) _ _ _ hm hH (lv_sub hl [1, 2, 3, 4, 0] rfl)
        · rw [if_pos hc] at hm
          refine lv_iconst (v := 0) hx hb dX11_isWay_34 (by decide) ?_
          cases hm
          exact retZ X hH rfl dX11_isWay_35
def mX11_isWay (h : Mm) (a1 : Int32) (a2 : Int32) : Option Int32 := mX11_isWay_2 h FU a1 a2 a1
set_option maxRecDepth 4000 in
theorem mt_X11_isWay {l : Launch} {D : va_G} {ad : Nat → Nat} {ac : Nat → ClassId} {h : Mm} {a1 : Int32} {a2 : Int32} {r : Int32} (hm : mX11_isWay h a1 a2 = some r) : Mt l D ad ac LM [] yX11_isWay cX11_isWay 7 (some .boolean) 1 [.ref (ad 0), .int a1, .int a2] h (some (.int r)) h := by
  refine Mt.of (own := RX11) (by decide) rfl (Nat.le_of_ble_eq_true rfl) ?_
  intro p e s m below meth c ls X hH hl
  obtain ⟨hx, hb, hml, hown, hts, hr, hlk, hC, hI, hR⟩ := id X
  have hl : lv_has ls 7 [(0, .ref (ad 0)), (1, .int a1), (2, .int a2)] := hl
  rw [mX11_isWay] at hm
  refine lv_iload_n hx hb dX11_isWay_0 rfl (lv_at hl 1 rfl) ?_
  refine lv_istore_n (lv' := [(3, .int a1), (0, .ref (ad 0)), (1, .int a1), (2, .int a2)]) hx hb dX11_isWay_1 rfl hl (by decide) rfl (fun ls hl => ?_)
  exact wX11_isWay_2 X FU a1 a2 a1 _ _ _ hm hH (lv_sub hl [1, 2, 3, 0] rfl)
/-! X11_rateOf -/
def mX11_rateOf (h : Mm) (a1 : Int32) (a2 : Int32) (a3 : Int32) : Option Int32 := mlet ((a3 - (1 : Int32)) - a2) (fun u1 => gIn (((5 : Int32) * a1) + (2 : Int32)) 20 (if u1 ≤ a2 then (some (((2 : Int32) + (h 2 (((5 : Int32) * a1) + (2 : Int32)).toNatClampNeg)) * ((1 : Int32) + u1))) else (some (((2 : Int32) + (h 2 (((5 : Int32) * a1) + (2 : Int32)).toNatClampNeg)) * ((1 : Int32) + a2)))))
set_option maxRecDepth 4000 in
theorem mt_X11_rateOf {l : Launch} {D : va_G} {ad : Nat → Nat} {ac : Nat → ClassId} {h : Mm} {a1 : Int32} {a2 : Int32} {a3 : Int32} {r : Int32} (hm : mX11_rateOf h a1 a2 a3 = some r) : Mt l D ad ac LM [] yX11_rateOf cX11_rateOf 5 (some .int) 0 [.ref (ad 0), .int a1, .int a2, .int a3] h (some (.int r)) h := by
  refine Mt.of (own := RX11) (by decide) rfl (Nat.le_of_ble_eq_true rfl) ?_
  intro p e s m below meth c ls X hH hl
  obtain ⟨hx, hb, hml, hown, hts, hr, hlk, hC, hI, hR⟩ := id X
  have hl : lv_has ls 5 [(0, .ref (ad 0)), (1, .int a1), (2, .int a2), (3, .int a3)] := hl
  rw [mX11_rateOf] at hm
  refine lv_iload_n hx hb dX11_rateOf_0 rfl (lv_at hl 3 rfl) ?_
  refine lv_iconst (v := 1) hx hb dX11_rateOf_1 (by decide) ?_
  refine lv_isub hx hb dX11_rateOf_2 ?_
  refine lv_iload_n hx hb dX11_rateOf_3 rfl (lv_at hl 2 rfl) ?_
  refine lv_isub hx hb dX11_rateOf_4 ?_
  obtain ⟨u1, eu1, hm⟩ := mlet_some hm
  refine W.eq (g2 := F0 m 5 ls (.int u1 :: [])) (by rw [eu1]) ?_
  refine lv_istore (lv' := [(4, .int u1), (0, .ref (ad 0)), (1, .int a1), (2, .int a2), (3, .int a3)]) hx hb dX11_rateOf_5 hl (by decide) rfl (fun ls hl => ?_)
  refine lv_iconst (v := 2) hx hb dX11_rateOf_7 (by decide) ?_
  refine lv_aload_n hx hb dX11_rateOf_8 rfl (lv_at hl 1 rfl) ?_
  refine gR X hH fl_X11_13 lM_0 rfl dX11_rateOf_9 ?_
  refine lv_iconst (v := 5) hx hb dX11_rateOf_12 (by decide) ?_
  refine lv_iload_n hx hb dX11_rateOf_13 rfl (lv_at hl 2 rfl) ?_
  refine lv_imul hx hb dX11_rateOf_14 ?_
  refine lv_iconst (v := 2) hx hb dX11_rateOf_15 (by decide) ?_
  refine lv_iadd hx hb dX11_rateOf_16 ?_
  obtain ⟨hin2, hm⟩ := gIn_some hm
  refine ild X hH lM_2 hin2 dX11_rateOf_17 ?_
  refine lv_iadd hx hb dX11_rateOf_18 ?_
  refine lv_iconst (v := 1) hx hb dX11_rateOf_19 (by decide) ?_
  refine lv_iload_n hx hb dX11_rateOf_20 rfl (lv_at hl 3 rfl) ?_
  refine lv_iload hx hb dX11_rateOf_21 (lv_at hl 0 rfl) ?_
  refine lv_icmp_ge hx hb dX11_rateOf_23 (tgt := 30) (by decide) (fun hc => ?_) (fun hc => ?_)
  · rw [if_pos hc] at hm
    refine lv_iload hx hb dX11_rateOf_30 (lv_at hl 0 rfl) ?_
    refine lv_iadd hx hb dX11_rateOf_32 ?_
    refine lv_imul hx hb dX11_rateOf_33 ?_
    cases hm
    exact retI X hH dX11_rateOf_34
  · rw [if_neg hc] at hm
    refine lv_iload_n hx hb dX11_rateOf_26 rfl (lv_at hl 3 rfl) ?_
    refine lv_goto hx hb dX11_rateOf_27 (tgt := 32) (by decide) ?_
    refine lv_iadd hx hb dX11_rateOf_32 ?_
    refine lv_imul hx hb dX11_rateOf_33 ?_
    cases hm
    exact retI X hH dX11_rateOf_34
/-! X11_rateAt -/
def mX11_rateAt (h : Mm) (a1 : Int32) (a2 : Int32) : Option Int32 := gIn a1 24 (gIn a1 24 (gIn a1 24 (gIn a1 24 (bd1 (mX11_rateOf h (h 12 a1.toNatClampNeg) (a2 - (h 10 a1.toNatClampNeg)) (((h 11 a1.toNatClampNeg) - (h 10 a1.toNatClampNeg)) + (1 : Int32))) (fun v5 => some v5)))))
set_option maxRecDepth 4000 in
theorem mt_X11_rateAt {l : Launch} {D : va_G} {ad : Nat → Nat} {ac : Nat → ClassId} {h : Mm} {a1 : Int32} {a2 : Int32} {r : Int32} (hm : mX11_rateAt h a1 a2 = some r) : Mt l D ad ac LM [] yX11_rateAt cX11_rateAt 3 (some .int) 1 [.ref (ad 0), .int a1, .int a2] h (some (.int r)) h := by
  refine Mt.of (own := RX11) (by decide) rfl (Nat.le_of_ble_eq_true rfl) ?_
  intro p e s m below meth c ls X hH hl
  obtain ⟨hx, hb, hml, hown, hts, hr, hlk, hC, hI, hR⟩ := id X
  have hl : lv_has ls 3 [(0, .ref (ad 0)), (1, .int a1), (2, .int a2)] := hl
  rw [mX11_rateAt] at hm
  refine lv_aload_n hx hb dX11_rateAt_0 rfl (lv_at hl 0 rfl) ?_
  refine lv_aload_n hx hb dX11_rateAt_1 rfl (lv_at hl 0 rfl) ?_
  refine gR X hH fl_X11_43 lM_0 rfl dX11_rateAt_2 ?_
  refine lv_iload_n hx hb dX11_rateAt_5 rfl (lv_at hl 1 rfl) ?_
  obtain ⟨hin1, hm⟩ := gIn_some hm
  refine ild X hH lM_12 hin1 dX11_rateAt_6 ?_
  refine lv_iload_n hx hb dX11_rateAt_7 rfl (lv_at hl 2 rfl) ?_
  refine lv_aload_n hx hb dX11_rateAt_8 rfl (lv_at hl 0 rfl) ?_
  refine gR X hH fl_X11_37 lM_0 rfl dX11_rateAt_9 ?_
  refine lv_iload_n hx hb dX11_rateAt_12 rfl (lv_at hl 1 rfl) ?_
  obtain ⟨hin2, hm⟩ := gIn_some hm
  refine ild X hH lM_10 hin2 dX11_rateAt_13 ?_
  refine lv_isub hx hb dX11_rateAt_14 ?_
  refine lv_aload_n hx hb dX11_rateAt_15 rfl (lv_at hl 0 rfl) ?_
  refine gR X hH fl_X11_40 lM_0 rfl dX11_rateAt_16 ?_
  refine lv_iload_n hx hb dX11_rateAt_19 rfl (lv_at hl 1 rfl) ?_
  obtain ⟨hin3, hm⟩ := gIn_some hm
  refine ild X hH lM_11 hin3 dX11_rateAt_20 ?_
  refine lv_aload_n hx hb dX11_rateAt_21 rfl (lv_at hl 0 rfl) ?_
  refine gR X hH fl_X11_37 lM_0 rfl dX11_rateAt_22 ?_
  refine lv_iload_n hx hb dX11_rateAt_25 rfl (lv_at hl 1 rfl) ?_
  obtain ⟨hin4, hm⟩ := gIn_some hm
  refine ild X hH lM_10 hin4 dX11_rateAt_26 ?_
  refine lv_isub hx hb dX11_rateAt_27 ?_
  refine lv_iconst (v := 1) hx hb dX11_rateAt_28 (by decide) ?_
  refine lv_iadd hx hb dX11_rateAt_29 ?_
  obtain ⟨v5, hq, hm⟩ := bd1_some hm
  refine cVi X hH kl_X11_131 kv_X11_rateOf (mt_X11_rateOf hq) lM_0 rfl rfl (by decide) hl.1 rfl (Nat.le_of_ble_eq_true rfl) dX11_rateAt_30 (fun H locs hH => ?_)
  cases hm
  exact retI X hH dX11_rateAt_33
/-! X11_fills_0_20 -/
def mX11_fills_0_20_85 (k24 : Int32 → Mm → Option Mm) (x2 : Int32) (h : Mm) : Option Mm := k24 (x2 + 1) h
set_option maxRecDepth 4000 in
theorem wX11_fills_0_20_85 {p : Program} {l : Launch} {e : Env} {s : State} {m : MethodId} {args : Array Value} {below : List Frame} {meth : Method} {c : Code} {D : va_G} {ad : Nat → Nat} {ac : Nat → ClassId} {h' : Mm} (X : Fx p s m args meth c cX11_fills 4 RX11 none D ad ac LM []) {k24 : Int32 → Mm → Option Mm} (ih24 : ∀ (x2 : Int32) (h : Mm) (H : Heap) (locs : List Loc) (ls : Array Slot), k24 x2 h = some h' → Hp D ad ac LM h s H locs → lv_has ls 4 [(0, .ref (ad 0)), (1, .ref (ad 20)), (2, .int x2)] → W p l e (rmD 2) s m args below meth c H locs 0 0 (MQ below (QU D ad ac LM none h' s.heap.size) args s 0 0 (Aa ad LM.length s.heap.size)) (F0 m 24 ls [])) : ∀ (x2 : Int32) (h : Mm) (H : Heap) (locs : List Loc) (ls : Array Slot), mX11_fills_0_20_85 k24 x2 h = some h' → Hp D ad ac LM h s H locs → lv_has ls 4 [(0, .ref (ad 0)), (1, .ref (ad 20)), (2, .int x2)] → W p l e (rmD 2) s m args below meth c H locs 0 0 (MQ below (QU D ad ac LM none h' s.heap.size) args s 0 0 (Aa ad LM.length s.heap.size)) (F0 m 85 ls []) := by
  obtain ⟨hx, hb, hml, hown, hts, hr, hlk, hC, hI, hR⟩ := id X
  intro x2 h H locs ls hm hH hl
  rw [mX11_fills_0_20_85] at hm
  refine lv_iinc (k := 2) (v := (x2 + 1)) (lv' := [(2, .int (x2 + 1)), (0, .ref (ad 0)), (1, .ref (ad 20))]) hx hb dX11_fills_85 hl rfl rfl (by decide) rfl (fun ls hl => ?_)
  refine lv_goto hx hb dX11_fills_88 (tgt := 24) (by decide) ?_
  exact ih24 (x2 + 1) h _ _ _ hm hH (lv_sub hl [1, 2, 0] rfl)
def mX11_fills_0_20_39 (k24 : Int32 → Mm → Option Mm) : Nat → Int32 → Int32 → Mm → Option Mm
  | 0, _, _, _ => none
  | n + 1, x2, x3, h => gIn x2 24 (if (h 11 x2.toNatClampNeg) < x3 then (mX11_fills_0_20_85 k24 x2 h) else (gIn x2 24 (if (h 20 x2.toNatClampNeg) = (-4 : Int32) then (mX11_fills_0_20_85 k24 x2 h) else (gIn x2 24 (bd1 (mX11_rateAt h x2 x3) (fun v4 => gIn (((60 : Int32) * (h 12 x2.toNatClampNeg)) + x3) 240 (mlet (wr h 24 (((60 : Int32) * (h 12 x2.toNatClampNeg)) + x3).toNatClampNeg v4) (fun h5 => mX11_fills_0_20_39 k24 n x2 (x3 + 1) h5))))))))
set_option maxRecDepth 4000 in
theorem wX11_fills_0_20_39 {p : Program} {l : Launch} {e : Env} {s : State} {m : MethodId} {args : Array Value} {below : List Frame} {meth : Method} {c : Code} {D : va_G} {ad : Nat → Nat} {ac : Nat → ClassId} {h' : Mm} (X : Fx p s m args meth c cX11_fills 4 RX11 none D ad ac LM []) {k24 : Int32 → Mm → Option Mm} (ih24 : ∀ (x2 : Int32) (h : Mm) (H : Heap) (locs : List Loc) (ls : Array Slot), k24 x2 h = some h' → Hp D ad ac LM h s H locs → lv_has ls 4 [(0, .ref (ad 0)), (1, .ref (ad 20)), (2, .int x2)] → W p l e (rmD 2) s m args below meth c H locs 0 0 (MQ below (QU D ad ac LM none h' s.heap.size) args s 0 0 (Aa ad LM.length s.heap.size)) (F0 m 24 ls [])) : ∀ (n : Nat) (x2 : Int32) (x3 : Int32) (h : Mm) (H : Heap) (locs : List Loc) (ls : Array Slot), mX11_fills_0_20_39 k24 n x2 x3 h = some h' → Hp D ad ac LM h s H locs → lv_has ls 4 [(0, .ref (ad 0)), (1, .ref (ad 20)), (2, .int x2), (3, .int x3)] → W p l e (rmD 2) s m args below meth c H locs 0 0 (MQ below (QU D ad ac LM none h' s.heap.size) args s 0 0 (Aa ad LM.length s.heap.size)) (F0 m 39 ls []) := by
  obtain ⟨hx, hb, hml, hown, hts, hr, hlk, hC, hI, hR⟩ := id X
  intro n
  induction n with
  | zero => intro x2 x3 h H locs ls hm; rw [mX11_fills_0_20_39] at hm; cases hm
  | succ n ih =>
    intro x2 x3 h H locs ls hm hH hl
    rw [mX11_fills_0_20_39] at hm
    refine lv_iload_n hx hb dX11_fills_39 rfl (lv_at hl 3 rfl) ?_
    refine lv_aload_n hx hb dX11_fills_40 rfl (lv_at hl 0 rfl) ?_
    refine gR X hH fl_X11_40 lM_0 rfl dX11_fills_41 ?_
    refine lv_iload_n hx hb dX11_fills_44 rfl (lv_at hl 2 rfl) ?_
    obtain ⟨hin1, hm⟩ := gIn_some hm
    refine ild X hH lM_11 hin1 dX11_fills_45 ?_
    refine lv_icmp_gt hx hb dX11_fills_46 (tgt := 85) (by decide) (fun hc => ?_) (fun hc => ?_)
    · rw [if_pos hc] at hm
      exact wX11_fills_0_20_85 X ih24 x2 h _ _ _ hm hH (lv_sub hl [0, 1, 2] rfl)
    · rw [if_neg hc] at hm
      refine lv_aload_n hx hb dX11_fills_49 rfl (lv_at hl 1 rfl) ?_
      refine lv_iload_n hx hb dX11_fills_50 rfl (lv_at hl 2 rfl) ?_
      obtain ⟨hin2, hm⟩ := gIn_some hm
      refine ild X hH lM_20 hin2 dX11_fills_51 ?_
      refine lv_bipush (v := (-4)) hx hb dX11_fills_52 (by decide) ?_
      refine lv_icmp_eq hx hb dX11_fills_54 (tgt := 85) (by decide) (fun hc => ?_) (fun hc => ?_)
      · rw [if_pos hc] at hm
        exact wX11_fills_0_20_85 X ih24 x2 h _ _ _ hm hH (lv_sub hl [0, 1, 2] rfl)
      · rw [if_neg hc] at hm
        refine lv_aload_n hx hb dX11_fills_57 rfl (lv_at hl 0 rfl) ?_
        refine gR X hH fl_X11_79 lM_0 rfl dX11_fills_58 ?_
        refine lv_bipush (v := 60) hx hb dX11_fills_61 (by decide) ?_
        refine lv_aload_n hx hb dX11_fills_63 rfl (lv_at hl 0 rfl) ?_
        refine gR X hH fl_X11_43 lM_0 rfl dX11_fills_64 ?_
        refine lv_iload_n hx hb dX11_fills_67 rfl (lv_at hl 2 rfl) ?_
        obtain ⟨hin3, hm⟩ := gIn_some hm
        refine ild X hH lM_12 hin3 dX11_fills_68 ?_
        refine lv_imul hx hb dX11_fills_69 ?_
        refine lv_iload_n hx hb dX11_fills_70 rfl (lv_at hl 3 rfl) ?_
        refine lv_iadd hx hb dX11_fills_71 ?_
        refine lv_aload_n hx hb dX11_fills_72 rfl (lv_at hl 0 rfl) ?_
        refine lv_iload_n hx hb dX11_fills_73 rfl (lv_at hl 2 rfl) ?_
        refine lv_iload_n hx hb dX11_fills_74 rfl (lv_at hl 3 rfl) ?_
        obtain ⟨v4, hq, hm⟩ := bd1_some hm
        refine cVi X hH kl_X11_156 kv_X11_rateAt (mt_X11_rateAt hq) lM_0 rfl rfl (by decide) hl.1 rfl (Nat.le_of_ble_eq_true rfl) dX11_fills_75 (fun H locs hH => ?_)
        obtain ⟨hin6, hm⟩ := gIn_some hm
        obtain ⟨h5, eh5, hm⟩ := mlet_some hm
        refine ist X hH lM_24 hin6 dX11_fills_78 (fun H locs hH => ?_)
        rw [← eh5] at hH
        refine lv_iinc (k := 3) (v := (x3 + 1)) (lv' := [(3, .int (x3 + 1)), (0, .ref (ad 0)), (1, .ref (ad 20)), (2, .int x2)]) hx hb dX11_fills_79 hl rfl rfl (by decide) rfl (fun ls hl => ?_)
        refine lv_goto hx hb dX11_fills_82 (tgt := 39) (by decide) ?_
        exact ih x2 (x3 + 1) h5 _ _ _ hm hH (lv_sub hl [1, 2, 3, 0] rfl)
def mX11_fills_0_20_24 : Nat → Int32 → Mm → Option Mm
  | 0, _, _ => none
  | n + 1, x2, h => if (h 0 16) ≤ x2 then (some h) else (gIn x2 24 (mlet (h 10 x2.toNatClampNeg) (fun u2 => mX11_fills_0_20_39 (mX11_fills_0_20_24 n) FU x2 u2 h)))
set_option maxRecDepth 4000 in
theorem wX11_fills_0_20_24 {p : Program} {l : Launch} {e : Env} {s : State} {m : MethodId} {args : Array Value} {below : List Frame} {meth : Method} {c : Code} {D : va_G} {ad : Nat → Nat} {ac : Nat → ClassId} {h' : Mm} (X : Fx p s m args meth c cX11_fills 4 RX11 none D ad ac LM []) : ∀ (n : Nat) (x2 : Int32) (h : Mm) (H : Heap) (locs : List Loc) (ls : Array Slot), mX11_fills_0_20_24 n x2 h = some h' → Hp D ad ac LM h s H locs → lv_has ls 4 [(0, .ref (ad 0)), (1, .ref (ad 20)), (2, .int x2)] → W p l e (rmD 2) s m args below meth c H locs 0 0 (MQ below (QU D ad ac LM none h' s.heap.size) args s 0 0 (Aa ad LM.length s.heap.size)) (F0 m 24 ls []) := by
  obtain ⟨hx, hb, hml, hown, hts, hr, hlk, hC, hI, hR⟩ := id X
  intro n
  induction n with
  | zero => intro x2 h H locs ls hm; rw [mX11_fills_0_20_24] at hm; cases hm
  | succ n ih =>
    intro x2 h H locs ls hm hH hl
    rw [mX11_fills_0_20_24] at hm
    refine lv_iload_n hx hb dX11_fills_24 rfl (lv_at hl 2 rfl) ?_
    refine lv_aload_n hx hb dX11_fills_25 rfl (lv_at hl 0 rfl) ?_
    refine gI X hH fl_X11_124 lM_0 rfl dX11_fills_26 ?_
    refine lv_icmp_ge hx hb dX11_fills_29 (tgt := 91) (by decide) (fun hc => ?_) (fun hc => ?_)
    · rw [if_pos hc] at hm
      cases hm
      exact retV X hH dX11_fills_91
    · rw [if_neg hc] at hm
      refine lv_aload_n hx hb dX11_fills_32 rfl (lv_at hl 0 rfl) ?_
      refine gR X hH fl_X11_37 lM_0 rfl dX11_fills_33 ?_
      refine lv_iload_n hx hb dX11_fills_36 rfl (lv_at hl 2 rfl) ?_
      obtain ⟨hin1, hm⟩ := gIn_some hm
      refine ild X hH lM_10 hin1 dX11_fills_37 ?_
      obtain ⟨u2, eu2, hm⟩ := mlet_some hm
      refine W.eq (g2 := F0 m 38 ls (.int u2 :: [])) (by rw [eu2]) ?_
      refine lv_istore_n (lv' := [(3, .int u2), (0, .ref (ad 0)), (1, .ref (ad 20)), (2, .int x2)]) hx hb dX11_fills_38 rfl hl (by decide) rfl (fun ls hl => ?_)
      exact wX11_fills_0_20_39 X ih FU x2 u2 h _ _ _ hm hH (lv_sub hl [1, 2, 3, 0] rfl)
def mX11_fills_0_20_2 : Nat → Int32 → Mm → Option Mm
  | 0, _, _ => none
  | n + 1, x2, h => if (240 : Int32) ≤ x2 then (mX11_fills_0_20_24 FU (0 : Int32) h) else (gIn x2 240 (mlet (wr h 24 x2.toNatClampNeg (0 : Int32)) (fun h1 => mX11_fills_0_20_2 n (x2 + 1) h1)))
set_option maxRecDepth 4000 in
theorem wX11_fills_0_20_2 {p : Program} {l : Launch} {e : Env} {s : State} {m : MethodId} {args : Array Value} {below : List Frame} {meth : Method} {c : Code} {D : va_G} {ad : Nat → Nat} {ac : Nat → ClassId} {h' : Mm} (X : Fx p s m args meth c cX11_fills 4 RX11 none D ad ac LM []) : ∀ (n : Nat) (x2 : Int32) (h : Mm) (H : Heap) (locs : List Loc) (ls : Array Slot), mX11_fills_0_20_2 n x2 h = some h' → Hp D ad ac LM h s H locs → lv_has ls 4 [(0, .ref (ad 0)), (1, .ref (ad 20)), (2, .int x2)] → W p l e (rmD 2) s m args below meth c H locs 0 0 (MQ below (QU D ad ac LM none h' s.heap.size) args s 0 0 (Aa ad LM.length s.heap.size)) (F0 m 2 ls []) := by
  obtain ⟨hx, hb, hml, hown, hts, hr, hlk, hC, hI, hR⟩ := id X
  intro n
  induction n with
  | zero => intro x2 h H locs ls hm; rw [mX11_fills_0_20_2] at hm; cases hm
  | succ n ih =>
    intro x2 h H locs ls hm hH hl
    rw [mX11_fills_0_20_2] at hm
    refine lv_iload_n hx hb dX11_fills_2 rfl (lv_at hl 2 rfl) ?_
    refine lv_sipush (v := 240) hx hb dX11_fills_3 (by decide) ?_
    refine lv_icmp_ge hx hb dX11_fills_6 (tgt := 22) (by decide) (fun hc => ?_) (fun hc => ?_)
    · rw [if_pos hc] at hm
      refine lv_iconst (v := 0) hx hb dX11_fills_22 (by decide) ?_
      refine lv_istore_n (lv' := [(2, .int (0 : Int32)), (0, .ref (ad 0)), (1, .ref (ad 20))]) hx hb dX11_fills_23 rfl hl (by decide) rfl (fun ls hl => ?_)
      exact wX11_fills_0_20_24 X FU (0 : Int32) h _ _ _ hm hH (lv_sub hl [1, 2, 0] rfl)
    · rw [if_neg hc] at hm
      refine lv_aload_n hx hb dX11_fills_9 rfl (lv_at hl 0 rfl) ?_
      refine gR X hH fl_X11_79 lM_0 rfl dX11_fills_10 ?_
      refine lv_iload_n hx hb dX11_fills_13 rfl (lv_at hl 2 rfl) ?_
      refine lv_iconst (v := 0) hx hb dX11_fills_14 (by decide) ?_
      obtain ⟨hin2, hm⟩ := gIn_some hm
      obtain ⟨h1, eh1, hm⟩ := mlet_some hm
      refine ist X hH lM_24 hin2 dX11_fills_15 (fun H locs hH => ?_)
      rw [← eh1] at hH
      refine lv_iinc (k := 2) (v := (x2 + 1)) (lv' := [(2, .int (x2 + 1)), (0, .ref (ad 0)), (1, .ref (ad 20))]) hx hb dX11_fills_16 hl rfl rfl (by decide) rfl (fun ls hl => ?_)
      refine lv_goto hx hb dX11_fills_19 (tgt := 2) (by decide) ?_
      exact ih (x2 + 1) h1 _ _ _ hm hH (lv_sub hl [1, 2, 0] rfl)
def mX11_fills_0_20 (h : Mm) : Option Mm := mX11_fills_0_20_2 FU (0 : Int32) h
set_option maxRecDepth 4000 in
theorem mt_X11_fills_0_20 {l : Launch} {D : va_G} {ad : Nat → Nat} {ac : Nat → ClassId} {h : Mm} {h' : Mm} (hm : mX11_fills_0_20 h = some h') : Mt l D ad ac LM [] yX11_fills cX11_fills 4 none 2 [.ref (ad 0), .ref (ad 20)] h none h' := by
  refine Mt.of (own := RX11) (by decide) rfl (Nat.le_of_ble_eq_true rfl) ?_
  intro p e s m below meth c ls X hH hl
  obtain ⟨hx, hb, hml, hown, hts, hr, hlk, hC, hI, hR⟩ := id X
  have hl : lv_has ls 4 [(0, .ref (ad 0)), (1, .ref (ad 20))] := hl
  rw [mX11_fills_0_20] at hm
  refine lv_iconst (v := 0) hx hb dX11_fills_0 (by decide) ?_
  refine lv_istore_n (lv' := [(2, .int (0 : Int32)), (0, .ref (ad 0)), (1, .ref (ad 20))]) hx hb dX11_fills_1 rfl hl (by decide) rfl (fun ls hl => ?_)
  exact wX11_fills_0_20_2 X FU (0 : Int32) h _ _ _ hm hH (lv_sub hl [1, 2, 0] rfl)
/-! X11_flows -/
def mX11_flows_196 (k31 : Int32 → Int32 → Int32 → Mm → Option Mm) (x1 : Int32) (x2 : Int32) (x3 : Int32) (h : Mm) : Option Mm := k31 x1 x2 (x3 + 1) h
set_option maxRecDepth 4000 in
theorem wX11_flows_196 {p : Program} {l : Launch} {e : Env} {s : State} {m : MethodId} {args : Array Value} {below : List Frame} {meth : Method} {c : Code} {D : va_G} {ad : Nat → Nat} {ac : Nat → ClassId} {h' : Mm} (X : Fx p s m args meth c cX11_flows 6 RX11 none D ad ac LM []) {k31 : Int32 → Int32 → Int32 → Mm → Option Mm} (ih31 : ∀ (x1 : Int32) (x2 : Int32) (x3 : Int32) (h : Mm) (H : Heap) (locs : List Loc) (ls : Array Slot), k31 x1 x2 x3 h = some h' → Hp D ad ac LM h s H locs → lv_has ls 6 [(0, .ref (ad 0)), (1, .int x1), (2, .int x2), (3, .int x3)] → W p l e (rmD 0) s m args below meth c H locs 0 0 (MQ below (QU D ad ac LM none h' s.heap.size) args s 0 0 (Aa ad LM.length s.heap.size)) (F0 m 31 ls [])) : ∀ (x1 : Int32) (x2 : Int32) (x3 : Int32) (h : Mm) (H : Heap) (locs : List Loc) (ls : Array Slot), mX11_flows_196 k31 x1 x2 x3 h = some h' → Hp D ad ac LM h s H locs → lv_has ls 6 [(0, .ref (ad 0)), (1, .int x1), (2, .int x2), (3, .int x3)] → W p l e (rmD 0) s m args below meth c H locs 0 0 (MQ below (QU D ad ac LM none h' s.heap.size) args s 0 0 (Aa ad LM.length s.heap.size)) (F0 m 196 ls []) := by
  obtain ⟨hx, hb, hml, hown, hts, hr, hlk, hC, hI, hR⟩ := id X
  intro x1 x2 x3 h H locs ls hm hH hl
  rw [mX11_flows_196] at hm
  refine lv_iinc (k := 3) (v := (x3 + 1)) (lv' := [(3, .int (x3 + 1)), (0, .ref (ad 0)), (1, .int x1), (2, .int x2)]) hx hb dX11_flows_196 hl rfl rfl (by decide) rfl (fun ls hl => ?_)
  refine lv_goto hx hb dX11_flows_199 (tgt := 31) (by decide) ?_
  exact ih31 x1 x2 (x3 + 1) h _ _ _ hm hH (lv_sub hl [1, 2, 3, 0] rfl)
def mX11_flows_195 (k31 : Int32 → Int32 → Int32 → Mm → Option Mm) (x1 : Int32) (x2 : Int32) (x3 : Int32) (t0 : Int32) (t1 : Int32) (h : Mm) : Option Mm := gIn t1 4 (mlet (wr h 23 t1.toNatClampNeg t0) (fun h1 => mX11_flows_196 k31 x1 x2 x3 h1))
set_option maxRecDepth 4000 in
theorem wX11_flows_195 {p : Program} {l : Launch} {e : Env} {s : State} {m : MethodId} {args : Array Value} {below : List Frame} {meth : Method} {c : Code} {D : va_G} {ad : Nat → Nat} {ac : Nat → ClassId} {h' : Mm} (X : Fx p s m args meth c cX11_flows 6 RX11 none D ad ac LM []) {k31 : Int32 → Int32 → Int32 → Mm → Option Mm} (ih31 : ∀ (x1 : Int32) (x2 : Int32) (x3 : Int32) (h : Mm) (H : Heap) (locs : List Loc) (ls : Array Slot), k31 x1 x2 x3 h = some h' → Hp D ad ac LM h s H locs → lv_has ls 6 [(0, .ref (ad 0)), (1, .int x1), (2, .int x2), (3, .int x3)] → W p l e (rmD 0) s m args below meth c H locs 0 0 (MQ below (QU D ad ac LM none h' s.heap.size) args s 0 0 (Aa ad LM.length s.heap.size)) (F0 m 31 ls [])) : ∀ (x1 : Int32) (x2 : Int32) (x3 : Int32) (t0 : Int32) (t1 : Int32) (h : Mm) (H : Heap) (locs : List Loc) (ls : Array Slot), mX11_flows_195 k31 x1 x2 x3 t0 t1 h = some h' → Hp D ad ac LM h s H locs → lv_has ls 6 [(0, .ref (ad 0)), (1, .int x1), (2, .int x2), (3, .int x3)] → W p l e (rmD 0) s m args below meth c H locs 0 0 (MQ below (QU D ad ac LM none h' s.heap.size) args s 0 0 (Aa ad LM.length s.heap.size)) (F0 m 195 ls [.int t0, .int t1, .ref (ad 23)]) := by
  obtain ⟨hx, hb, hml, hown, hts, hr, hlk, hC, hI, hR⟩ := id X
  intro x1 x2 x3 t0 t1 h H locs ls hm hH hl
  rw [mX11_flows_195] at hm
  obtain ⟨hin2, hm⟩ := gIn_some hm
  obtain ⟨h1, eh1, hm⟩ := mlet_some hm
  refine ist X hH lM_23 hin2 dX11_flows_195 (fun H locs hH => ?_)
  rw [← eh1] at hH
  exact wX11_flows_196 X ih31 x1 x2 x3 h1 _ _ _ hm hH (lv_sub hl [0, 1, 2, 3] rfl)
def mX11_flows_97 (k31 : Int32 → Int32 → Int32 → Mm → Option Mm) (x1 : Int32) (x2 : Int32) (x3 : Int32) (t0 : Int32) (h : Mm) : Option Mm := gIn (0 : Int32) 4 (gIn (0 : Int32) 4 (mlet (wr h 23 (0 : Int32).toNatClampNeg ((h 23 (0 : Int32).toNatClampNeg) - t0)) (fun h2 => gIn (2 : Int32) 4 (gIn (2 : Int32) 4 (mlet (wr h2 23 (2 : Int32).toNatClampNeg ((h2 23 (2 : Int32).toNatClampNeg) + t0)) (fun h5 => gIn (0 : Int32) 4 (gIn (((5 : Int32) * x1) + (3 : Int32)) 20 (mlet ((h5 23 (0 : Int32).toNatClampNeg) - ((2 : Int32) * (h5 2 (((5 : Int32) * x1) + (3 : Int32)).toNatClampNeg))) (fun u9 => if u9 ≤ 0 then (mX11_flows_196 k31 x1 x2 x3 h5) else (gIn (0 : Int32) 4 (gIn (0 : Int32) 4 (mlet (wr h5 23 (0 : Int32).toNatClampNeg ((h5 23 (0 : Int32).toNatClampNeg) - u9)) (fun h11 => gIn (1 : Int32) 4 (gIn (1 : Int32) 4 (mlet (wr h11 23 (1 : Int32).toNatClampNeg ((h11 23 (1 : Int32).toNatClampNeg) + u9)) (fun h14 => gIn (3 : Int32) 4 (if (h14 23 (3 : Int32).toNatClampNeg) = (-4 : Int32) then (mX11_flows_195 k31 x1 x2 x3 x3 (3 : Int32) h14) else (gIn (3 : Int32) 4 (mX11_flows_195 k31 x1 x2 x3 (h14 23 (3 : Int32).toNatClampNeg) (3 : Int32) h14)))))))))))))))))))
set_option maxRecDepth 4000 in
theorem wX11_flows_97 {p : Program} {l : Launch} {e : Env} {s : State} {m : MethodId} {args : Array Value} {below : List Frame} {meth : Method} {c : Code} {D : va_G} {ad : Nat → Nat} {ac : Nat → ClassId} {h' : Mm} (X : Fx p s m args meth c cX11_flows 6 RX11 none D ad ac LM []) {k31 : Int32 → Int32 → Int32 → Mm → Option Mm} (ih31 : ∀ (x1 : Int32) (x2 : Int32) (x3 : Int32) (h : Mm) (H : Heap) (locs : List Loc) (ls : Array Slot), k31 x1 x2 x3 h = some h' → Hp D ad ac LM h s H locs → lv_has ls 6 [(0, .ref (ad 0)), (1, .int x1), (2, .int x2), (3, .int x3)] → W p l e (rmD 0) s m args below meth c H locs 0 0 (MQ below (QU D ad ac LM none h' s.heap.size) args s 0 0 (Aa ad LM.length s.heap.size)) (F0 m 31 ls [])) : ∀ (x1 : Int32) (x2 : Int32) (x3 : Int32) (t0 : Int32) (h : Mm) (H : Heap) (locs : List Loc) (ls : Array Slot), mX11_flows_97 k31 x1 x2 x3 t0 h = some h' → Hp D ad ac LM h s H locs → lv_has ls 6 [(0, .ref (ad 0)), (1, .int x1), (2, .int x2), (3, .int x3)] → W p l e (rmD 0) s m args below meth c H locs 0 0 (MQ below (QU D ad ac LM none h' s.heap.size) args s 0 0 (Aa ad LM.length s.heap.size)) (F0 m 97 ls [.int t0]) := by
  obtain ⟨hx, hb, hml, hown, hts, hr, hlk, hC, hI, hR⟩ := id X
  intro x1 x2 x3 t0 h H locs ls hm hH hl
  rw [mX11_flows_97] at hm
  refine lv_istore (lv' := [(4, .int t0), (0, .ref (ad 0)), (1, .int x1), (2, .int x2), (3, .int x3)]) hx hb dX11_flows_97 hl (by decide) rfl (fun ls hl => ?_)
  refine lv_aload_n hx hb dX11_flows_99 rfl (lv_at hl 1 rfl) ?_
  refine gR X hH fl_X11_76 lM_0 rfl dX11_flows_100 ?_
  refine lv_iconst (v := 0) hx hb dX11_flows_103 (by decide) ?_
  refine lv_dup2_11 hx hb dX11_flows_104 rfl rfl ?_
  obtain ⟨hin1, hm⟩ := gIn_some hm
  refine ild X hH lM_23 hin1 dX11_flows_105 ?_
  refine lv_iload hx hb dX11_flows_106 (lv_at hl 0 rfl) ?_
  refine lv_isub hx hb dX11_flows_108 ?_
  obtain ⟨hin3, hm⟩ := gIn_some hm
  obtain ⟨h2, eh2, hm⟩ := mlet_some hm
  refine ist X hH lM_23 hin3 dX11_flows_109 (fun H locs hH => ?_)
  rw [← eh2] at hH
  refine lv_aload_n hx hb dX11_flows_110 rfl (lv_at hl 1 rfl) ?_
  refine gR X hH fl_X11_76 lM_0 rfl dX11_flows_111 ?_
  refine lv_iconst (v := 2) hx hb dX11_flows_114 (by decide) ?_
  refine lv_dup2_11 hx hb dX11_flows_115 rfl rfl ?_
  obtain ⟨hin4, hm⟩ := gIn_some hm
  refine ild X hH lM_23 hin4 dX11_flows_116 ?_
  refine lv_iload hx hb dX11_flows_117 (lv_at hl 0 rfl) ?_
  refine lv_iadd hx hb dX11_flows_119 ?_
  obtain ⟨hin6, hm⟩ := gIn_some hm
  obtain ⟨h5, eh5, hm⟩ := mlet_some hm
  refine ist X hH lM_23 hin6 dX11_flows_120 (fun H locs hH => ?_)
  rw [← eh5] at hH
  refine lv_aload_n hx hb dX11_flows_121 rfl (lv_at hl 1 rfl) ?_
  refine gR X hH fl_X11_76 lM_0 rfl dX11_flows_122 ?_
  refine lv_iconst (v := 0) hx hb dX11_flows_125 (by decide) ?_
  obtain ⟨hin7, hm⟩ := gIn_some hm
  refine ild X hH lM_23 hin7 dX11_flows_126 ?_
  refine lv_iconst (v := 2) hx hb dX11_flows_127 (by decide) ?_
  refine lv_aload_n hx hb dX11_flows_128 rfl (lv_at hl 1 rfl) ?_
  refine gR X hH fl_X11_13 lM_0 rfl dX11_flows_129 ?_
  refine lv_iconst (v := 5) hx hb dX11_flows_132 (by decide) ?_
  refine lv_iload_n hx hb dX11_flows_133 rfl (lv_at hl 2 rfl) ?_
  refine lv_imul hx hb dX11_flows_134 ?_
  refine lv_iconst (v := 3) hx hb dX11_flows_135 (by decide) ?_
  refine lv_iadd hx hb dX11_flows_136 ?_
  obtain ⟨hin8, hm⟩ := gIn_some hm
  refine ild X hH lM_2 hin8 dX11_flows_137 ?_
  refine lv_imul hx hb dX11_flows_138 ?_
  refine lv_isub hx hb dX11_flows_139 ?_
  obtain ⟨u9, eu9, hm⟩ := mlet_some hm
  refine W.eq (g2 := F0 m 140 ls (.int u9 :: [])) (by rw [eu9]) ?_
  refine lv_istore (lv' := [(5, .int u9), (4, .int t0), (0, .ref (ad 0)), (1, .int x1), (2, .int x2), (3, .int x3)]) hx hb dX11_flows_140 hl (by decide) rfl (fun ls hl => ?_)
  refine lv_iload hx hb dX11_flows_142 (lv_at hl 0 rfl) ?_
  refine lv_if_le hx hb dX11_flows_144 (tgt := 196) (by decide) (fun hc => ?_) (fun hc => ?_)
  · rw [if_pos hc] at hm
    exact wX11_flows_196 X ih31 x1 x2 x3 h5 _ _ _ hm hH (lv_sub hl [2, 3, 4, 5] rfl)
  · rw [if_neg hc] at hm
    refine lv_aload_n hx hb dX11_flows_147 rfl (lv_at hl 2 rfl) ?_
    refine gR X hH fl_X11_76 lM_0 rfl dX11_flows_148 ?_
    refine lv_iconst (v := 0) hx hb dX11_flows_151 (by decide) ?_
    refine lv_dup2_11 hx hb dX11_flows_152 rfl rfl ?_
    obtain ⟨hin10, hm⟩ := gIn_some hm
    refine ild X hH lM_23 hin10 dX11_flows_153 ?_
    refine lv_iload hx hb dX11_flows_154 (lv_at hl 0 rfl) ?_
    refine lv_isub hx hb dX11_flows_156 ?_
    obtain ⟨hin12, hm⟩ := gIn_some hm
    obtain ⟨h11, eh11, hm⟩ := mlet_some hm
    refine ist X hH lM_23 hin12 dX11_flows_157 (fun H locs hH => ?_)
    rw [← eh11] at hH
    refine lv_aload_n hx hb dX11_flows_158 rfl (lv_at hl 2 rfl) ?_
    refine gR X hH fl_X11_76 lM_0 rfl dX11_flows_159 ?_
    refine lv_iconst (v := 1) hx hb dX11_flows_162 (by decide) ?_
    refine lv_dup2_11 hx hb dX11_flows_163 rfl rfl ?_
    obtain ⟨hin13, hm⟩ := gIn_some hm
    refine ild X hH lM_23 hin13 dX11_flows_164 ?_
    refine lv_iload hx hb dX11_flows_165 (lv_at hl 0 rfl) ?_
    refine lv_iadd hx hb dX11_flows_167 ?_
    obtain ⟨hin15, hm⟩ := gIn_some hm
    obtain ⟨h14, eh14, hm⟩ := mlet_some hm
    refine ist X hH lM_23 hin15 dX11_flows_168 (fun H locs hH => ?_)
    rw [← eh14] at hH
    refine lv_aload_n hx hb dX11_flows_169 rfl (lv_at hl 2 rfl) ?_
    refine gR X hH fl_X11_76 lM_0 rfl dX11_flows_170 ?_
    refine lv_iconst (v := 3) hx hb dX11_flows_173 (by decide) ?_
    refine lv_aload_n hx hb dX11_flows_174 rfl (lv_at hl 2 rfl) ?_
    refine gR X hH fl_X11_76 lM_0 rfl dX11_flows_175 ?_
    refine lv_iconst (v := 3) hx hb dX11_flows_178 (by decide) ?_
    obtain ⟨hin16, hm⟩ := gIn_some hm
    refine ild X hH lM_23 hin16 dX11_flows_179 ?_
    refine lv_bipush (v := (-4)) hx hb dX11_flows_180 (by decide) ?_
    refine lv_icmp_ne hx hb dX11_flows_182 (tgt := 189) (by decide) (fun hc => ?_) (fun hc => ?_)
    · rw [if_neg hc] at hm
      refine lv_aload_n hx hb dX11_flows_189 rfl (lv_at hl 2 rfl) ?_
      refine gR X hH fl_X11_76 lM_0 rfl dX11_flows_190 ?_
      refine lv_iconst (v := 3) hx hb dX11_flows_193 (by decide) ?_
      obtain ⟨hin17, hm⟩ := gIn_some hm
      refine ild X hH lM_23 hin17 dX11_flows_194 ?_
      exact wX11_flows_195 X ih31 x1 x2 x3 (h14 23 (3 : Int32).toNatClampNeg) (3 : Int32) h14 _ _ _ hm hH (lv_sub hl [2, 3, 4, 5] rfl)
    · rw [if_pos hc] at hm
      refine lv_iload_n hx hb dX11_flows_185 rfl (lv_at hl 5 rfl) ?_
      refine lv_goto hx hb dX11_flows_186 (tgt := 195) (by decide) ?_
      exact wX11_flows_195 X ih31 x1 x2 x3 x3 (3 : Int32) h14 _ _ _ hm hH (lv_sub hl [2, 3, 4, 5] rfl)
def mX11_flows_31 : Nat → Int32 → Int32 → Int32 → Mm → Option Mm
  | 0, _, _, _, _ => none
  | n + 1, x1, x2, x3, h => if x2 < x3 then (some h) else (gIn (0 : Int32) 4 (gIn (((5 : Int32) * x1) + (4 : Int32)) 20 (gIn (0 : Int32) 4 (mlet (wr h 23 (0 : Int32).toNatClampNeg ((h 23 (0 : Int32).toNatClampNeg) + ((2 : Int32) * (h 2 (((5 : Int32) * x1) + (4 : Int32)).toNatClampNeg)))) (fun h3 => gIn (((60 : Int32) * x1) + x3) 240 (gIn (0 : Int32) 4 (if (h3 23 (0 : Int32).toNatClampNeg) ≤ (h3 24 (((60 : Int32) * x1) + x3).toNatClampNeg) then (gIn (0 : Int32) 4 (mX11_flows_97 (mX11_flows_31 n) x1 x2 x3 (h3 23 (0 : Int32).toNatClampNeg) h3)) else (gIn (((60 : Int32) * x1) + x3) 240 (mX11_flows_97 (mX11_flows_31 n) x1 x2 x3 (h3 24 (((60 : Int32) * x1) + x3).toNatClampNeg) h3)))))))))
set_option maxRecDepth 4000 in
theorem wX11_flows_31 {p : Program} {l : Launch} {e : Env} {s : State} {m : MethodId} {args : Array Value} {below : List Frame} {meth : Method} {c : Code} {D : va_G} {ad : Nat → Nat} {ac : Nat → ClassId} {h' : Mm} (X : Fx p s m args meth c cX11_flows 6 RX11 none D ad ac LM []) : ∀ (n : Nat) (x1 : Int32) (x2 : Int32) (x3 : Int32) (h : Mm) (H : Heap) (locs : List Loc) (ls : Array Slot), mX11_flows_31 n x1 x2 x3 h = some h' → Hp D ad ac LM h s H locs → lv_has ls 6 [(0, .ref (ad 0)), (1, .int x1), (2, .int x2), (3, .int x3)] → W p l e (rmD 0) s m args below meth c H locs 0 0 (MQ below (QU D ad ac LM none h' s.heap.size) args s 0 0 (Aa ad LM.length s.heap.size)) (F0 m 31 ls []) := by
  obtain ⟨hx, hb, hml, hown, hts, hr, hlk, hC, hI, hR⟩ := id X
  intro n
  induction n with
  | zero => intro x1 x2 x3 h H locs ls hm; rw [mX11_flows_31] at hm; cases hm
  | succ n ih =>
    intro x1 x2 x3 h H locs ls hm hH hl
    rw [mX11_flows_31] at hm
    refine lv_iload_n hx hb dX11_flows_31 rfl (lv_at hl 3 rfl) ?_
    refine lv_iload_n hx hb dX11_flows_32 rfl (lv_at hl 2 rfl) ?_
    refine lv_icmp_gt hx hb dX11_flows_33 (tgt := 202) (by decide) (fun hc => ?_) (fun hc => ?_)
    · rw [if_pos hc] at hm
      cases hm
      exact retV X hH dX11_flows_202
    · rw [if_neg hc] at hm
      refine lv_aload_n hx hb dX11_flows_36 rfl (lv_at hl 0 rfl) ?_
      refine gR X hH fl_X11_76 lM_0 rfl dX11_flows_37 ?_
      refine lv_iconst (v := 0) hx hb dX11_flows_40 (by decide) ?_
      refine lv_dup2_11 hx hb dX11_flows_41 rfl rfl ?_
      obtain ⟨hin1, hm⟩ := gIn_some hm
      refine ild X hH lM_23 hin1 dX11_flows_42 ?_
      refine lv_iconst (v := 2) hx hb dX11_flows_43 (by decide) ?_
      refine lv_aload_n hx hb dX11_flows_44 rfl (lv_at hl 0 rfl) ?_
      refine gR X hH fl_X11_13 lM_0 rfl dX11_flows_45 ?_
      refine lv_iconst (v := 5) hx hb dX11_flows_48 (by decide) ?_
      refine lv_iload_n hx hb dX11_flows_49 rfl (lv_at hl 1 rfl) ?_
      refine lv_imul hx hb dX11_flows_50 ?_
      refine lv_iconst (v := 4) hx hb dX11_flows_51 (by decide) ?_
      refine lv_iadd hx hb dX11_flows_52 ?_
      obtain ⟨hin2, hm⟩ := gIn_some hm
      refine ild X hH lM_2 hin2 dX11_flows_53 ?_
      refine lv_imul hx hb dX11_flows_54 ?_
      refine lv_iadd hx hb dX11_flows_55 ?_
      obtain ⟨hin4, hm⟩ := gIn_some hm
      obtain ⟨h3, eh3, hm⟩ := mlet_some hm
      refine ist X hH lM_23 hin4 dX11_flows_56 (fun H locs hH => ?_)
      rw [← eh3] at hH
      refine lv_aload_n hx hb dX11_flows_57 rfl (lv_at hl 0 rfl) ?_
      refine gR X hH fl_X11_79 lM_0 rfl dX11_flows_58 ?_
      refine lv_bipush (v := 60) hx hb dX11_flows_61 (by decide) ?_
      refine lv_iload_n hx hb dX11_flows_63 rfl (lv_at hl 1 rfl) ?_
      refine lv_imul hx hb dX11_flows_64 ?_
      refine lv_iload_n hx hb dX11_flows_65 rfl (lv_at hl 3 rfl) ?_
      refine lv_iadd hx hb dX11_flows_66 ?_
      obtain ⟨hin5, hm⟩ := gIn_some hm
      refine ild X hH lM_24 hin5 dX11_flows_67 ?_
      refine lv_aload_n hx hb dX11_flows_68 rfl (lv_at hl 0 rfl) ?_
      refine gR X hH fl_X11_76 lM_0 rfl dX11_flows_69 ?_
      refine lv_iconst (v := 0) hx hb dX11_flows_72 (by decide) ?_
      obtain ⟨hin6, hm⟩ := gIn_some hm
      refine ild X hH lM_23 hin6 dX11_flows_73 ?_
      refine lv_icmp_ge hx hb dX11_flows_74 (tgt := 91) (by decide) (fun hc => ?_) (fun hc => ?_)
      · rw [if_pos hc] at hm
        refine lv_aload_n hx hb dX11_flows_91 rfl (lv_at hl 0 rfl) ?_
        refine gR X hH fl_X11_76 lM_0 rfl dX11_flows_92 ?_
        refine lv_iconst (v := 0) hx hb dX11_flows_95 (by decide) ?_
        obtain ⟨hin7, hm⟩ := gIn_some hm
        refine ild X hH lM_23 hin7 dX11_flows_96 ?_
        exact wX11_flows_97 X ih x1 x2 x3 (h3 23 (0 : Int32).toNatClampNeg) h3 _ _ _ hm hH (lv_sub hl [0, 1, 2, 3] rfl)
      · rw [if_neg hc] at hm
        refine lv_aload_n hx hb dX11_flows_77 rfl (lv_at hl 0 rfl) ?_
        refine gR X hH fl_X11_79 lM_0 rfl dX11_flows_78 ?_
        refine lv_bipush (v := 60) hx hb dX11_flows_81 (by decide) ?_
        refine lv_iload_n hx hb dX11_flows_83 rfl (lv_at hl 1 rfl) ?_
        refine lv_imul hx hb dX11_flows_84 ?_
        refine lv_iload_n hx hb dX11_flows_85 rfl (lv_at hl 3 rfl) ?_
        refine lv_iadd hx hb dX11_flows_86 ?_
        obtain ⟨hin8, hm⟩ := gIn_some hm
        refine ild X hH lM_24 hin8 dX11_flows_87 ?_
        refine lv_goto hx hb dX11_flows_88 (tgt := 97) (by decide) ?_
        exact wX11_flows_97 X ih x1 x2 x3 (h3 24 (((60 : Int32) * x1) + x3).toNatClampNeg) h3 _ _ _ hm hH (lv_sub hl [0, 1, 2, 3] rfl)
def mX11_flows (h : Mm) (a1 : Int32) (a2 : Int32) : Option Mm := gIn (0 : Int32) 4 (mlet (wr h 23 (0 : Int32).toNatClampNeg (0 : Int32)) (fun h1 => gIn (1 : Int32) 4 (mlet (wr h1 23 (1 : Int32).toNatClampNeg (0 : Int32)) (fun h3 => gIn (2 : Int32) 4 (mlet (wr h3 23 (2 : Int32).toNatClampNeg (0 : Int32)) (fun h5 => gIn (3 : Int32) 4 (mlet (wr h5 23 (3 : Int32).toNatClampNeg (-4 : Int32)) (fun h7 => mX11_flows_31 FU a1 a2 (0 : Int32) h7))))))))
set_option maxRecDepth 4000 in
theorem mt_X11_flows {l : Launch} {D : va_G} {ad : Nat → Nat} {ac : Nat → ClassId} {h : Mm} {a1 : Int32} {a2 : Int32} {h' : Mm} (hm : mX11_flows h a1 a2 = some h') : Mt l D ad ac LM [] yX11_flows cX11_flows 6 none 0 [.ref (ad 0), .int a1, .int a2] h none h' := by
  refine Mt.of (own := RX11) (by decide) rfl (Nat.le_of_ble_eq_true rfl) ?_
  intro p e s m below meth c ls X hH hl
  obtain ⟨hx, hb, hml, hown, hts, hr, hlk, hC, hI, hR⟩ := id X
  have hl : lv_has ls 6 [(0, .ref (ad 0)), (1, .int a1), (2, .int a2)] := hl
  rw [mX11_flows] at hm
  refine lv_aload_n hx hb dX11_flows_0 rfl (lv_at hl 0 rfl) ?_
  refine gR X hH fl_X11_76 lM_0 rfl dX11_flows_1 ?_
  refine lv_iconst (v := 0) hx hb dX11_flows_4 (by decide) ?_
  refine lv_iconst (v := 0) hx hb dX11_flows_5 (by decide) ?_
  obtain ⟨hin2, hm⟩ := gIn_some hm
  obtain ⟨h1, eh1, hm⟩ := mlet_some hm
  refine ist X hH lM_23 hin2 dX11_flows_6 (fun H locs hH => ?_)
  rw [← eh1] at hH
  refine lv_aload_n hx hb dX11_flows_7 rfl (lv_at hl 0 rfl) ?_
  refine gR X hH fl_X11_76 lM_0 rfl dX11_flows_8 ?_
  refine lv_iconst (v := 1) hx hb dX11_flows_11 (by decide) ?_
  refine lv_iconst (v := 0) hx hb dX11_flows_12 (by decide) ?_
  obtain ⟨hin4, hm⟩ := gIn_some hm
  obtain ⟨h3, eh3, hm⟩ := mlet_some hm
  refine ist X hH lM_23 hin4 dX11_flows_13 (fun H locs hH => ?_)
  rw [← eh3] at hH
  refine lv_aload_n hx hb dX11_flows_14 rfl (lv_at hl 0 rfl) ?_
  refine gR X hH fl_X11_76 lM_0 rfl dX11_flows_15 ?_
  refine lv_iconst (v := 2) hx hb dX11_flows_18 (by decide) ?_
  refine lv_iconst (v := 0) hx hb dX11_flows_19 (by decide) ?_
  obtain ⟨hin6, hm⟩ := gIn_some hm
  obtain ⟨h5, eh5, hm⟩ := mlet_some hm
  refine ist X hH lM_23 hin6 dX11_flows_20 (fun H locs hH => ?_)
  rw [← eh5] at hH
  refine lv_aload_n hx hb dX11_flows_21 rfl (lv_at hl 0 rfl) ?_
  refine gR X hH fl_X11_76 lM_0 rfl dX11_flows_22 ?_
  refine lv_iconst (v := 3) hx hb dX11_flows_25 (by decide) ?_
  refine lv_bipush (v := (-4)) hx hb dX11_flows_26 (by decide) ?_
  obtain ⟨hin8, hm⟩ := gIn_some hm
  obtain ⟨h7, eh7, hm⟩ := mlet_some hm
  refine ist X hH lM_23 hin8 dX11_flows_28 (fun H locs hH => ?_)
  rw [← eh7] at hH
  refine lv_iconst (v := 0) hx hb dX11_flows_29 (by decide) ?_
  refine lv_istore_n (lv' := [(3, .int (0 : Int32)), (0, .ref (ad 0)), (1, .int a1), (2, .int a2)]) hx hb dX11_flows_30 rfl hl (by decide) rfl (fun ls hl => ?_)
  exact wX11_flows_31 X FU a1 a2 (0 : Int32) h7 _ _ _ hm hH (lv_sub hl [1, 2, 3, 0] rfl)
