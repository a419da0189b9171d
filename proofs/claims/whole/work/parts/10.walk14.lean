/-! X11_bound -/
def mX11_bound_86 (h : Mm) (k14 : Int32 → Int32 → Int32 → Option Int32) (x1 : Int32) (x3 : Int32) (t0 : Int32) (t1 : Int32) : Option Int32 := mlet (t1 + t0) (fun u1 => k14 x1 u1 (x3 + 1))
set_option maxRecDepth 4000 in
theorem wX11_bound_86 {p : Program} {l : Launch} {e : Env} {s : State} {m : MethodId} {args : Array Value} {below : List Frame} {meth : Method} {c : Code} {D : va_G} {ad : Nat → Nat} {ac : Nat → ClassId} {h : Mm} {r : Int32} (X : Fx p s m args meth c cX11_bound 6 RX11 (some .int) D ad ac LM []) {k14 : Int32 → Int32 → Int32 → Option Int32} (ih14 : ∀ (x1 : Int32) (x2 : Int32) (x3 : Int32) (H : Heap) (locs : List Loc) (ls : Array Slot), k14 x1 x2 x3 = some r → Hp D ad ac LM h s H locs → lv_has ls 6 [(0, .ref (ad 0)), (1, .int x1), (2, .int x2), (3, .int x3)] → W p l e (rmD 2) s m args below meth c H locs 0 0 (MQ below (QU D ad ac LM (some (.int r)) h s.heap.size) args s 0 0 (Aa ad LM.length s.heap.size)) (F0 m 14 ls [])) : ∀ (x1 : Int32) (x3 : Int32) (t0 : Int32) (t1 : Int32) (H : Heap) (locs : List Loc) (ls : Array Slot), mX11_bound_86 h k14 x1 x3 t0 t1 = some r → Hp D ad ac LM h s H locs → lv_has ls 6 [(0, .ref (ad 0)), (1, .int x1), (3, .int x3)] → W p l e (rmD 2) s m args below meth c H locs 0 0 (MQ below (QU D ad ac LM (some (.int r)) h s.heap.size) args s 0 0 (Aa ad LM.length s.heap.size)) (F0 m 86 ls [.int t0, .int t1]) := by
  obtain ⟨hx, hb, hml, hown, hts, hr, hlk, hC, hI, hR⟩ := id X
  intro x1 x3 t0 t1 H locs ls hm hH hl
  rw [mX11_bound_86] at hm
  refine lv_iadd hx hb dX11_bound_86 ?_
  obtain ⟨u1, eu1, hm⟩ := mlet_some hm
  refine W.eq (g2 := F0 m 87 ls (.int u1 :: [])) (by rw [eu1]) ?_
  refine lv_istore_n (lv' := [(2, .int u1), (0, .ref (ad 0)), (1, .int x1), (3, .int x3)]) hx hb dX11_bound_87 rfl hl (by decide) rfl (fun ls hl => ?_)
  refine lv_iinc (k := 3) (v := (x3 + 1)) (lv' := [(3, .int (x3 + 1)), (2, .int u1), (0, .ref (ad 0)), (1, .int x1)]) hx hb dX11_bound_88 hl rfl rfl (by decide) rfl (fun ls hl => ?_)
  refine lv_goto hx hb dX11_bound_91 (tgt := 14) (by decide) ?_
  exact ih14 x1 u1 (x3 + 1) _ _ _ hm hH (lv_sub hl [2, 3, 1, 0] rfl)
def mX11_bound_62 (h : Mm) (k14 : Int32 → Int32 → Int32 → Option Int32) (k31 : Int32 → Int32 → Int32 → Int32 → Int32 → Option Int32) (x1 : Int32) (x2 : Int32) (x3 : Int32) (x5 : Int32) (t0 : Int32) : Option Int32 := k31 x1 x2 x3 t0 (x5 + 1)
set_option maxRecDepth 4000 in
theorem wX11_bound_62 {p : Program} {l : Launch} {e : Env} {s : State} {m : MethodId} {args : Array Value} {below : List Frame} {meth : Method} {c : Code} {D : va_G} {ad : Nat → Nat} {ac : Nat → ClassId} {h : Mm} {r : Int32} (X : Fx p s m args meth c cX11_bound 6 RX11 (some .int) D ad ac LM []) {k14 : Int32 → Int32 → Int32 → Option Int32} {k31 : Int32 → Int32 → Int32 → Int32 → Int32 → Option Int32} (ih14 : ∀ (x1 : Int32) (x2 : Int32) (x3 : Int32) (H : Heap) (locs : List Loc) (ls : Array Slot), k14 x1 x2 x3 = some r → Hp D ad ac LM h s H locs → lv_has ls 6 [(0, .ref (ad 0)), (1, .int x1), (2, .int x2), (3, .int x3)] → W p l e (rmD 2) s m args below meth c H locs 0 0 (MQ below (QU D ad ac LM (some (.int r)) h s.heap.size) args s 0 0 (Aa ad LM.length s.heap.size)) (F0 m 14 ls [])) (ih31 : ∀ (x1 : Int32) (x2 : Int32) (x3 : Int32) (x4 : Int32) (x5 : Int32) (H : Heap) (locs : List Loc) (ls : Array Slot), k31 x1 x2 x3 x4 x5 = some r → Hp D ad ac LM h s H locs → lv_has ls 6 [(0, .ref (ad 0)), (1, .int x1), (2, .int x2), (3, .int x3), (4, .int x4), (5, .int x5)] → W p l e (rmD 2) s m args below meth c H locs 0 0 (MQ below (QU D ad ac LM (some (.int r)) h s.heap.size) args s 0 0 (Aa ad LM.length s.heap.size)) (F0 m 31 ls [])) : ∀ (x1 : Int32) (x2 : Int32) (x3 : Int32) (x5 : Int32) (t0 : Int32) (H : Heap) (locs : List Loc) (ls : Array Slot), mX11_bound_62 h k14 k31 x1 x2 x3 x5 t0 = some r → Hp D ad ac LM h s H locs → lv_has ls 6 [(0, .ref (ad 0)), (1, .int x1), (2, .int x2), (3, .int x3), (5, .int x5)] → W p l e (rmD 2) s m args below meth c H locs 0 0 (MQ below (QU D ad ac LM (some (.int r)) h s.heap.size) args s 0 0 (Aa ad LM.length s.heap.size)) (F0 m 62 ls [.int t0]) := by
  obtain ⟨hx, hb, hml, hown, hts, hr, hlk, hC, hI, hR⟩ := id X
  intro x1 x2 x3 x5 t0 H locs ls hm hH hl
  rw [mX11_bound_62] at hm
  refine lv_istore (lv' := [(4, .int t0), (0, .ref (ad 0)), (1, .int x1), (2, .int x2), (3, .int x3), (5, .int x5)]) hx hb dX11_bound_62 hl (by decide) rfl (fun ls hl => ?_)
  refine lv_iinc (k := 5) (v := (x5 + 1)) (lv' := [(5, .int (x5 + 1)), (4, .int t0), (0, .ref (ad 0)), (1, .int x1), (2, .int x2), (3, .int x3)]) hx hb dX11_bound_64 hl rfl rfl (by decide) rfl (fun ls hl => ?_)
  refine lv_goto hx hb dX11_bound_67 (tgt := 31) (by decide) ?_
  exact ih31 x1 x2 x3 t0 (x5 + 1) _ _ _ hm hH (lv_sub hl [2, 3, 4, 5, 1, 0] rfl)
def mX11_bound_57 (h : Mm) (k14 : Int32 → Int32 → Int32 → Option Int32) (k31 : Int32 → Int32 → Int32 → Int32 → Int32 → Option Int32) (x1 : Int32) (x2 : Int32) (x3 : Int32) (x5 : Int32) : Option Int32 := mX11_bound_62 h k14 k31 x1 x2 x3 x5 (1 : Int32)
set_option maxRecDepth 4000 in
theorem wX11_bound_57 {p : Program} {l : Launch} {e : Env} {s : State} {m : MethodId} {args : Array Value} {below : List Frame} {meth : Method} {c : Code} {D : va_G} {ad : Nat → Nat} {ac : Nat → ClassId} {h : Mm} {r : Int32} (X : Fx p s m args meth c cX11_bound 6 RX11 (some .int) D ad ac LM []) {k14 : Int32 → Int32 → Int32 → Option Int32} {k31 : Int32 → Int32 → Int32 → Int32 → Int32 → Option Int32} (ih14 : ∀ (x1 : Int32) (x2 : Int32) (x3 : Int32) (H : Heap) (locs : List Loc) (ls : Array Slot), k14 x1 x2 x3 = some r → Hp D ad ac LM h s H locs → lv_has ls 6 [(0, .ref (ad 0)), (1, .int x1), (2, .int x2), (3, .int x3)] → W p l e (rmD 2) s m args below meth c H locs 0 0 (MQ below (QU D ad ac LM (some (.int r)) h s.heap.size) args s 0 0 (Aa ad LM.length s.heap.size)) (F0 m 14 ls [])) (ih31 : ∀ (x1 : Int32) (x2 : Int32) (x3 : Int32) (x4 : Int32) (x5 : Int32) (H : Heap) (locs : List Loc) (ls : Array Slot), k31 x1 x2 x3 x4 x5 = some r → Hp D ad ac LM h s H locs → lv_has ls 6 [(0, .ref (ad 0)), (1, .int x1), (2, .int x2), (3, .int x3), (4, .int x4), (5, .int x5)] → W p l e (rmD 2) s m args below meth c H locs 0 0 (MQ below (QU D ad ac LM (some (.int r)) h s.heap.size) args s 0 0 (Aa ad LM.length s.heap.size)) (F0 m 31 ls [])) : ∀ (x1 : Int32) (x2 : Int32) (x3 : Int32) (x5 : Int32) (H : Heap) (locs : List Loc) (ls : Array Slot), mX11_bound_57 h k14 k31 x1 x2 x3 x5 = some r → Hp D ad ac LM h s H locs → lv_has ls 6 [(0, .ref (ad 0)), (1, .int x1), (2, .int x2), (3, .int x3), (5, .int x5)] → W p l e (rmD 2) s m args below meth c H locs 0 0 (MQ below (QU D ad ac LM (some (.int r)) h s.heap.size) args s 0 0 (Aa ad LM.length s.heap.size)) (F0 m 57 ls []) := by
  obtain ⟨hx, hb, hml, hown, hts, hr, hlk, hC, hI, hR⟩ := id X
  intro x1 x2 x3 x5 H locs ls hm hH hl
  rw [mX11_bound_57] at hm
  refine lv_iconst (v := 1) hx hb dX11_bound_57 (by decide) ?_
  refine lv_goto hx hb dX11_bound_58 (tgt := 62) (by decide) ?_
  exact wX11_bound_62 X ih14 ih31 x1 x2 x3 x5 (1 : Int32) _ _ _ hm hH (lv_sub hl [0, 1, 2, 3, 4] rfl)
def mX11_bound_31 (h : Mm) (k14 : Int32 → Int32 → Int32 → Option Int32) : Nat → Int32 → Int32 → Int32 → Int32 → Int32 → Option Int32
  | 0, _, _, _, _, _ => none
  | n + 1, x1, x2, x3, x4, x5 => gIn (2 : Int32) 3 (if (h 5 (2 : Int32).toNatClampNeg) ≤ x5 then (if x4 = 0 then (mX11_bound_86 h k14 x1 x3 (0 : Int32) x2) else (gIn x3 24 (mX11_bound_86 h k14 x1 x3 (h 14 x3.toNatClampNeg) x2))) else (if x4 = 0 then (bd1 (mX11_fits h x3 x5) (fun v3 => if v3 = 0 then (mX11_bound_62 h k14 (mX11_bound_31 h k14 n) x1 x2 x3 x5 (0 : Int32)) else (mX11_bound_57 h k14 (mX11_bound_31 h k14 n) x1 x2 x3 x5))) else (mX11_bound_57 h k14 (mX11_bound_31 h k14 n) x1 x2 x3 x5)))
set_option maxRecDepth 4000 in
theorem wX11_bound_31 {p : Program} {l : Launch} {e : Env} {s : State} {m : MethodId} {args : Array Value} {below : List Frame} {meth : Method} {c : Code} {D : va_G} {ad : Nat → Nat} {ac : Nat → ClassId} {h : Mm} {r : Int32} (X : Fx p s m args meth c cX11_bound 6 RX11 (some .int) D ad ac LM []) {k14 : Int32 → Int32 → Int32 → Option Int32} (ih14 : ∀ (x1 : Int32) (x2 : Int32) (x3 : Int32) (H : Heap) (locs : List Loc) (ls : Array Slot), k14 x1 x2 x3 = some r → Hp D ad ac LM h s H locs → lv_has ls 6 [(0, .ref (ad 0)), (1, .int x1), (2, .int x2), (3, .int x3)] → W p l e (rmD 2) s m args below meth c H locs 0 0 (MQ below (QU D ad ac LM (some (.int r)) h s.heap.size) args s 0 0 (Aa ad LM.length s.heap.size)) (F0 m 14 ls [])) : ∀ (n : Nat) (x1 : Int32) (x2 : Int32) (x3 : Int32) (x4 : Int32) (x5 : Int32) (H : Heap) (locs : List Loc) (ls : Array Slot), mX11_bound_31 h k14 n x1 x2 x3 x4 x5 = some r → Hp D ad ac LM h s H locs → lv_has ls 6 [(0, .ref (ad 0)), (1, .int x1), (2, .int x2), (3, .int x3), (4, .int x4), (5, .int x5)] → W p l e (rmD 2) s m args below meth c H locs 0 0 (MQ below (QU D ad ac LM (some (.int r)) h s.heap.size) args s 0 0 (Aa ad LM.length s.heap.size)) (F0 m 31 ls []) := by
  obtain ⟨hx, hb, hml, hown, hts, hr, hlk, hC, hI, hR⟩ := id X
  intro n
  induction n with
  | zero => intro x1 x2 x3 x4 x5 H locs ls hm; rw [mX11_bound_31] at hm; cases hm
  | succ n ih =>
    intro x1 x2 x3 x4 x5 H locs ls hm hH hl
    rw [mX11_bound_31] at hm
    refine lv_iload hx hb dX11_bound_31 (lv_at hl 5 rfl) ?_
    refine lv_aload_n hx hb dX11_bound_33 rfl (lv_at hl 0 rfl) ?_
    refine gR X hH fl_X11_22 lM_0 rfl dX11_bound_34 ?_
    refine lv_iconst (v := 2) hx hb dX11_bound_37 (by decide) ?_
    obtain ⟨hin1, hm⟩ := gIn_some hm
    refine ild X hH lM_5 hin1 dX11_bound_38 ?_
    refine lv_icmp_ge hx hb dX11_bound_39 (tgt := 70) (by decide) (fun hc => ?_) (fun hc => ?_)
    · rw [if_pos hc] at hm
      refine lv_iload_n hx hb dX11_bound_70 rfl (lv_at hl 2 rfl) ?_
      refine lv_iload hx hb dX11_bound_71 (lv_at hl 4 rfl) ?_
      refine lv_if_eq hx hb dX11_bound_73 (tgt := 85) (by decide) (fun hc => ?_) (fun hc => ?_)
      · rw [if_pos hc] at hm
        refine lv_iconst (v := 0) hx hb dX11_bound_85 (by decide) ?_
        exact wX11_bound_86 X ih14 x1 x3 (0 : Int32) x2 _ _ _ hm hH (lv_sub hl [0, 1, 3] rfl)
      · rw [if_neg hc] at hm
        refine lv_aload_n hx hb dX11_bound_76 rfl (lv_at hl 0 rfl) ?_
        refine gR X hH fl_X11_49 lM_0 rfl dX11_bound_77 ?_
        refine lv_iload_n hx hb dX11_bound_80 rfl (lv_at hl 3 rfl) ?_
        obtain ⟨hin2, hm⟩ := gIn_some hm
        refine ild X hH lM_14 hin2 dX11_bound_81 ?_
        refine lv_goto hx hb dX11_bound_82 (tgt := 86) (by decide) ?_
        exact wX11_bound_86 X ih14 x1 x3 (h 14 x3.toNatClampNeg) x2 _ _ _ hm hH (lv_sub hl [0, 1, 3] rfl)
    · rw [if_neg hc] at hm
      refine lv_iload hx hb dX11_bound_42 (lv_at hl 4 rfl) ?_
      refine lv_if_ne hx hb dX11_bound_44 (tgt := 57) (by decide) (fun hc => ?_) (fun hc => ?_)
      · rw [if_neg hc] at hm
        exact wX11_bound_57 X ih14 ih x1 x2 x3 x5 _ _ _ hm hH (lv_sub hl [0, 1, 2, 3, 5] rfl)
      · rw [if_pos hc] at hm
        refine lv_aload_n hx hb dX11_bound_47 rfl (lv_at hl 0 rfl) ?_
        refine lv_iload_n hx hb dX11_bound_48 rfl (lv_at hl 3 rfl) ?_
        refine lv_iload hx hb dX11_bound_49 (lv_at hl 5 rfl) ?_
        obtain ⟨v3, hq, hm⟩ := bd1_some hm
        refine cVi X hH kl_X11_152 kv_X11_fits (mt_X11_fits hq) lM_0 rfl rfl (by decide) hl.1 rfl (Nat.le_of_ble_eq_true rfl) dX11_bound_51 (fun H locs hH => ?_)
        refine lv_if_eq hx hb dX11_bound_54 (tgt := 61) (by decide) (fun hc => ?_) (fun hc => ?_)
        · rw [if_pos hc] at hm
          refine lv_iconst (v := 0) hx hb dX11_bound_61 (by decide) ?_
          exact wX11_bound_62 X ih14 ih x1 x2 x3 x5 (0 : Int32) _ _ _ hm hH (lv_sub hl [0, 1, 2, 3, 5] rfl)
        · rw [if_neg hc] at hm
          exact wX11_bound_57 X ih14 ih x1 x2 x3 x5 _ _ _ hm hH (lv_sub hl [0, 1, 2, 3, 5] rfl)
def mX11_bound_14 (h : Mm) : Nat → Int32 → Int32 → Int32 → Option Int32
  | 0, _, _, _ => none
  | n + 1, x1, x2, x3 => bd1 (mX11_wide h x1) (fun v1 => if (x1 + v1) ≤ x3 then (some x2) else (mX11_bound_31 h (mX11_bound_14 h n) FU x1 x2 x3 (0 : Int32) (0 : Int32)))
set_option maxRecDepth 4000 in
theorem wX11_bound_14 {p : Program} {l : Launch} {e : Env} {s : State} {m : MethodId} {args : Array Value} {below : List Frame} {meth : Method} {c : Code} {D : va_G} {ad : Nat → Nat} {ac : Nat → ClassId} {h : Mm} {r : Int32} (X : Fx p s m args meth c cX11_bound 6 RX11 (some .int) D ad ac LM []) : ∀ (n : Nat) (x1 : Int32) (x2 : Int32) (x3 : Int32) (H : Heap) (locs : List Loc) (ls : Array Slot), mX11_bound_14 h n x1 x2 x3 = some r → Hp D ad ac LM h s H locs → lv_has ls 6 [(0, .ref (ad 0)), (1, .int x1), (2, .int x2), (3, .int x3)] → W p l e (rmD 2) s m args below meth c H locs 0 0 (MQ below (QU D ad ac LM (some (.int r)) h s.heap.size) args s 0 0 (Aa ad LM.length s.heap.size)) (F0 m 14 ls []) := by
  obtain ⟨hx, hb, hml, hown, hts, hr, hlk, hC, hI, hR⟩ := id X
  intro n
  induction n with
  | zero => intro x1 x2 x3 H locs ls hm; rw [mX11_bound_14] at hm; cases hm
  | succ n ih =>
    intro x1 x2 x3 H locs ls hm hH hl
    rw [mX11_bound_14] at hm
    refine lv_iload_n hx hb dX11_bound_14 rfl (lv_at hl 3 rfl) ?_
    refine lv_iload_n hx hb dX11_bound_15 rfl (lv_at hl 1 rfl) ?_
    refine lv_aload_n hx hb dX11_bound_16 rfl (lv_at hl 0 rfl) ?_
    refine lv_iload_n hx hb dX11_bound_17 rfl (lv_at hl 1 rfl) ?_
    obtain ⟨v1, hq, hm⟩ := bd1_some hm
    refine cVi X hH kl_X11_189 kv_X11_wide (mt_X11_wide hq) lM_0 rfl rfl (by decide) hl.1 rfl (Nat.le_of_ble_eq_true rfl) dX11_bound_18 (fun H locs hH => ?_)
    refine lv_iadd hx hb dX11_bound_21 ?_
    refine lv_icmp_ge hx hb dX11_bound_22 (tgt := 94) (by decide) (fun hc => ?_) (fun hc => ?_)
    · rw [if_pos hc] at hm
      refine lv_iload_n hx hb dX11_bound_94 rfl (lv_at hl 2 rfl) ?_
      cases hm
      exact retI X hH dX11_bound_95
    · rw [if_neg hc] at hm
      refine lv_iconst (v := 0) hx hb dX11_bound_25 (by decide) ?_
      refine lv_istore (lv' := [(4, .int (0 : Int32)), (0, .ref (ad 0)), (1, .int x1), (2, .int x2), (3, .int x3)]) hx hb dX11_bound_26 hl (by decide) rfl (fun ls hl => ?_)
      refine lv_iconst (v := 0) hx hb dX11_bound_28 (by decide) ?_
      refine lv_istore (lv' := [(5, .int (0 : Int32)), (4, .int (0 : Int32)), (0, .ref (ad 0)), (1, .int x1), (2, .int x2), (3, .int x3)]) hx hb dX11_bound_29 hl (by decide) rfl (fun ls hl => ?_)
      exact wX11_bound_31 X ih FU x1 x2 x3 (0 : Int32) (0 : Int32) _ _ _ hm hH (lv_sub hl [2, 3, 4, 5, 1, 0] rfl)
def mX11_bound (h : Mm) (a1 : Int32) : Option Int32 := bd1 (mX11_isPass h a1) (fun v1 => if v1 = 0 then (some (-1 : Int32)) else (mX11_bound_14 h FU a1 (0 : Int32) a1))
set_option maxRecDepth 4000 in
theorem mt_X11_bound {l : Launch} {D : va_G} {ad : Nat → Nat} {ac : Nat → ClassId} {h : Mm} {a1 : Int32} {r : Int32} (hm : mX11_bound h a1 = some r) : Mt l D ad ac LM [] yX11_bound cX11_bound 6 (some .int) 2 [.ref (ad 0), .int a1] h (some (.int r)) h := by
  refine Mt.of (own := RX11) (by decide) rfl (Nat.le_of_ble_eq_true rfl) ?_
  intro p e s m below meth c ls X hH hl
  obtain ⟨hx, hb, hml, hown, hts, hr, hlk, hC, hI, hR⟩ := id X
  have hl : lv_has ls 6 [(0, .ref (ad 0)), (1, .int a1)] := hl
  rw [mX11_bound] at hm
  refine lv_aload_n hx hb dX11_bound_0 rfl (lv_at hl 0 rfl) ?_
  refine lv_iload_n hx hb dX11_bound_1 rfl (lv_at hl 1 rfl) ?_
  obtain ⟨v1, hq, hm⟩ := bd1_some hm
  refine cVi X hH kl_X11_149 kv_X11_isPass (mt_X11_isPass hq) lM_0 rfl rfl (by decide) hl.1 rfl (Nat.le_of_ble_eq_true rfl) dX11_bound_2 (fun H locs hH => ?_)
  refine lv_if_ne hx hb dX11_bound_5 (tgt := 10) (by decide) (fun hc => ?_) (fun hc => ?_)
  · rw [if_neg hc] at hm
    refine lv_iconst (v := 0) hx hb dX11_bound_10 (by decide) ?_
    refine lv_istore_n (lv' := [(2, .int (0 : Int32)), (0, .ref (ad 0)), (1, .int a1)]) hx hb dX11_bound_11 rfl hl (by decide) rfl (fun ls hl => ?_)
    refine lv_iload_n hx hb dX11_bound_12 rfl (lv_at hl 2 rfl) ?_
    refine lv_istore_n (lv' := [(3, .int a1), (2, .int (0 : Int32)), (0, .ref (ad 0)), (1, .int a1)]) hx hb dX11_bound_13 rfl hl (by decide) rfl (fun ls hl => ?_)
    exact wX11_bound_14 X FU a1 (0 : Int32) a1 _ _ _ hm hH (lv_sub hl [2, 3, 1, 0] rfl)
  · rw [if_pos hc] at hm
    refine lv_iconst (v := (-1)) hx hb dX11_bound_8 (by decide) ?_
    cases hm
    exact retI X hH dX11_bound_9
/-! X11_byteAt -/
def mX11_byteAt (h : Mm) (a1 : Int32) : Option Int32 := if (h 0 0) ≤ a1 then (some (0 : Int32)) else (gIn a1 200 (some (h 1 a1.toNatClampNeg)))
set_option maxRecDepth 4000 in
theorem mt_X11_byteAt {l : Launch} {D : va_G} {ad : Nat → Nat} {ac : Nat → ClassId} {h : Mm} {a1 : Int32} {r : Int32} (hm : mX11_byteAt h a1 = some r) : Mt l D ad ac LM [] yX11_byteAt cX11_byteAt 2 (some .int) 0 [.ref (ad 0), .int a1] h (some (.int r)) h := by
  refine Mt.of (own := RX11) (by decide) rfl (Nat.le_of_ble_eq_true rfl) ?_
  intro p e s m below meth c ls X hH hl
  obtain ⟨hx, hb, hml, hown, hts, hr, hlk, hC, hI, hR⟩ := id X
  have hl : lv_has ls 2 [(0, .ref (ad 0)), (1, .int a1)] := hl
  rw [mX11_byteAt] at hm
  refine lv_iload_n hx hb dX11_byteAt_0 rfl (lv_at hl 1 rfl) ?_
  refine lv_aload_n hx hb dX11_byteAt_1 rfl (lv_at hl 0 rfl) ?_
  refine gI X hH fl_X11_97 lM_0 rfl dX11_byteAt_2 ?_
  refine lv_icmp_ge hx hb dX11_byteAt_5 (tgt := 17) (by decide) (fun hc => ?_) (fun hc => ?_)
  · rw [if_pos hc] at hm
    refine lv_iconst (v := 0) hx hb dX11_byteAt_17 (by decide) ?_
    cases hm
    exact retI X hH dX11_byteAt_18
  · rw [if_neg hc] at hm
    refine lv_aload_n hx hb dX11_byteAt_8 rfl (lv_at hl 0 rfl) ?_
    refine gR X hH fl_X11_7 lM_0 rfl dX11_byteAt_9 ?_
    refine lv_iload_n hx hb dX11_byteAt_12 rfl (lv_at hl 1 rfl) ?_
    obtain ⟨hin1, hm⟩ := gIn_some hm
    refine ild X hH lM_1 hin1 dX11_byteAt_13 ?_
    refine lv_goto hx hb dX11_byteAt_14 (tgt := 18) (by decide) ?_
    cases hm
    exact retI X hH dX11_byteAt_18
/-! X11_contacts -/
def mX11_contacts_29 (h : Mm) (k4 : Int32 → Int32 → Option Int32) (x2 : Int32) (t0 : Int32) (t1 : Int32) : Option Int32 := mlet (t1 + t0) (fun u1 => k4 u1 (x2 + 1))
set_option maxRecDepth 4000 in
theorem wX11_contacts_29 {p : Program} {l : Launch} {e : Env} {s : State} {m : MethodId} {args : Array Value} {below : List Frame} {meth : Method} {c : Code} {D : va_G} {ad : Nat → Nat} {ac : Nat → ClassId} {h : Mm} {r : Int32} (X : Fx p s m args meth c cX11_contacts 3 RX11 (some .int) D ad ac LM []) {k4 : Int32 → Int32 → Option Int32} (ih4 : ∀ (x1 : Int32) (x2 : Int32) (H : Heap) (locs : List Loc) (ls : Array Slot), k4 x1 x2 = some r → Hp D ad ac LM h s H locs → lv_has ls 3 [(0, .ref (ad 0)), (1, .int x1), (2, .int x2)] → W p l e (rmD 0) s m args below meth c H locs 0 0 (MQ below (QU D ad ac LM (some (.int r)) h s.heap.size) args s 0 0 (Aa ad LM.length s.heap.size)) (F0 m 4 ls [])) : ∀ (x2 : Int32) (t0 : Int32) (t1 : Int32) (H : Heap) (locs : List Loc) (ls : Array Slot), mX11_contacts_29 h k4 x2 t0 t1 = some r → Hp D ad ac LM h s H locs → lv_has ls 3 [(0, .ref (ad 0)), (2, .int x2)] → W p l e (rmD 0) s m args below meth c H locs 0 0 (MQ below (QU D ad ac LM (some (.int r)) h s.heap.size) args s 0 0 (Aa ad LM.length s.heap.size)) (F0 m 29 ls [.int t0, .int t1]) := by
  obtain ⟨hx, hb, hml, hown, hts, hr, hlk, hC, hI, hR⟩ := id X
  intro x2 t0 t1 H locs ls hm hH hl
  rw [mX11_contacts_29] at hm
  refine lv_iadd hx hb dX11_contacts_29 ?_
  obtain ⟨u1, eu1, hm⟩ := mlet_some hm
  refine W.eq (g2 := F0 m 30 ls (.int u1 :: [])) (by rw [eu1]) ?_
  refine lv_istore_n (lv' := [(1, .int u1), (0, .ref (ad 0)), (2, .int x2)]) hx hb dX11_contacts_30 rfl hl (by decide) rfl (fun ls hl => ?_)
  refine lv_iinc (k := 2) (v := (x2 + 1)) (lv' := [(2, .int (x2 + 1)), (1, .int u1), (0, .ref (ad 0))]) hx hb dX11_contacts_31 hl rfl rfl (by decide) rfl (fun ls hl => ?_)
  refine lv_goto hx hb dX11_contacts_34 (tgt := 4) (by decide) ?_
  exact ih4 u1 (x2 + 1) _ _ _ hm hH (lv_sub hl [2, 1, 0] rfl)
def mX11_contacts_4 (h : Mm) : Nat → Int32 → Int32 → Option Int32
  | 0, _, _ => none
  | n + 1, x1, x2 => if (h 0 16) ≤ x2 then (some x1) else (gIn x2 32 (if (h 15 x2.toNatClampNeg) = (-4 : Int32) then (mX11_contacts_29 h (mX11_contacts_4 h n) x2 (0 : Int32) x1) else (mX11_contacts_29 h (mX11_contacts_4 h n) x2 (1 : Int32) x1)))
set_option maxRecDepth 4000 in
theorem wX11_contacts_4 {p : Program} {l : Launch} {e : Env} {s : State} {m : MethodId} {args : Array Value} {below : List Frame} {meth : Method} {c : Code} {D : va_G} {ad : Nat → Nat} {ac : Nat → ClassId} {h : Mm} {r : Int32} (X : Fx p s m args meth c cX11_contacts 3 RX11 (some .int) D ad ac LM []) : ∀ (n : Nat) (x1 : Int32) (x2 : Int32) (H : Heap) (locs : List Loc) (ls : Array Slot), mX11_contacts_4 h n x1 x2 = some r → Hp D ad ac LM h s H locs → lv_has ls 3 [(0, .ref (ad 0)), (1, .int x1), (2, .int x2)] → W p l e (rmD 0) s m args below meth c H locs 0 0 (MQ below (QU D ad ac LM (some (.int r)) h s.heap.size) args s 0 0 (Aa ad LM.length s.heap.size)) (F0 m 4 ls []) := by
  obtain ⟨hx, hb, hml, hown, hts, hr, hlk, hC, hI, hR⟩ := id X
  intro n
  induction n with
  | zero => intro x1 x2 H locs ls hm; rw [mX11_contacts_4] at hm; cases hm
  | succ n ih =>
    intro x1 x2 H locs ls hm hH hl
    rw [mX11_contacts_4] at hm
    refine lv_iload_n hx hb dX11_contacts_4 rfl (lv_at hl 2 rfl) ?_
    refine lv_aload_n hx hb dX11_contacts_5 rfl (lv_at hl 0 rfl) ?_
    refine gI X hH fl_X11_124 lM_0 rfl dX11_contacts_6 ?_
    refine lv_icmp_ge hx hb dX11_contacts_9 (tgt := 37) (by decide) (fun hc => ?_) (fun hc => ?_)
    · rw [if_pos hc] at hm
      refine lv_iload_n hx hb dX11_contacts_37 rfl (lv_at hl 1 rfl) ?_
      cases hm
      exact retI X hH dX11_contacts_38
    · rw [if_neg hc] at hm
      refine lv_iload_n hx hb dX11_contacts_12 rfl (lv_at hl 1 rfl) ?_
      refine lv_aload_n hx hb dX11_contacts_13 rfl (lv_at hl 0 rfl) ?_
      refine gR X hH fl_X11_52 lM_0 rfl dX11_contacts_14 ?_
      refine lv_iload_n hx hb dX11_contacts_17 rfl (lv_at hl 2 rfl) ?_
      obtain ⟨hin1, hm⟩ := gIn_some hm
      refine ild X hH lM_15 hin1 dX11_contacts_18 ?_
      refine lv_bipush (v := (-4)) hx hb dX11_contacts_19 (by decide) ?_
      refine lv_icmp_eq hx hb dX11_contacts_21 (tgt := 28) (by decide) (fun hc => ?_) (fun hc => ?_)
      · rw [if_pos hc] at hm
        refine lv_iconst (v := 0) hx hb dX11_contacts_28 (by decide) ?_
        exact wX11_contacts_29 X ih x2 (0 : Int32) x1 _ _ _ hm hH (lv_sub hl [0, 2] rfl)
      · rw [if_neg hc] at hm
        refine lv_iconst (v := 1) hx hb dX11_contacts_24 (by decide) ?_
        refine lv_goto hx hb dX11_contacts_25 (tgt := 29) (by decide) ?_
        exact wX11_contacts_29 X ih x2 (1 : Int32) x1 _ _ _ hm hH (lv_sub hl [0, 2] rfl)
def mX11_contacts (h : Mm) : Option Int32 := mX11_contacts_4 h FU (0 : Int32) (0 : Int32)
set_option maxRecDepth 4000 in
theorem mt_X11_contacts {l : Launch} {D : va_G} {ad : Nat → Nat} {ac : Nat → ClassId} {h : Mm} {r : Int32} (hm : mX11_contacts h = some r) : Mt l D ad ac LM [] yX11_contacts cX11_contacts 3 (some .int) 0 [.ref (ad 0)] h (some (.int r)) h := by
  refine Mt.of (own := RX11) (by decide) rfl (Nat.le_of_ble_eq_true rfl) ?_
  intro p e s m below meth c ls X hH hl
  obtain ⟨hx, hb, hml, hown, hts, hr, hlk, hC, hI, hR⟩ := id X
  have hl : lv_has ls 3 [(0, .ref (ad 0))] := hl
  rw [mX11_contacts] at hm
  refine lv_iconst (v := 0) hx hb dX11_contacts_0 (by decide) ?_
  refine lv_istore_n (lv' := [(1, .int (0 : Int32)), (0, .ref (ad 0))]) hx hb dX11_contacts_1 rfl hl (by decide) rfl (fun ls hl => ?_)
  refine lv_iconst (v := 0) hx hb dX11_contacts_2 (by decide) ?_
  refine lv_istore_n (lv' := [(2, .int (0 : Int32)), (1, .int (0 : Int32)), (0, .ref (ad 0))]) hx hb dX11_contacts_3 rfl hl (by decide) rfl (fun ls hl => ?_)
  exact wX11_contacts_4 X FU (0 : Int32) (0 : Int32) _ _ _ hm hH (lv_sub hl [2, 1, 0] rfl)
/-! X11_fills_0_15 -/
def mX11_fills_0_15_85 (k24 : Int32 → Mm → Option Mm) (x2 : Int32) (h : Mm) : Option Mm := k24 (x2 + 1) h
set_option maxRecDepth 4000 in
theorem wX11_fills_0_15_85 {p : Program} {l : Launch} {e : Env} {s : State} {m : MethodId} {args : Array Value} {below : List Frame} {meth : Method} {c : Code} {D : va_G} {ad : Nat → Nat} {ac : Nat → ClassId} {h' : Mm} (X : Fx p s m args meth c cX11_fills 4 RX11 none D ad ac LM []) {k24 : Int32 → Mm → Option Mm} (ih24 : ∀ (x2 : Int32) (h : Mm) (H : Heap) (locs : List Loc) (ls : Array Slot), k24 x2 h = some h' → Hp D ad ac LM h s H locs → lv_has ls 4 [(0, .ref (ad 0)), (1, .ref (ad 15)), (2, .int x2)] → W p l e (rmD 2) s m args below meth c H locs 0 0 (MQ below (QU D ad ac LM none h' s.heap.size) args s 0 0 (Aa ad LM.length s.heap.size)) (F0 m 24 ls [])) : ∀ (x2 : Int32) (h : Mm) (H : Heap) (locs : List Loc) (ls : Array Slot), mX11_fills_0_15_85 k24 x2 h = some h' → Hp D ad ac LM h s H locs → lv_has ls 4 [(0, .ref (ad 0)), (1, .ref (ad 15)), (2, .int x2)] → W p l e (rmD 2) s m args below meth c H locs 0 0 (MQ below (QU D ad ac LM none h' s.heap.size) args s 0 0 (Aa ad LM.length s.heap.size)) (F0 m 85 ls []) := by
  obtain ⟨hx, hb, hml, hown, hts, hr, hlk, hC, hI, hR⟩ := id X
  intro x2 h H locs ls hm hH hl
  rw [mX11_fills_0_15_85] at hm
  refine lv_iinc (k := 2) (v := (x2 + 1)) (lv' := [(2, .int (x2 + 1)), (0, .ref (ad 0)), (1, .ref (ad 15))]) hx hb dX11_fills_85 hl rfl rfl (by decide) rfl (fun ls hl => ?_)
  refine lv_goto hx hb dX11_fills_88 (tgt := 24) (by decide) ?_
  exact ih24 (x2 + 1) h _ _ _ hm hH (lv_sub hl [1, 2, 0] rfl)
def mX11_fills_0_15_39 (k24 : Int32 → Mm → Option Mm) : Nat → Int32 → Int32 → Mm → Option Mm
  | 0, _, _, _ => none
  | n + 1, x2, x3, h => gIn x2 24 (if (h 11 x2.toNatClampNeg) < x3 then (mX11_fills_0_15_85 k24 x2 h) else (gIn x2 32 (if (h 15 x2.toNatClampNeg) = (-4 : Int32) then (mX11_fills_0_15_85 k24 x2 h) else (gIn x2 24 (bd1 (mX11_rateAt h x2 x3) (fun v4 => gIn (((60 : Int32) * (h 12 x2.toNatClampNeg)) + x3) 240 (mlet (wr h 24 (((60 : Int32) * (h 12 x2.toNatClampNeg)) + x3).toNatClampNeg v4) (fun h5 => mX11_fills_0_15_39 k24 n x2 (x3 + 1) h5))))))))
set_option maxRecDepth 4000 in
theorem wX11_fills_0_15_39 {p : Program} {l : Launch} {e : Env} {s : State} {m : MethodId} {args : Array Value} {below : List Frame} {meth : Method} {c : Code} {D : va_G} {ad : Nat → Nat} {ac : Nat → ClassId} {h' : Mm} (X : Fx p s m args meth c cX11_fills 4 RX11 none D ad ac LM []) {k24 : Int32 → Mm → Option Mm} (ih24 : ∀ (x2 : Int32) (h : Mm) (H : Heap) (locs : List Loc) (ls : Array Slot), k24 x2 h = some h' → Hp D ad ac LM h s H locs → lv_has ls 4 [(0, .ref (ad 0)), (1, .ref (ad 15)), (2, .int x2)] → W p l e (rmD 2) s m args below meth c H locs 0 0 (MQ below (QU D ad ac LM none h' s.heap.size) args s 0 0 (Aa ad LM.length s.heap.size)) (F0 m 24 ls [])) : ∀ (n : Nat) (x2 : Int32) (x3 : Int32) (h : Mm) (H : Heap) (locs : List Loc) (ls : Array Slot), mX11_fills_0_15_39 k24 n x2 x3 h = some h' → Hp D ad ac LM h s H locs → lv_has ls 4 [(0, .ref (ad 0)), (1, .ref (ad 15)), (2, .int x2), (3, .int x3)] → W p l e (rmD 2) s m args below meth c H locs 0 0 (MQ below (QU D ad ac LM none h' s.heap.size) args s 0 0 (Aa ad LM.length s.heap.size)) (F0 m 39 ls []) := by
  obtain ⟨hx, hb, hml, hown, hts, hr, hlk, hC, hI, hR⟩ := id X
  intro n
  induction n with
  | zero => intro x2 x3 h H locs ls hm; rw [mX11_fills_0_15_39] at hm; cases hm
  | succ n ih =>
    intro x2 x3 h H locs ls hm hH hl
    rw [mX11_fills_0_15_39] at hm
    refine lv_iload_n hx hb dX11_fills_39 rfl (lv_at hl 3 rfl) ?_
    refine lv_aload_n hx hb dX11_fills_40 rfl (lv_at hl 0 rfl) ?_
    refine gR X hH fl_X11_40 lM_0 rfl dX11_fills_41 ?_
    refine lv_iload_n hx hb dX11_fills_44 rfl (lv_at hl 2 rfl) ?_
    obtain ⟨hin1, hm⟩ := gIn_some hm
    refine ild X hH lM_11 hin1 dX11_fills_45 ?_
    refine lv_icmp_gt hx hb dX11_fills_46 (tgt := 85) (by decide) (fun hc => ?_) (fun hc => ?_)
    · rw [if_pos hc] at hm
      exact wX11_fills_0_15_85 X ih24 x2 h _ _ _ hm hH (lv_sub hl [0, 1, 2] rfl)
    · rw [if_neg hc] at hm
      refine lv_aload_n hx hb dX11_fills_49 rfl (lv_at hl 1 rfl) ?_
      refine lv_iload_n hx hb dX11_fills_50 rfl (lv_at hl 2 rfl) ?_
      obtain ⟨hin2, hm⟩ := gIn_some hm
      refine ild X hH lM_15 hin2 dX11_fills_51 ?_
      refine lv_bipush (v := (-4)) hx hb dX11_fills_52 (by decide) ?_
      refine lv_icmp_eq hx hb dX11_fills_54 (tgt := 85) (by decide) (fun hc => ?_) (fun hc => ?_)
      · rw [if_pos hc] at hm
        exact wX11_fills_0_15_85 X ih24 x2 h _ _ _ hm hH (lv_sub hl [0, 1, 2] rfl)
      · rw [if_neg hc] at hm
        refine lv_aload_n hx hb dX11_fills_57 rfl (lv_at hl 0 rfl) ?_
        refine gR X hH fl_X11_79 lM_0 rfl dX11_fills_58 ?_
        refine lv_bipush (v := 60) hx hb dX11_fills_61 (by decide) ?_
        refine lv_aload_n hx hb dX11_fills_63 rfl (lv_at hl 0 rfl) ?_
        refine gR X hH fl_X11_43 lM_0 rfl dX11_fills_64 ?_
        refine lv_iload_n hx hb dX11_fills_67 rfl (lv_at hl 2 rfl) ?_
        obtain ⟨hin3, hm⟩ := gIn_some hm
        refine ild X hH lM_12 hin3 dX11_fills_68 ?_
        refine lv_imul hx hb dX11_fills_69 ?_
        refine lv_iload_n hx hb dX11_fills_70 rfl (lv_at hl 3 rfl) ?_
        refine lv_iadd hx hb dX11_fills_71 ?_
        refine lv_aload_n hx hb dX11_fills_72 rfl (lv_at hl 0 rfl) ?_
        refine lv_iload_n hx hb dX11_fills_73 rfl (lv_at hl 2 rfl) ?_
        refine lv_iload_n hx hb dX11_fills_74 rfl (lv_at hl 3 rfl) ?_
        obtain ⟨v4, hq, hm⟩ := bd1_some hm
        refine cVi X hH kl_X11_156 kv_X11_rateAt (mt_X11_rateAt hq) lM_0 rfl rfl (by decide) hl.1 rfl (Nat.le_of_ble_eq_true rfl) dX11_fills_75 (fun H locs hH => ?_)
        obtain ⟨hin6, hm⟩ := gIn_some hm
        obtain ⟨h5, eh5, hm⟩ := mlet_some hm
        refine ist X hH lM_24 hin6 dX11_fills_78 (fun H locs hH => ?_)
        rw [← eh5] at hH
        refine lv_iinc (k := 3) (v := (x3 + 1)) (lv' := [(3, .int (x3 + 1)), (0, .ref (ad 0)), (1, .ref (ad 15)), (2, .int x2)]) hx hb dX11_fills_79 hl rfl rfl (by decide) rfl (fun ls hl => ?_)
        refine lv_goto hx hb dX11_fills_82 (tgt := 39) (by decide) ?_
        exact ih x2 (x3 + 1) h5 _ _ _ hm hH (lv_sub hl [1, 2, 3, 0] rfl)
def mX11_fills_0_15_24 : Nat → Int32 → Mm → Option Mm
  | 0, _, _ => none
  | n + 1, x2, h => if (h 0 16) ≤ x2 then (some h) else (gIn x2 24 (mlet (h 10 x2.toNatClampNeg) (fun u2 => mX11_fills_0_15_39 (mX11_fills_0_15_24 n) FU x2 u2 h)))
set_option maxRecDepth 4000 in
theorem wX11_fills_0_15_24 {p : Program} {l : Launch} {e : Env} {s : State} {m : MethodId} {args : Array Value} {below : List Frame} {meth : Method} {c : Code} {D : va_G} {ad : Nat → Nat} {ac : Nat → ClassId} {h' : Mm} (X : Fx p s m args meth c cX11_fills 4 RX11 none D ad ac LM []) : ∀ (n : Nat) (x2 : Int32) (h : Mm) (H : Heap) (locs : List Loc) (ls : Array Slot), mX11_fills_0_15_24 n x2 h = some h' → Hp D ad ac LM h s H locs → lv_has ls 4 [(0, .ref (ad 0)), (1, .ref (ad 15)), (2, .int x2)] → W p l e (rmD 2) s m args below meth c H locs 0 0 (MQ below (QU D ad ac LM none h' s.heap.size) args s 0 0 (Aa ad LM.length s.heap.size)) (F0 m 24 ls []) := by
  obtain ⟨hx, hb, hml, hown, hts, hr, hlk, hC, hI, hR⟩ := id X
  intro n
  induction n with
  | zero => intro x2 h H locs ls hm; rw [mX11_fills_0_15_24] at hm; cases hm
  | succ n ih =>
    intro x2 h H locs ls hm hH hl
    rw [mX11_fills_0_15_24] at hm
    refine lv_iload_n hx hb dX11_fills_24 rfl (lv_at hl 2 rfl) ?_
    refine lv_aload_n hx hb dX11_fills_25 rfl (lv_at hl 0 rfl) ?_
    refine gI X hH fl_X11_124 lM_0 rfl dX11_fills_26 ?_
    refine lv_icmp_ge hx hb dX11_fills_29 (tgt := 91) (by decide) (fun hc => ?_) (fun hc => ?_)
    · rw [if_pos hc] at hm
      cases hm
      exact retV X hH dX11_fills_91
    · rw [if_neg hc] at hm
      refine lv_aload_n hx hb dX11_fills_32 rfl (lv_at hl 0 rfl) ?_
      refine gR X hH fl_X11_37 lM_0 rfl dX11_fills_33 ?_
      refine lv_iload_n hx hb dX11_fills_36 rfl (lv_at hl 2 rfl) ?_
      obtain ⟨hin1, hm⟩ := gIn_some hm
      refine ild X hH lM_10 hin1 dX11_fills_37 ?_
      obtain ⟨u2, eu2, hm⟩ := mlet_some hm
      refine W.eq (g2 := F0 m 38 ls (.int u2 :: [])) (by rw [eu2]) ?_
      refine lv_istore_n (lv' := [(3, .int u2), (0, .ref (ad 0)), (1, .ref (ad 15)), (2, .int x2)]) hx hb dX11_fills_38 rfl hl (by decide) rfl (fun ls hl => ?_)
      exact wX11_fills_0_15_39 X ih FU x2 u2 h _ _ _ hm hH (lv_sub hl [1, 2, 3, 0] rfl)
def mX11_fills_0_15_2 : Nat → Int32 → Mm → Option Mm
  | 0, _, _ => none
  | n + 1, x2, h => if (240 : Int32) ≤ x2 then (mX11_fills_0_15_24 FU (0 : Int32) h) else (gIn x2 240 (mlet (wr h 24 x2.toNatClampNeg (0 : Int32)) (fun h1 => mX11_fills_0_15_2 n (x2 + 1) h1)))
set_option maxRecDepth 4000 in
theorem wX11_fills_0_15_2 {p : Program} {l : Launch} {e : Env} {s : State} {m : MethodId} {args : Array Value} {below : List Frame} {meth : Method} {c : Code} {D : va_G} {ad : Nat → Nat} {ac : Nat → ClassId} {h' : Mm} (X : Fx p s m args meth c cX11_fills 4 RX11 none D ad ac LM []) : ∀ (n : Nat) (x2 : Int32) (h : Mm) (H : Heap) (locs : List Loc) (ls : Array Slot), mX11_fills_0_15_2 n x2 h = some h' → Hp D ad ac LM h s H locs → lv_has ls 4 [(0, .ref (ad 0)), (1, .ref (ad 15)), (2, .int x2)] → W p l e (rmD 2) s m args below meth c H locs 0 0 (MQ below (QU D ad ac LM none h' s.heap.size) args s 0 0 (Aa ad LM.length s.heap.size)) (F0 m 2 ls []) := by
  obtain ⟨hx, hb, hml, hown, hts, hr, hlk, hC, hI, hR⟩ := id X
  intro n
  induction n with
  | zero => intro x2 h H locs ls hm; rw [mX11_fills_0_15_2] at hm; cases hm
  | succ n ih =>
    intro x2 h H locs ls hm hH hl
    rw [mX11_fills_0_15_2] at hm
    refine lv_iload_n hx hb dX11_fills_2 rfl (lv_at hl 2 rfl) ?_
    refine lv_sipush (v := 240) hx hb dX11_fills_3 (by decide) ?_
    refine lv_icmp_ge hx hb dX11_fills_6 (tgt := 22) (by decide) (fun hc => ?_) (fun hc => ?_)
    · rw [if_pos hc] at hm
      refine lv_iconst (v := 0) hx hb dX11_fills_22 (by decide) ?_
      refine lv_istore_n (lv' := [(2, .int (0 : Int32)), (0, .ref (ad 0)), (1, .ref (ad 15))]) hx hb dX11_fills_23 rfl hl (by decide) rfl (fun ls hl => ?_)
      exact wX11_fills_0_15_24 X FU (0 : Int32) h _ _ _ hm hH (lv_sub hl [1, 2, 0] rfl)
    · rw [if_neg hc] at hm
      refine lv_aload_n hx hb dX11_fills_9 rfl (lv_at hl 0 rfl) ?_
      refine gR X hH fl_X11_79 lM_0 rfl dX11_fills_10 ?_
      refine lv_iload_n hx hb dX11_fills_13 rfl (lv_at hl 2 rfl) ?_
      refine lv_iconst (v := 0) hx hb dX11_fills_14 (by decide) ?_
      obtain ⟨hin2, hm⟩ := gIn_some hm
      obtain ⟨h1, eh1, hm⟩ := mlet_some hm
      refine ist X hH lM_24 hin2 dX11_fills_15 (fun H locs hH => ?_)
      rw [← eh1] at hH
      refine lv_iinc (k := 2) (v := (x2 + 1)) (lv' := [(2, .int (x2 + 1)), (0, .ref (ad 0)), (1, .ref (ad 15))]) hx hb dX11_fills_16 hl rfl rfl (by decide) rfl (fun ls hl => ?_)
      refine lv_goto hx hb dX11_fills_19 (tgt := 2) (by decide) ?_
      exact ih (x2 + 1) h1 _ _ _ hm hH (lv_sub hl [1, 2, 0] rfl)
def mX11_fills_0_15 (h : Mm) : Option Mm := mX11_fills_0_15_2 FU (0 : Int32) h
set_option maxRecDepth 4000 in
theorem mt_X11_fills_0_15 {l : Launch} {D : va_G} {ad : Nat → Nat} {ac : Nat → ClassId} {h : Mm} {h' : Mm} (hm : mX11_fills_0_15 h = some h') : Mt l D ad ac LM [] yX11_fills cX11_fills 4 none 2 [.ref (ad 0), .ref (ad 15)] h none h' := by
  refine Mt.of (own := RX11) (by decide) rfl (Nat.le_of_ble_eq_true rfl) ?_
  intro p e s m below meth c ls X hH hl
  obtain ⟨hx, hb, hml, hown, hts, hr, hlk, hC, hI, hR⟩ := id X
  have hl : lv_has ls 4 [(0, .ref (ad 0)), (1, .ref (ad 15))] := hl
  rw [mX11_fills_0_15] at hm
  refine lv_iconst (v := 0) hx hb dX11_fills_0 (by decide) ?_
  refine lv_istore_n (lv' := [(2, .int (0 : Int32)), (0, .ref (ad 0)), (1, .ref (ad 15))]) hx hb dX11_fills_1 rfl hl (by decide) rfl (fun ls hl => ?_)
  exact wX11_fills_0_15_2 X FU (0 : Int32) h _ _ _ hm hH (lv_sub hl [1, 2, 0] rfl)
/-! X11_volumeOf_0_15 -/
def mX11_volumeOf_0_15_34 (h : Mm) (k6 : Int32 → Int32 → Int32 → Option Int32) (x3 : Int32) (x5 : Int32) (t0 : Int32) (t1 : Int32) : Option Int32 := mlet (t1 + t0) (fun u1 => k6 x3 u1 (x5 + 1))
set_option maxRecDepth 4000 in
theorem wX11_volumeOf_0_15_34 {p : Program} {l : Launch} {e : Env} {s : State} {m : MethodId} {args : Array Value} {below : List Frame} {meth : Method} {c : Code} {D : va_G} {ad : Nat → Nat} {ac : Nat → ClassId} {h : Mm} {r : Int32} (X : Fx p s m args meth c cX11_volumeOf 6 RX11 (some .int) D ad ac LM []) {k6 : Int32 → Int32 → Int32 → Option Int32} (ih6 : ∀ (x3 : Int32) (x4 : Int32) (x5 : Int32) (H : Heap) (locs : List Loc) (ls : Array Slot), k6 x3 x4 x5 = some r → Hp D ad ac LM h s H locs → lv_has ls 6 [(0, .ref (ad 0)), (1, .ref (ad 15)), (3, .int x3), (4, .int x4), (5, .int x5)] → W p l e (rmD 0) s m args below meth c H locs 0 0 (MQ below (QU D ad ac LM (some (.int r)) h s.heap.size) args s 0 0 (Aa ad LM.length s.heap.size)) (F0 m 6 ls [])) : ∀ (x3 : Int32) (x5 : Int32) (t0 : Int32) (t1 : Int32) (H : Heap) (locs : List Loc) (ls : Array Slot), mX11_volumeOf_0_15_34 h k6 x3 x5 t0 t1 = some r → Hp D ad ac LM h s H locs → lv_has ls 6 [(0, .ref (ad 0)), (1, .ref (ad 15)), (3, .int x3), (5, .int x5)] → W p l e (rmD 0) s m args below meth c H locs 0 0 (MQ below (QU D ad ac LM (some (.int r)) h s.heap.size) args s 0 0 (Aa ad LM.length s.heap.size)) (F0 m 34 ls [.int t0, .int t1]) := by
  obtain ⟨hx, hb, hml, hown, hts, hr, hlk, hC, hI, hR⟩ := id X
  intro x3 x5 t0 t1 H locs ls hm hH hl
  rw [mX11_volumeOf_0_15_34] at hm
  refine lv_iadd hx hb dX11_volumeOf_34 ?_
  obtain ⟨u1, eu1, hm⟩ := mlet_some hm
  refine W.eq (g2 := F0 m 35 ls (.int u1 :: [])) (by rw [eu1]) ?_
  refine lv_istore (lv' := [(4, .int u1), (0, .ref (ad 0)), (1, .ref (ad 15)), (3, .int x3), (5, .int x5)]) hx hb dX11_volumeOf_35 hl (by decide) rfl (fun ls hl => ?_)
  refine lv_iinc (k := 4) (v := (x5 + 1)) (lv' := [(5, .int (x5 + 1)), (4, .int u1), (0, .ref (ad 0)), (1, .ref (ad 15)), (3, .int x3)]) hx hb dX11_volumeOf_37 hl rfl rfl (by decide) rfl (fun ls hl => ?_)
  refine lv_goto hx hb dX11_volumeOf_40 (tgt := 6) (by decide) ?_
  exact ih6 x3 u1 (x5 + 1) _ _ _ hm hH (lv_sub hl [2, 3, 4, 1, 0] rfl)
def mX11_volumeOf_0_15_6 (h : Mm) : Nat → Int32 → Int32 → Int32 → Option Int32
  | 0, _, _, _ => none
  | n + 1, x3, x4, x5 => if x3 ≤ x5 then (some x4) else (gIn x5 32 (if (h 15 x5.toNatClampNeg) = (-4 : Int32) then (mX11_volumeOf_0_15_34 h (mX11_volumeOf_0_15_6 h n) x3 x5 (0 : Int32) x4) else (gIn x5 24 (mX11_volumeOf_0_15_34 h (mX11_volumeOf_0_15_6 h n) x3 x5 (h 14 x5.toNatClampNeg) x4))))
set_option maxRecDepth 4000 in
theorem wX11_volumeOf_0_15_6 {p : Program} {l : Launch} {e : Env} {s : State} {m : MethodId} {args : Array Value} {below : List Frame} {meth : Method} {c : Code} {D : va_G} {ad : Nat → Nat} {ac : Nat → ClassId} {h : Mm} {r : Int32} (X : Fx p s m args meth c cX11_volumeOf 6 RX11 (some .int) D ad ac LM []) : ∀ (n : Nat) (x3 : Int32) (x4 : Int32) (x5 : Int32) (H : Heap) (locs : List Loc) (ls : Array Slot), mX11_volumeOf_0_15_6 h n x3 x4 x5 = some r → Hp D ad ac LM h s H locs → lv_has ls 6 [(0, .ref (ad 0)), (1, .ref (ad 15)), (3, .int x3), (4, .int x4), (5, .int x5)] → W p l e (rmD 0) s m args below meth c H locs 0 0 (MQ below (QU D ad ac LM (some (.int r)) h s.heap.size) args s 0 0 (Aa ad LM.length s.heap.size)) (F0 m 6 ls []) := by
  obtain ⟨hx, hb, hml, hown, hts, hr, hlk, hC, hI, hR⟩ := id X
  intro n
  induction n with
  | zero => intro x3 x4 x5 H locs ls hm; rw [mX11_volumeOf_0_15_6] at hm; cases hm
  | succ n ih =>
    intro x3 x4 x5 H locs ls hm hH hl
    rw [mX11_volumeOf_0_15_6] at hm
    refine lv_iload hx hb dX11_volumeOf_6 (lv_at hl 4 rfl) ?_
    refine lv_iload_n hx hb dX11_volumeOf_8 rfl (lv_at hl 2 rfl) ?_
    refine lv_icmp_ge hx hb dX11_volumeOf_9 (tgt := 43) (by decide) (fun hc => ?_) (fun hc => ?_)
    · rw [if_pos hc] at hm
      refine lv_iload hx hb dX11_volumeOf_43 (lv_at hl 3 rfl) ?_
      cases hm
      exact retI X hH dX11_volumeOf_45
    · rw [if_neg hc] at hm
      refine lv_iload hx hb dX11_volumeOf_12 (lv_at hl 3 rfl) ?_
      refine lv_aload_n hx hb dX11_volumeOf_14 rfl (lv_at hl 1 rfl) ?_
      refine lv_iload hx hb dX11_volumeOf_15 (lv_at hl 4 rfl) ?_
      obtain ⟨hin1, hm⟩ := gIn_some hm
      refine ild X hH lM_15 hin1 dX11_volumeOf_17 ?_
      refine lv_bipush (v := (-4)) hx hb dX11_volumeOf_18 (by decide) ?_
      refine lv_icmp_eq hx hb dX11_volumeOf_20 (tgt := 33) (by decide) (fun hc => ?_) (fun hc => ?_)
      · rw [if_pos hc] at hm
        refine lv_iconst (v := 0) hx hb dX11_volumeOf_33 (by decide) ?_
        exact wX11_volumeOf_0_15_34 X ih x3 x5 (0 : Int32) x4 _ _ _ hm hH (lv_sub hl [0, 1, 2, 4] rfl)
      · rw [if_neg hc] at hm
        refine lv_aload_n hx hb dX11_volumeOf_23 rfl (lv_at hl 0 rfl) ?_
        refine gR X hH fl_X11_49 lM_0 rfl dX11_volumeOf_24 ?_
        refine lv_iload hx hb dX11_volumeOf_27 (lv_at hl 4 rfl) ?_
        obtain ⟨hin2, hm⟩ := gIn_some hm
        refine ild X hH lM_14 hin2 dX11_volumeOf_29 ?_
        refine lv_goto hx hb dX11_volumeOf_30 (tgt := 34) (by decide) ?_
        exact wX11_volumeOf_0_15_34 X ih x3 x5 (h 14 x5.toNatClampNeg) x4 _ _ _ hm hH (lv_sub hl [0, 1, 2, 4] rfl)
def mX11_volumeOf_0_15 (h : Mm) (a2 : Int32) (a3 : Int32) : Option Int32 := mX11_volumeOf_0_15_6 h FU a3 (0 : Int32) a2
set_option maxRecDepth 4000 in
theorem mt_X11_volumeOf_0_15 {l : Launch} {D : va_G} {ad : Nat → Nat} {ac : Nat → ClassId} {h : Mm} {a2 : Int32} {a3 : Int32} {r : Int32} (hm : mX11_volumeOf_0_15 h a2 a3 = some r) : Mt l D ad ac LM [] yX11_volumeOf cX11_volumeOf 6 (some .int) 0 [.ref (ad 0), .ref (ad 15), .int a2, .int a3] h (some (.int r)) h := by
  refine Mt.of (own := RX11) (by decide) rfl (Nat.le_of_ble_eq_true rfl) ?_
  intro p e s m below meth c ls X hH hl
  obtain ⟨hx, hb, hml, hown, hts, hr, hlk, hC, hI, hR⟩ := id X
  have hl : lv_has ls 6 [(0, .ref (ad 0)), (1, .ref (ad 15)), (2, .int a2), (3, .int a3)] := hl
  rw [mX11_volumeOf_0_15] at hm
  refine lv_iconst (v := 0) hx hb dX11_volumeOf_0 (by decide) ?_
  refine lv_istore (lv' := [(4, .int (0 : Int32)), (0, .ref (ad 0)), (1, .ref (ad 15)), (2, .int a2), (3, .int a3)]) hx hb dX11_volumeOf_1 hl (by decide) rfl (fun ls hl => ?_)
  refine lv_iload_n hx hb dX11_volumeOf_3 rfl (lv_at hl 3 rfl) ?_
  refine lv_istore (lv' := [(5, .int a2), (4, .int (0 : Int32)), (0, .ref (ad 0)), (1, .ref (ad 15)), (2, .int a2), (3, .int a3)]) hx hb dX11_volumeOf_4 hl (by decide) rfl (fun ls hl => ?_)
  exact wX11_volumeOf_0_15_6 X FU a3 (0 : Int32) a2 _ _ _ hm hH (lv_sub hl [2, 3, 5, 1, 0] rfl)
/-! X11_lost_0_15 -/
def mX11_lost_0_15_9 : Nat → Int32 → Int32 → Mm → Option (Int32 × Mm)
  | 0, _, _, _ => none
  | n + 1, x2, x3, h => gIn (0 : Int32) 3 (if (h 5 (0 : Int32).toNatClampNeg) ≤ x3 then (some (x2, h)) else (bdh (mX11_flows h x3 (59 : Int32)) (fun h2 => gIn (1 : Int32) 4 (mlet (x2 + (h2 23 (1 : Int32).toNatClampNeg)) (fun u4 => mX11_lost_0_15_9 n u4 (x3 + 1) h2)))))
set_option maxRecDepth 4000 in
theorem wX11_lost_0_15_9 {p : Program} {l : Launch} {e : Env} {s : State} {m : MethodId} {args : Array Value} {below : List Frame} {meth : Method} {c : Code} {D : va_G} {ad : Nat → Nat} {ac : Nat → ClassId} {r : Int32} {h' : Mm} (X : Fx p s m args meth c cX11_lost 4 RX11 (some .int) D ad ac LM []) : ∀ (n : Nat) (x2 : Int32) (x3 : Int32) (h : Mm) (H : Heap) (locs : List Loc) (ls : Array Slot), mX11_lost_0_15_9 n x2 x3 h = some (r, h') → Hp D ad ac LM h s H locs → lv_has ls 4 [(0, .ref (ad 0)), (2, .int x2), (3, .int x3)] → W p l e (rmD 3) s m args below meth c H locs 0 0 (MQ below (QU D ad ac LM (some (.int r)) h' s.heap.size) args s 0 0 (Aa ad LM.length s.heap.size)) (F0 m 9 ls []) := by
  obtain ⟨hx, hb, hml, hown, hts, hr, hlk, hC, hI, hR⟩ := id X
  intro n
  induction n with
  | zero => intro x2 x3 h H locs ls hm; rw [mX11_lost_0_15_9] at hm; cases hm
  | succ n ih =>
    intro x2 x3 h H locs ls hm hH hl
    rw [mX11_lost_0_15_9] at hm
    refine lv_iload_n hx hb dX11_lost_9 rfl (lv_at hl 2 rfl) ?_
    refine lv_aload_n hx hb dX11_lost_10 rfl (lv_at hl 0 rfl) ?_
    refine gR X hH fl_X11_22 lM_0 rfl dX11_lost_11 ?_
    refine lv_iconst (v := 0) hx hb dX11_lost_14 (by decide) ?_
    obtain ⟨hin1, hm⟩ := gIn_some hm
    refine ild X hH lM_5 hin1 dX11_lost_15 ?_
    refine lv_icmp_ge hx hb dX11_lost_16 (tgt := 41) (by decide) (fun hc => ?_) (fun hc => ?_)
    · rw [if_pos hc] at hm
      refine lv_iload_n hx hb dX11_lost_41 rfl (lv_at hl 1 rfl) ?_
      cases hm
      exact retI X hH dX11_lost_42
    · rw [if_neg hc] at hm
      refine lv_aload_n hx hb dX11_lost_19 rfl (lv_at hl 0 rfl) ?_
      refine lv_iload_n hx hb dX11_lost_20 rfl (lv_at hl 2 rfl) ?_
      refine lv_bipush (v := 59) hx hb dX11_lost_21 (by decide) ?_
      obtain ⟨h2, hq, hm⟩ := bdh_some hm
      refine cVv X hH kl_X11_185 kv_X11_flows (mt_X11_flows hq) lM_0 rfl rfl (by decide) hl.1 rfl (Nat.le_of_ble_eq_true rfl) dX11_lost_23 (fun H locs hH => ?_)
      refine lv_iload_n hx hb dX11_lost_26 rfl (lv_at hl 1 rfl) ?_
      refine lv_aload_n hx hb dX11_lost_27 rfl (lv_at hl 0 rfl) ?_
      refine gR X hH fl_X11_76 lM_0 rfl dX11_lost_28 ?_
      refine lv_iconst (v := 1) hx hb dX11_lost_31 (by decide) ?_
      obtain ⟨hin3, hm⟩ := gIn_some hm
      refine ild X hH lM_23 hin3 dX11_lost_32 ?_
      refine lv_iadd hx hb dX11_lost_33 ?_
      obtain ⟨u4, eu4, hm⟩ := mlet_some hm
      refine W.eq (g2 := F0 m 34 ls (.int u4 :: [])) (by rw [eu4]) ?_
      refine lv_istore_n (lv' := [(2, .int u4), (0, .ref (ad 0)), (3, .int x3)]) hx hb dX11_lost_34 rfl hl (by decide) rfl (fun ls hl => ?_)
      refine lv_iinc (k := 2) (v := (x3 + 1)) (lv' := [(3, .int (x3 + 1)), (2, .int u4), (0, .ref (ad 0))]) hx hb dX11_lost_35 hl rfl rfl (by decide) rfl (fun ls hl => ?_)
      refine lv_goto hx hb dX11_lost_38 (tgt := 9) (by decide) ?_
      exact ih u4 (x3 + 1) h2 _ _ _ hm hH (lv_sub hl [2, 1, 0] rfl)
def mX11_lost_0_15 (h : Mm) : Option (Int32 × Mm) := bdh (mX11_fills_0_15 h) (fun h1 => mX11_lost_0_15_9 FU (0 : Int32) (0 : Int32) h1)
set_option maxRecDepth 4000 in
theorem mt_X11_lost_0_15 {l : Launch} {D : va_G} {ad : Nat → Nat} {ac : Nat → ClassId} {h : Mm} {r : Int32} {h' : Mm} (hm : mX11_lost_0_15 h = some (r, h')) : Mt l D ad ac LM [] yX11_lost cX11_lost 4 (some .int) 3 [.ref (ad 0), .ref (ad 15)] h (some (.int r)) h' := by
  refine Mt.of (own := RX11) (by decide) rfl (Nat.le_of_ble_eq_true rfl) ?_
  intro p e s m below meth c ls X hH hl
  obtain ⟨hx, hb, hml, hown, hts, hr, hlk, hC, hI, hR⟩ := id X
  have hl : lv_has ls 4 [(0, .ref (ad 0)), (1, .ref (ad 15))] := hl
  rw [mX11_lost_0_15] at hm
  refine lv_iconst (v := 0) hx hb dX11_lost_0 (by decide) ?_
  refine lv_istore_n (lv' := [(2, .int (0 : Int32)), (0, .ref (ad 0)), (1, .ref (ad 15))]) hx hb dX11_lost_1 rfl hl (by decide) rfl (fun ls hl => ?_)
  refine lv_aload_n hx hb dX11_lost_2 rfl (lv_at hl 1 rfl) ?_
  refine lv_aload_n hx hb dX11_lost_3 rfl (lv_at hl 2 rfl) ?_
  obtain ⟨h1, hq, hm⟩ := bdh_some hm
  refine cVv X hH kl_X11_181 kv_X11_fills (mt_X11_fills_0_15 hq) lM_0 rfl rfl (by decide) hl.1 rfl (Nat.le_of_ble_eq_true rfl) dX11_lost_4 (fun H locs hH => ?_)
  refine lv_iconst (v := 0) hx hb dX11_lost_7 (by decide) ?_
  refine lv_istore_n (lv' := [(3, .int (0 : Int32)), (2, .int (0 : Int32)), (0, .ref (ad 0)), (1, .ref (ad 15))]) hx hb dX11_lost_8 rfl hl (by decide) rfl (fun ls hl => ?_)
  exact wX11_lost_0_15_9 X FU (0 : Int32) (0 : Int32) h1 _ _ _ hm hH (lv_sub hl [2, 1, 0] rfl)
/-! X11_count -/
def mX11_count_64 (x1 : Int32) (x2 : Int32) (h : Mm) : Option (Int32 × Mm) := if (3 : Int32) ≤ x1 then (if x1 = (3 : Int32) then (some ((h 0 16), h)) else (if x1 = (4 : Int32) then (bd1 (mX11_contacts h) (fun v4 => some (v4, h))) else (if x1 = (5 : Int32) then (some ((h 0 19), h)) else (if x1 = (6 : Int32) then (some ((h 0 0), h)) else (if x1 = (7 : Int32) then (some (x2, h)) else (if x1 = (8 : Int32) then (bd2 (mX11_lost_0_15 h) (fun v3 h2 => some (v3, h2))) else (bd1 (mX11_volumeOf_0_15 h (0 : Int32) (h 0 16)) (fun v1 => some (v1, h))))))))) else (gIn x1 3 (some ((h 5 x1.toNatClampNeg), h)))
set_option maxRecDepth 4000 in
theorem wX11_count_64 {p : Program} {l : Launch} {e : Env} {s : State} {m : MethodId} {args : Array Value} {below : List Frame} {meth : Method} {c : Code} {D : va_G} {ad : Nat → Nat} {ac : Nat → ClassId} {r : Int32} {h' : Mm} (X : Fx p s m args meth c cX11_count 4 RX11 (some .int) D ad ac LM []) : ∀ (x1 : Int32) (x2 : Int32) (h : Mm) (H : Heap) (locs : List Loc) (ls : Array Slot), mX11_count_64 x1 x2 h = some (r, h') → Hp D ad ac LM h s H locs → lv_has ls 4 [(0, .ref (ad 0)), (1, .int x1), (2, .int x2)] → W p l e (rmD 4) s m args below meth c H locs 0 0 (MQ below (QU D ad ac LM (some (.int r)) h' s.heap.size) args s 0 0 (Aa ad LM.length s.heap.size)) (F0 m 64 ls []) := by
  obtain ⟨hx, hb, hml, hown, hts, hr, hlk, hC, hI, hR⟩ := id X
  intro x1 x2 h H locs ls hm hH hl
  rw [mX11_count_64] at hm
  refine lv_iload_n hx hb dX11_count_64 rfl (lv_at hl 1 rfl) ?_
  refine lv_iconst (v := 3) hx hb dX11_count_65 (by decide) ?_
  refine lv_icmp_ge hx hb dX11_count_66 (tgt := 78) (by decide) (fun hc => ?_) (fun hc => ?_)
  · rw [if_pos hc] at hm
    refine lv_iload_n hx hb dX11_count_78 rfl (lv_at hl 1 rfl) ?_
    refine lv_iconst (v := 3) hx hb dX11_count_79 (by decide) ?_
    refine lv_icmp_ne hx hb dX11_count_80 (tgt := 90) (by decide) (fun hc => ?_) (fun hc => ?_)
    · rw [if_neg hc] at hm
      refine lv_iload_n hx hb dX11_count_90 rfl (lv_at hl 1 rfl) ?_
      refine lv_iconst (v := 4) hx hb dX11_count_91 (by decide) ?_
      refine lv_icmp_ne hx hb dX11_count_92 (tgt := 102) (by decide) (fun hc => ?_) (fun hc => ?_)
      · rw [if_neg hc] at hm
        refine lv_iload_n hx hb dX11_count_102 rfl (lv_at hl 1 rfl) ?_
        refine lv_iconst (v := 5) hx hb dX11_count_103 (by decide) ?_
        refine lv_icmp_ne hx hb dX11_count_104 (tgt := 114) (by decide) (fun hc => ?_) (fun hc => ?_)
        · rw [if_neg hc] at hm
          refine lv_iload_n hx hb dX11_count_114 rfl (lv_at hl 1 rfl) ?_
          refine lv_bipush (v := 6) hx hb dX11_count_115 (by decide) ?_
          refine lv_icmp_ne hx hb dX11_count_117 (tgt := 127) (by decide) (fun hc => ?_) (fun hc => ?_)
          · rw [if_neg hc] at hm
            refine lv_iload_n hx hb dX11_count_127 rfl (lv_at hl 1 rfl) ?_
            refine lv_bipush (v := 7) hx hb dX11_count_128 (by decide) ?_
            refine lv_icmp_ne hx hb dX11_count_130 (tgt := 137) (by decide) (fun hc => ?_) (fun hc => ?_)
            · rw [if_neg hc] at hm
              refine lv_iload_n hx hb dX11_count_137 rfl (lv_at hl 1 rfl) ?_
              refine lv_bipush (v := 8) hx hb dX11_count_138 (by decide) ?_
              refine lv_icmp_ne hx hb dX11_count_140 (tgt := 154) (by decide) (fun hc => ?_) (fun hc => ?_)
              · rw [if_neg hc] at hm
                refine lv_aload_n hx hb dX11_count_154 rfl (lv_at hl 0 rfl) ?_
                refine lv_aload_n hx hb dX11_count_155 rfl (lv_at hl 0 rfl) ?_
                refine gR X hH fl_X11_52 lM_0 rfl dX11_count_156 ?_
                refine lv_iconst (v := 0) hx hb dX11_count_159 (by decide) ?_
                refine lv_aload_n hx hb dX11_count_160 rfl (lv_at hl 0 rfl) ?_
                refine gI X hH fl_X11_124 lM_0 rfl dX11_count_161 ?_
                obtain ⟨v1, hq, hm⟩ := bd1_some hm
                refine cVi X hH kl_X11_196 kv_X11_volumeOf (mt_X11_volumeOf_0_15 hq) lM_0 rfl rfl (by decide) hl.1 rfl (Nat.le_of_ble_eq_true rfl) dX11_count_164 (fun H locs hH => ?_)
                cases hm
                exact retI X hH dX11_count_167
              · rw [if_pos hc] at hm
                refine lv_aload_n hx hb dX11_count_143 rfl (lv_at hl 0 rfl) ?_
                refine lv_aload_n hx hb dX11_count_144 rfl (lv_at hl 0 rfl) ?_
                refine gR X hH fl_X11_52 lM_0 rfl dX11_count_145 ?_
                obtain ⟨v3, h2, hq, hm⟩ := bd2_some hm
                refine cVi X hH kl_X11_200 kv_X11_lost (mt_X11_lost_0_15 hq) lM_0 rfl rfl (by decide) hl.1 rfl (Nat.le_of_ble_eq_true rfl) dX11_count_148 (fun H locs hH => ?_)
                refine lv_goto hx hb dX11_count_151 (tgt := 167) (by decide) ?_
                cases hm
                exact retI X hH dX11_count_167
            · rw [if_pos hc] at hm
              refine lv_iload_n hx hb dX11_count_133 rfl (lv_at hl 2 rfl) ?_
              refine lv_goto hx hb dX11_count_134 (tgt := 167) (by decide) ?_
              cases hm
              exact retI X hH dX11_count_167
          · rw [if_pos hc] at hm
            refine lv_aload_n hx hb dX11_count_120 rfl (lv_at hl 0 rfl) ?_
            refine gI X hH fl_X11_97 lM_0 rfl dX11_count_121 ?_
            refine lv_goto hx hb dX11_count_124 (tgt := 167) (by decide) ?_
            cases hm
            exact retI X hH dX11_count_167
        · rw [if_pos hc] at hm
          refine lv_aload_n hx hb dX11_count_107 rfl (lv_at hl 0 rfl) ?_
          refine gI X hH fl_X11_135 lM_0 rfl dX11_count_108 ?_
          refine lv_goto hx hb dX11_count_111 (tgt := 167) (by decide) ?_
          cases hm
          exact retI X hH dX11_count_167
      · rw [if_pos hc] at hm
        refine lv_aload_n hx hb dX11_count_95 rfl (lv_at hl 0 rfl) ?_
        obtain ⟨v4, hq, hm⟩ := bd1_some hm
        refine cVi X hH kl_X11_171 kv_X11_contacts (mt_X11_contacts hq) lM_0 rfl rfl (by decide) hl.1 rfl (Nat.le_of_ble_eq_true rfl) dX11_count_96 (fun H locs hH => ?_)
        refine lv_goto hx hb dX11_count_99 (tgt := 167) (by decide) ?_
        cases hm
        exact retI X hH dX11_count_167
    · rw [if_pos hc] at hm
      refine lv_aload_n hx hb dX11_count_83 rfl (lv_at hl 0 rfl) ?_
      refine gI X hH fl_X11_124 lM_0 rfl dX11_count_84 ?_
      refine lv_goto hx hb dX11_count_87 (tgt := 167) (by decide) ?_
      cases hm
      exact retI X hH dX11_count_167
  · rw [if_neg hc] at hm
    refine lv_aload_n hx hb dX11_count_69 rfl (lv_at hl 0 rfl) ?_
    refine gR X hH fl_X11_22 lM_0 rfl dX11_count_70 ?_
    refine lv_iload_n hx hb dX11_count_73 rfl (lv_at hl 1 rfl) ?_
    obtain ⟨hin5, hm⟩ := gIn_some hm
    refine ild X hH lM_5 hin5 dX11_count_74 ?_
    refine lv_goto hx hb dX11_count_75 (tgt := 167) (by decide) ?_
    cases hm
    exact retI X hH dX11_count_167
def mX11_count_26 : Nat → Int32 → Int32 → Int32 → Mm → Option (Int32 × Mm)
  | 0, _, _, _, _ => none
  | n + 1, x1, x2, x3, h => gIn (0 : Int32) 3 (if (h 5 (0 : Int32).toNatClampNeg) ≤ x3 then (mX11_count_64 x1 x2 h) else (if x1 = (7 : Int32) then (bdh (mX11_flows h x3 (59 : Int32)) (fun h2 => gIn (2 : Int32) 4 (mlet (x2 + (h2 23 (2 : Int32).toNatClampNeg)) (fun u4 => mX11_count_26 n x1 u4 (x3 + 1) h2)))) else (mX11_count_64 x1 x2 h)))
set_option maxRecDepth 4000 in
theorem wX11_count_26 {p : Program} {l : Launch} {e : Env} {s : State} {m : MethodId} {args : Array Value} {below : List Frame} {meth : Method} {c : Code} {D : va_G} {ad : Nat → Nat} {ac : Nat → ClassId} {r : Int32} {h' : Mm} (X : Fx p s m args meth c cX11_count 4 RX11 (some .int) D ad ac LM []) : ∀ (n : Nat) (x1 : Int32) (x2 : Int32) (x3 : Int32) (h : Mm) (H : Heap) (locs : List Loc) (ls : Array Slot), mX11_count_26 n x1 x2 x3 h = some (r, h') → Hp D ad ac LM h s H locs → lv_has ls 4 [(0, .ref (ad 0)), (1, .int x1), (2, .int x2), (3, .int x3)] → W p l e (rmD 4) s m args below meth c H locs 0 0 (MQ below (QU D ad ac LM (some (.int r)) h' s.heap.size) args s 0 0 (Aa ad LM.length s.heap.size)) (F0 m 26 ls []) := by
  obtain ⟨hx, hb, hml, hown, hts, hr, hlk, hC, hI, hR⟩ := id X
  intro n
  induction n with
  | zero => intro x1 x2 x3 h H locs ls hm; rw [mX11_count_26] at hm; cases hm
  | succ n ih =>
    intro x1 x2 x3 h H locs ls hm hH hl
    rw [mX11_count_26] at hm
    refine lv_iload_n hx hb dX11_count_26 rfl (lv_at hl 3 rfl) ?_
    refine lv_aload_n hx hb dX11_count_27 rfl (lv_at hl 0 rfl) ?_
    refine gR X hH fl_X11_22 lM_0 rfl dX11_count_28 ?_
    refine lv_iconst (v := 0) hx hb dX11_count_31 (by decide) ?_
    obtain ⟨hin1, hm⟩ := gIn_some hm
    refine ild X hH lM_5 hin1 dX11_count_32 ?_
    refine lv_icmp_ge hx hb dX11_count_33 (tgt := 64) (by decide) (fun hc => ?_) (fun hc => ?_)
    · rw [if_pos hc] at hm
      exact wX11_count_64 X x1 x2 h _ _ _ hm hH (lv_sub hl [0, 1, 2] rfl)
    · rw [if_neg hc] at hm
      refine lv_iload_n hx hb dX11_count_36 rfl (lv_at hl 1 rfl) ?_
      refine lv_bipush (v := 7) hx hb dX11_count_37 (by decide) ?_
      refine lv_icmp_ne hx hb dX11_count_39 (tgt := 64) (by decide) (fun hc => ?_) (fun hc => ?_)
      · rw [if_neg hc] at hm
        exact wX11_count_64 X x1 x2 h _ _ _ hm hH (lv_sub hl [0, 1, 2] rfl)
      · rw [if_pos hc] at hm
        refine lv_aload_n hx hb dX11_count_42 rfl (lv_at hl 0 rfl) ?_
        refine lv_iload_n hx hb dX11_count_43 rfl (lv_at hl 3 rfl) ?_
        refine lv_bipush (v := 59) hx hb dX11_count_44 (by decide) ?_
        obtain ⟨h2, hq, hm⟩ := bdh_some hm
        refine cVv X hH kl_X11_185 kv_X11_flows (mt_X11_flows hq) lM_0 rfl rfl (by decide) hl.1 rfl (Nat.le_of_ble_eq_true rfl) dX11_count_46 (fun H locs hH => ?_)
        refine lv_iload_n hx hb dX11_count_49 rfl (lv_at hl 2 rfl) ?_
        refine lv_aload_n hx hb dX11_count_50 rfl (lv_at hl 0 rfl) ?_
        refine gR X hH fl_X11_76 lM_0 rfl dX11_count_51 ?_
        refine lv_iconst (v := 2) hx hb dX11_count_54 (by decide) ?_
        obtain ⟨hin3, hm⟩ := gIn_some hm
        refine ild X hH lM_23 hin3 dX11_count_55 ?_
        refine lv_iadd hx hb dX11_count_56 ?_
        obtain ⟨u4, eu4, hm⟩ := mlet_some hm
        refine W.eq (g2 := F0 m 57 ls (.int u4 :: [])) (by rw [eu4]) ?_
        refine lv_istore_n (lv' := [(2, .int u4), (0, .ref (ad 0)), (1, .int x1), (3, .int x3)]) hx hb dX11_count_57 rfl hl (by decide) rfl (fun ls hl => ?_)
        refine lv_iinc (k := 3) (v := (x3 + 1)) (lv' := [(3, .int (x3 + 1)), (2, .int u4), (0, .ref (ad 0)), (1, .int x1)]) hx hb dX11_count_58 hl rfl rfl (by decide) rfl (fun ls hl => ?_)
        refine lv_goto hx hb dX11_count_61 (tgt := 26) (by decide) ?_
        exact ih x1 u4 (x3 + 1) h2 _ _ _ hm hH (lv_sub hl [2, 3, 1, 0] rfl)
def mX11_count (h : Mm) (a1 : Int32) : Option (Int32 × Mm) := bd1 (mX11_in h a1.toInt64 (0 : Int64) (9 : Int64)) (fun v1 => if v1 = 0 then (some ((-1 : Int32), h)) else (bdh (mX11_fills_0_15 h) (fun h2 => mX11_count_26 FU a1 (0 : Int32) (0 : Int32) h2)))
set_option maxRecDepth 4000 in
theorem mt_X11_count {l : Launch} {D : va_G} {ad : Nat → Nat} {ac : Nat → ClassId} {h : Mm} {a1 : Int32} {r : Int32} {h' : Mm} (hm : mX11_count h a1 = some (r, h')) : Mt l D ad ac LM [] yX11_count cX11_count 4 (some .int) 4 [.ref (ad 0), .int a1] h (some (.int r)) h' := by
  refine Mt.of (own := RX11) (by decide) rfl (Nat.le_of_ble_eq_true rfl) ?_
  intro p e s m below meth c ls X hH hl
  obtain ⟨hx, hb, hml, hown, hts, hr, hlk, hC, hI, hR⟩ := id X
  have hl : lv_has ls 4 [(0, .ref (ad 0)), (1, .int a1)] := hl
  rw [mX11_count] at hm
  refine lv_iload_n hx hb dX11_count_0 rfl (lv_at hl 1 rfl) ?_
  refine lv_i2l hx hb dX11_count_1 rfl ?_
  refine lv_lconst (v := 0) hx hb dX11_count_2 (by decide) ?_
  refine lv_ldc2 hx hb hown (hts _ kc_X11_215) dX11_count_3 ?_
  obtain ⟨v1, hq, hm⟩ := bd1_some hm
  refine cSi (As := [.long a1.toInt64, .long (0 : Int64), .long (9 : Int64)]) X hH kl_X11_93 ks_X11_in (mt_X11_in hq) rfl (by decide) hl.1 rfl (Nat.le_of_ble_eq_true rfl) dX11_count_6 (fun H locs hH => ?_)
  refine lv_if_ne hx hb dX11_count_9 (tgt := 14) (by decide) (fun hc => ?_) (fun hc => ?_)
  · rw [if_neg hc] at hm
    refine lv_iconst (v := 0) hx hb dX11_count_14 (by decide) ?_
    refine lv_istore_n (lv' := [(2, .int (0 : Int32)), (0, .ref (ad 0)), (1, .int a1)]) hx hb dX11_count_15 rfl hl (by decide) rfl (fun ls hl => ?_)
    refine lv_aload_n hx hb dX11_count_16 rfl (lv_at hl 1 rfl) ?_
    refine lv_aload_n hx hb dX11_count_17 rfl (lv_at hl 1 rfl) ?_
    refine gR X hH fl_X11_52 lM_0 rfl dX11_count_18 ?_
    obtain ⟨h2, hq, hm⟩ := bdh_some hm
    refine cVv X hH kl_X11_181 kv_X11_fills (mt_X11_fills_0_15 hq) lM_0 rfl rfl (by decide) hl.1 rfl (Nat.le_of_ble_eq_true rfl) dX11_count_21 (fun H locs hH => ?_)
    refine lv_iconst (v := 0) hx hb dX11_count_24 (by decide) ?_
    refine lv_istore_n (lv' := [(3, .int (0 : Int32)), (2, .int (0 : Int32)), (0, .ref (ad 0)), (1, .int a1)]) hx hb dX11_count_25 rfl hl (by decide) rfl (fun ls hl => ?_)
    exact wX11_count_26 X FU a1 (0 : Int32) (0 : Int32) h2 _ _ _ hm hH (lv_sub hl [2, 3, 1, 0] rfl)
  · rw [if_pos hc] at hm
    refine lv_iconst (v := (-1)) hx hb dX11_count_12 (by decide) ?_
    cases hm
    exact retI X hH dX11_count_13
