/-! X11_sumOf -/
def mX11_sumOf_127 (h : Mm) (k5 : Int32 → Int32 → Int32 → Int32 → Option Int32) (x1 : Int32) (x2 : Int32) (x4 : Int32) (t0 : Int32) (t1 : Int32) : Option Int32 := mlet (t1 + t0) (fun u1 => k5 x1 x2 u1 (x4 + 1))
set_option maxRecDepth 4000 in
theorem wX11_sumOf_127 {p : Program} {l : Launch} {e : Env} {s : State} {m : MethodId} {args : Array Value} {below : List Frame} {meth : Method} {c : Code} {D : va_G} {ad : Nat → Nat} {ac : Nat → ClassId} {h : Mm} {r : Int32} (X : Fx p s m args meth c cX11_sumOf 6 RX11 (some .int) D ad ac LM []) {k5 : Int32 → Int32 → Int32 → Int32 → Option Int32} (ih5 : ∀ (x1 : Int32) (x2 : Int32) (x3 : Int32) (x4 : Int32) (H : Heap) (locs : List Loc) (ls : Array Slot), k5 x1 x2 x3 x4 = some r → Hp D ad ac LM h s H locs → lv_has ls 6 [(0, .ref (ad 0)), (1, .int x1), (2, .int x2), (3, .int x3), (4, .int x4)] → W p l e (rmD 0) s m args below meth c H locs 0 0 (MQ below (QU D ad ac LM (some (.int r)) h s.heap.size) args s 0 0 (Aa ad LM.length s.heap.size)) (F0 m 5 ls [])) : ∀ (x1 : Int32) (x2 : Int32) (x4 : Int32) (t0 : Int32) (t1 : Int32) (H : Heap) (locs : List Loc) (ls : Array Slot), mX11_sumOf_127 h k5 x1 x2 x4 t0 t1 = some r → Hp D ad ac LM h s H locs → lv_has ls 6 [(0, .ref (ad 0)), (1, .int x1), (2, .int x2), (4, .int x4)] → W p l e (rmD 0) s m args below meth c H locs 0 0 (MQ below (QU D ad ac LM (some (.int r)) h s.heap.size) args s 0 0 (Aa ad LM.length s.heap.size)) (F0 m 127 ls [.int t0, .int t1]) := by
  obtain ⟨hx, hb, hml, hown, hts, hr, hlk, hC, hI, hR⟩ := id X
  intro x1 x2 x4 t0 t1 H locs ls hm hH hl
  rw [mX11_sumOf_127] at hm
  refine lv_iadd hx hb dX11_sumOf_127 ?_
  obtain ⟨u1, eu1, hm⟩ := mlet_some hm
  refine W.eq (g2 := F0 m 128 ls (.int u1 :: [])) (by rw [eu1]) ?_
  refine lv_istore_n (lv' := [(3, .int u1), (0, .ref (ad 0)), (1, .int x1), (2, .int x2), (4, .int x4)]) hx hb dX11_sumOf_128 rfl hl (by decide) rfl (fun ls hl => ?_)
  refine lv_iinc (k := 4) (v := (x4 + 1)) (lv' := [(4, .int (x4 + 1)), (3, .int u1), (0, .ref (ad 0)), (1, .int x1), (2, .int x2)]) hx hb dX11_sumOf_129 hl rfl rfl (by decide) rfl (fun ls hl => ?_)
  refine lv_goto hx hb dX11_sumOf_132 (tgt := 5) (by decide) ?_
  exact ih5 x1 x2 u1 (x4 + 1) _ _ _ hm hH (lv_sub hl [2, 3, 4, 1, 0] rfl)
def mX11_sumOf_89 (h : Mm) (k5 : Int32 → Int32 → Int32 → Int32 → Option Int32) (x1 : Int32) (x2 : Int32) (x3 : Int32) (x4 : Int32) (t0 : Int32) : Option Int32 := if t0 = 0 then (mX11_sumOf_127 h k5 x1 x2 x4 (0 : Int32) x3) else (if x1 = (3 : Int32) then (gIn x4 24 (gIn x4 24 (mX11_sumOf_127 h k5 x1 x2 x4 (((h 11 x4.toNatClampNeg) - (h 10 x4.toNatClampNeg)) + (1 : Int32)) x3))) else (mX11_sumOf_127 h k5 x1 x2 x4 (1 : Int32) x3))
set_option maxRecDepth 4000 in
theorem wX11_sumOf_89 {p : Program} {l : Launch} {e : Env} {s : State} {m : MethodId} {args : Array Value} {below : List Frame} {meth : Method} {c : Code} {D : va_G} {ad : Nat → Nat} {ac : Nat → ClassId} {h : Mm} {r : Int32} (X : Fx p s m args meth c cX11_sumOf 6 RX11 (some .int) D ad ac LM []) {k5 : Int32 → Int32 → Int32 → Int32 → Option Int32} (ih5 : ∀ (x1 : Int32) (x2 : Int32) (x3 : Int32) (x4 : Int32) (H : Heap) (locs : List Loc) (ls : Array Slot), k5 x1 x2 x3 x4 = some r → Hp D ad ac LM h s H locs → lv_has ls 6 [(0, .ref (ad 0)), (1, .int x1), (2, .int x2), (3, .int x3), (4, .int x4)] → W p l e (rmD 0) s m args below meth c H locs 0 0 (MQ below (QU D ad ac LM (some (.int r)) h s.heap.size) args s 0 0 (Aa ad LM.length s.heap.size)) (F0 m 5 ls [])) : ∀ (x1 : Int32) (x2 : Int32) (x3 : Int32) (x4 : Int32) (t0 : Int32) (H : Heap) (locs : List Loc) (ls : Array Slot), mX11_sumOf_89 h k5 x1 x2 x3 x4 t0 = some r → Hp D ad ac LM h s H locs → lv_has ls 6 [(0, .ref (ad 0)), (1, .int x1), (2, .int x2), (3, .int x3), (4, .int x4)] → W p l e (rmD 0) s m args below meth c H locs 0 0 (MQ below (QU D ad ac LM (some (.int r)) h s.heap.size) args s 0 0 (Aa ad LM.length s.heap.size)) (F0 m 89 ls [.int t0]) := by
  obtain ⟨hx, hb, hml, hown, hts, hr, hlk, hC, hI, hR⟩ := id X
  intro x1 x2 x3 x4 t0 H locs ls hm hH hl
  rw [mX11_sumOf_89] at hm
  refine lv_istore (lv' := [(5, .int t0), (0, .ref (ad 0)), (1, .int x1), (2, .int x2), (3, .int x3), (4, .int x4)]) hx hb dX11_sumOf_89 hl (by decide) rfl (fun ls hl => ?_)
  refine lv_iload_n hx hb dX11_sumOf_91 rfl (lv_at hl 4 rfl) ?_
  refine lv_iload hx hb dX11_sumOf_92 (lv_at hl 0 rfl) ?_
  refine lv_if_ne hx hb dX11_sumOf_94 (tgt := 101) (by decide) (fun hc => ?_) (fun hc => ?_)
  · rw [if_neg hc] at hm
    refine lv_iload_n hx hb dX11_sumOf_101 rfl (lv_at hl 2 rfl) ?_
    refine lv_iconst (v := 3) hx hb dX11_sumOf_102 (by decide) ?_
    refine lv_icmp_ne hx hb dX11_sumOf_103 (tgt := 126) (by decide) (fun hc => ?_) (fun hc => ?_)
    · rw [if_neg hc] at hm
      refine lv_iconst (v := 1) hx hb dX11_sumOf_126 (by decide) ?_
      exact wX11_sumOf_127 X ih5 x1 x2 x4 (1 : Int32) x3 _ _ _ hm hH (lv_sub hl [1, 2, 3, 5] rfl)
    · rw [if_pos hc] at hm
      refine lv_aload_n hx hb dX11_sumOf_106 rfl (lv_at hl 1 rfl) ?_
      refine gR X hH fl_X11_40 lM_0 rfl dX11_sumOf_107 ?_
      refine lv_iload hx hb dX11_sumOf_110 (lv_at hl 5 rfl) ?_
      obtain ⟨hin1, hm⟩ := gIn_some hm
      refine ild X hH lM_11 hin1 dX11_sumOf_112 ?_
      refine lv_aload_n hx hb dX11_sumOf_113 rfl (lv_at hl 1 rfl) ?_
      refine gR X hH fl_X11_37 lM_0 rfl dX11_sumOf_114 ?_
      refine lv_iload hx hb dX11_sumOf_117 (lv_at hl 5 rfl) ?_
      obtain ⟨hin2, hm⟩ := gIn_some hm
      refine ild X hH lM_10 hin2 dX11_sumOf_119 ?_
      refine lv_isub hx hb dX11_sumOf_120 ?_
      refine lv_iconst (v := 1) hx hb dX11_sumOf_121 (by decide) ?_
      refine lv_iadd hx hb dX11_sumOf_122 ?_
      refine lv_goto hx hb dX11_sumOf_123 (tgt := 127) (by decide) ?_
      exact wX11_sumOf_127 X ih5 x1 x2 x4 (((h 11 x4.toNatClampNeg) - (h 10 x4.toNatClampNeg)) + (1 : Int32)) x3 _ _ _ hm hH (lv_sub hl [1, 2, 3, 5] rfl)
  · rw [if_pos hc] at hm
    refine lv_iconst (v := 0) hx hb dX11_sumOf_97 (by decide) ?_
    refine lv_goto hx hb dX11_sumOf_98 (tgt := 127) (by decide) ?_
    exact wX11_sumOf_127 X ih5 x1 x2 x4 (0 : Int32) x3 _ _ _ hm hH (lv_sub hl [1, 2, 3, 5] rfl)
def mX11_sumOf_69 (h : Mm) (k5 : Int32 → Int32 → Int32 → Int32 → Option Int32) (x1 : Int32) (x2 : Int32) (x3 : Int32) (x4 : Int32) : Option Int32 := mX11_sumOf_89 h k5 x1 x2 x3 x4 (0 : Int32)
set_option maxRecDepth 4000 in
theorem wX11_sumOf_69 {p : Program} {l : Launch} {e : Env} {s : State} {m : MethodId} {args : Array Value} {below : List Frame} {meth : Method} {c : Code} {D : va_G} {ad : Nat → Nat} {ac : Nat → ClassId} {h : Mm} {r : Int32} (X : Fx p s m args meth c cX11_sumOf 6 RX11 (some .int) D ad ac LM []) {k5 : Int32 → Int32 → Int32 → Int32 → Option Int32} (ih5 : ∀ (x1 : Int32) (x2 : Int32) (x3 : Int32) (x4 : Int32) (H : Heap) (locs : List Loc) (ls : Array Slot), k5 x1 x2 x3 x4 = some r → Hp D ad ac LM h s H locs → lv_has ls 6 [(0, .ref (ad 0)), (1, .int x1), (2, .int x2), (3, .int x3), (4, .int x4)] → W p l e (rmD 0) s m args below meth c H locs 0 0 (MQ below (QU D ad ac LM (some (.int r)) h s.heap.size) args s 0 0 (Aa ad LM.length s.heap.size)) (F0 m 5 ls [])) : ∀ (x1 : Int32) (x2 : Int32) (x3 : Int32) (x4 : Int32) (H : Heap) (locs : List Loc) (ls : Array Slot), mX11_sumOf_69 h k5 x1 x2 x3 x4 = some r → Hp D ad ac LM h s H locs → lv_has ls 6 [(0, .ref (ad 0)), (1, .int x1), (2, .int x2), (3, .int x3), (4, .int x4)] → W p l e (rmD 0) s m args below meth c H locs 0 0 (MQ below (QU D ad ac LM (some (.int r)) h s.heap.size) args s 0 0 (Aa ad LM.length s.heap.size)) (F0 m 69 ls []) := by
  obtain ⟨hx, hb, hml, hown, hts, hr, hlk, hC, hI, hR⟩ := id X
  intro x1 x2 x3 x4 H locs ls hm hH hl
  rw [mX11_sumOf_69] at hm
  refine lv_iconst (v := 0) hx hb dX11_sumOf_69 (by decide) ?_
  refine lv_goto hx hb dX11_sumOf_70 (tgt := 89) (by decide) ?_
  exact wX11_sumOf_89 X ih5 x1 x2 x3 x4 (0 : Int32) _ _ _ hm hH (lv_sub hl [0, 1, 2, 3, 4] rfl)
def mX11_sumOf_5 (h : Mm) : Nat → Int32 → Int32 → Int32 → Int32 → Option Int32
  | 0, _, _, _, _ => none
  | n + 1, x1, x2, x3, x4 => if (h 0 16) ≤ x4 then (some x3) else (if x1 = 0 then (gIn x4 24 (if (h 12 x4.toNatClampNeg) = x2 then (mX11_sumOf_89 h (mX11_sumOf_5 h n) x1 x2 x3 x4 (1 : Int32)) else (mX11_sumOf_89 h (mX11_sumOf_5 h n) x1 x2 x3 x4 (0 : Int32)))) else (if x1 = (1 : Int32) then (gIn x4 24 (if (h 12 x4.toNatClampNeg) = x2 then (gIn x4 32 (if (h 15 x4.toNatClampNeg) = (-4 : Int32) then (mX11_sumOf_69 h (mX11_sumOf_5 h n) x1 x2 x3 x4) else (mX11_sumOf_89 h (mX11_sumOf_5 h n) x1 x2 x3 x4 (1 : Int32)))) else (mX11_sumOf_69 h (mX11_sumOf_5 h n) x1 x2 x3 x4))) else (gIn x4 32 (if (h 15 x4.toNatClampNeg) = x2 then (mX11_sumOf_89 h (mX11_sumOf_5 h n) x1 x2 x3 x4 (1 : Int32)) else (mX11_sumOf_89 h (mX11_sumOf_5 h n) x1 x2 x3 x4 (0 : Int32))))))
set_option maxRecDepth 4000 in
theorem wX11_sumOf_5 {p : Program} {l : Launch} {e : Env} {s : State} {m : MethodId} {args : Array Value} {below : List Frame} {meth : Method} {c : Code} {D : va_G} {ad : Nat → Nat} {ac : Nat → ClassId} {h : Mm} {r : Int32} (X : Fx p s m args meth c cX11_sumOf 6 RX11 (some .int) D ad ac LM []) : ∀ (n : Nat) (x1 : Int32) (x2 : Int32) (x3 : Int32) (x4 : Int32) (H : Heap) (locs : List Loc) (ls : Array Slot), mX11_sumOf_5 h n x1 x2 x3 x4 = some r → Hp D ad ac LM h s H locs → lv_has ls 6 [(0, .ref (ad 0)), (1, .int x1), (2, .int x2), (3, .int x3), (4, .int x4)] → W p l e (rmD 0) s m args below meth c H locs 0 0 (MQ below (QU D ad ac LM (some (.int r)) h s.heap.size) args s 0 0 (Aa ad LM.length s.heap.size)) (F0 m 5 ls []) := by
  obtain ⟨hx, hb, hml, hown, hts, hr, hlk, hC, hI, hR⟩ := id X
  intro n
  induction n with
  | zero => intro x1 x2 x3 x4 H locs ls hm; rw [mX11_sumOf_5] at hm; cases hm
  | succ n ih =>
    intro x1 x2 x3 x4 H locs ls hm hH hl
    rw [mX11_sumOf_5] at hm
    refine lv_iload hx hb dX11_sumOf_5 (lv_at hl 4 rfl) ?_
    refine lv_aload_n hx hb dX11_sumOf_7 rfl (lv_at hl 0 rfl) ?_
    refine gI X hH fl_X11_124 lM_0 rfl dX11_sumOf_8 ?_
    refine lv_icmp_ge hx hb dX11_sumOf_11 (tgt := 135) (by decide) (fun hc => ?_) (fun hc => ?_)
    · rw [if_pos hc] at hm
      refine lv_iload_n hx hb dX11_sumOf_135 rfl (lv_at hl 3 rfl) ?_
      cases hm
      exact retI X hH dX11_sumOf_136
    · rw [if_neg hc] at hm
      refine lv_iload_n hx hb dX11_sumOf_14 rfl (lv_at hl 1 rfl) ?_
      refine lv_if_ne hx hb dX11_sumOf_15 (tgt := 37) (by decide) (fun hc => ?_) (fun hc => ?_)
      · rw [if_neg hc] at hm
        refine lv_iload_n hx hb dX11_sumOf_37 rfl (lv_at hl 1 rfl) ?_
        refine lv_iconst (v := 1) hx hb dX11_sumOf_38 (by decide) ?_
        refine lv_icmp_ne hx hb dX11_sumOf_39 (tgt := 73) (by decide) (fun hc => ?_) (fun hc => ?_)
        · rw [if_neg hc] at hm
          refine lv_aload_n hx hb dX11_sumOf_73 rfl (lv_at hl 0 rfl) ?_
          refine gR X hH fl_X11_52 lM_0 rfl dX11_sumOf_74 ?_
          refine lv_iload hx hb dX11_sumOf_77 (lv_at hl 4 rfl) ?_
          obtain ⟨hin1, hm⟩ := gIn_some hm
          refine ild X hH lM_15 hin1 dX11_sumOf_79 ?_
          refine lv_iload_n hx hb dX11_sumOf_80 rfl (lv_at hl 2 rfl) ?_
          refine lv_icmp_ne hx hb dX11_sumOf_81 (tgt := 88) (by decide) (fun hc => ?_) (fun hc => ?_)
          · rw [if_neg hc] at hm
            refine lv_iconst (v := 0) hx hb dX11_sumOf_88 (by decide) ?_
            exact wX11_sumOf_89 X ih x1 x2 x3 x4 (0 : Int32) _ _ _ hm hH (lv_sub hl [0, 1, 2, 3, 4] rfl)
          · rw [if_pos hc] at hm
            refine lv_iconst (v := 1) hx hb dX11_sumOf_84 (by decide) ?_
            refine lv_goto hx hb dX11_sumOf_85 (tgt := 89) (by decide) ?_
            exact wX11_sumOf_89 X ih x1 x2 x3 x4 (1 : Int32) _ _ _ hm hH (lv_sub hl [0, 1, 2, 3, 4] rfl)
        · rw [if_pos hc] at hm
          refine lv_aload_n hx hb dX11_sumOf_42 rfl (lv_at hl 0 rfl) ?_
          refine gR X hH fl_X11_43 lM_0 rfl dX11_sumOf_43 ?_
          refine lv_iload hx hb dX11_sumOf_46 (lv_at hl 4 rfl) ?_
          obtain ⟨hin2, hm⟩ := gIn_some hm
          refine ild X hH lM_12 hin2 dX11_sumOf_48 ?_
          refine lv_iload_n hx hb dX11_sumOf_49 rfl (lv_at hl 2 rfl) ?_
          refine lv_icmp_ne hx hb dX11_sumOf_50 (tgt := 69) (by decide) (fun hc => ?_) (fun hc => ?_)
          · rw [if_neg hc] at hm
            exact wX11_sumOf_69 X ih x1 x2 x3 x4 _ _ _ hm hH (lv_sub hl [0, 1, 2, 3, 4] rfl)
          · rw [if_pos hc] at hm
            refine lv_aload_n hx hb dX11_sumOf_53 rfl (lv_at hl 0 rfl) ?_
            refine gR X hH fl_X11_52 lM_0 rfl dX11_sumOf_54 ?_
            refine lv_iload hx hb dX11_sumOf_57 (lv_at hl 4 rfl) ?_
            obtain ⟨hin3, hm⟩ := gIn_some hm
            refine ild X hH lM_15 hin3 dX11_sumOf_59 ?_
            refine lv_bipush (v := (-4)) hx hb dX11_sumOf_60 (by decide) ?_
            refine lv_icmp_eq hx hb dX11_sumOf_62 (tgt := 69) (by decide) (fun hc => ?_) (fun hc => ?_)
            · rw [if_pos hc] at hm
              exact wX11_sumOf_69 X ih x1 x2 x3 x4 _ _ _ hm hH (lv_sub hl [0, 1, 2, 3, 4] rfl)
            · rw [if_neg hc] at hm
              refine lv_iconst (v := 1) hx hb dX11_sumOf_65 (by decide) ?_
              refine lv_goto hx hb dX11_sumOf_66 (tgt := 89) (by decide) ?_
              exact wX11_sumOf_89 X ih x1 x2 x3 x4 (1 : Int32) _ _ _ hm hH (lv_sub hl [0, 1, 2, 3, 4] rfl)
      · rw [if_pos hc] at hm
        refine lv_aload_n hx hb dX11_sumOf_18 rfl (lv_at hl 0 rfl) ?_
        refine gR X hH fl_X11_43 lM_0 rfl dX11_sumOf_19 ?_
        refine lv_iload hx hb dX11_sumOf_22 (lv_at hl 4 rfl) ?_
        obtain ⟨hin4, hm⟩ := gIn_some hm
        refine ild X hH lM_12 hin4 dX11_sumOf_24 ?_
        refine lv_iload_n hx hb dX11_sumOf_25 rfl (lv_at hl 2 rfl) ?_
        refine lv_icmp_ne hx hb dX11_sumOf_26 (tgt := 33) (by decide) (fun hc => ?_) (fun hc => ?_)
        · rw [if_neg hc] at hm
          refine lv_iconst (v := 0) hx hb dX11_sumOf_33 (by decide) ?_
          refine lv_goto hx hb dX11_sumOf_34 (tgt := 89) (by decide) ?_
          exact wX11_sumOf_89 X ih x1 x2 x3 x4 (0 : Int32) _ _ _ hm hH (lv_sub hl [0, 1, 2, 3, 4] rfl)
        · rw [if_pos hc] at hm
          refine lv_iconst (v := 1) hx hb dX11_sumOf_29 (by decide) ?_
          refine lv_goto hx hb dX11_sumOf_30 (tgt := 89) (by decide) ?_
          exact wX11_sumOf_89 X ih x1 x2 x3 x4 (1 : Int32) _ _ _ hm hH (lv_sub hl [0, 1, 2, 3, 4] rfl)
def mX11_sumOf (h : Mm) (a1 : Int32) (a2 : Int32) : Option Int32 := mX11_sumOf_5 h FU a1 a2 (0 : Int32) (0 : Int32)
set_option maxRecDepth 4000 in
theorem mt_X11_sumOf {l : Launch} {D : va_G} {ad : Nat → Nat} {ac : Nat → ClassId} {h : Mm} {a1 : Int32} {a2 : Int32} {r : Int32} (hm : mX11_sumOf h a1 a2 = some r) : Mt l D ad ac LM [] yX11_sumOf cX11_sumOf 6 (some .int) 0 [.ref (ad 0), .int a1, .int a2] h (some (.int r)) h := by
  refine Mt.of (own := RX11) (by decide) rfl (Nat.le_of_ble_eq_true rfl) ?_
  intro p e s m below meth c ls X hH hl
  obtain ⟨hx, hb, hml, hown, hts, hr, hlk, hC, hI, hR⟩ := id X
  have hl : lv_has ls 6 [(0, .ref (ad 0)), (1, .int a1), (2, .int a2)] := hl
  rw [mX11_sumOf] at hm
  refine lv_iconst (v := 0) hx hb dX11_sumOf_0 (by decide) ?_
  refine lv_istore_n (lv' := [(3, .int (0 : Int32)), (0, .ref (ad 0)), (1, .int a1), (2, .int a2)]) hx hb dX11_sumOf_1 rfl hl (by decide) rfl (fun ls hl => ?_)
  refine lv_iconst (v := 0) hx hb dX11_sumOf_2 (by decide) ?_
  refine lv_istore (lv' := [(4, .int (0 : Int32)), (3, .int (0 : Int32)), (0, .ref (ad 0)), (1, .int a1), (2, .int a2)]) hx hb dX11_sumOf_3 hl (by decide) rfl (fun ls hl => ?_)
  exact wX11_sumOf_5 X FU a1 a2 (0 : Int32) (0 : Int32) _ _ _ hm hH (lv_sub hl [2, 3, 4, 1, 0] rfl)
/-! X11_antenna -/
def mX11_antenna_54 (h : Mm) (x1 : Int32) (x2 : Int32) (t0 : Int32) : Option Int32 := if (3 : Int32) ≤ x2 then (if (5 : Int32) ≤ x2 then (bd1 (mX11_sumOf h (x2 - (3 : Int32)) x1) (fun v1 => some v1)) else (if t0 = 0 then (some (-4 : Int32)) else (gIn ((((24 : Int32) + ((2 : Int32) * x1)) + x2) - (3 : Int32)) 32 (some (h 15 ((((24 : Int32) + ((2 : Int32) * x1)) + x2) - (3 : Int32)).toNatClampNeg))))) else (gIn (((3 : Int32) * x1) + x2) 12 (some (h 4 (((3 : Int32) * x1) + x2).toNatClampNeg)))
set_option maxRecDepth 4000 in
theorem wX11_antenna_54 {p : Program} {l : Launch} {e : Env} {s : State} {m : MethodId} {args : Array Value} {below : List Frame} {meth : Method} {c : Code} {D : va_G} {ad : Nat → Nat} {ac : Nat → ClassId} {h : Mm} {r : Int32} (X : Fx p s m args meth c cX11_antenna 4 RX11 (some .int) D ad ac LM []) : ∀ (x1 : Int32) (x2 : Int32) (t0 : Int32) (H : Heap) (locs : List Loc) (ls : Array Slot), mX11_antenna_54 h x1 x2 t0 = some r → Hp D ad ac LM h s H locs → lv_has ls 4 [(0, .ref (ad 0)), (1, .int x1), (2, .int x2)] → W p l e (rmD 2) s m args below meth c H locs 0 0 (MQ below (QU D ad ac LM (some (.int r)) h s.heap.size) args s 0 0 (Aa ad LM.length s.heap.size)) (F0 m 54 ls [.int t0]) := by
  obtain ⟨hx, hb, hml, hown, hts, hr, hlk, hC, hI, hR⟩ := id X
  intro x1 x2 t0 H locs ls hm hH hl
  rw [mX11_antenna_54] at hm
  refine lv_istore_n (lv' := [(3, .int t0), (0, .ref (ad 0)), (1, .int x1), (2, .int x2)]) hx hb dX11_antenna_54 rfl hl (by decide) rfl (fun ls hl => ?_)
  refine lv_iload_n hx hb dX11_antenna_55 rfl (lv_at hl 3 rfl) ?_
  refine lv_iconst (v := 3) hx hb dX11_antenna_56 (by decide) ?_
  refine lv_icmp_ge hx hb dX11_antenna_57 (tgt := 73) (by decide) (fun hc => ?_) (fun hc => ?_)
  · rw [if_pos hc] at hm
    refine lv_iload_n hx hb dX11_antenna_73 rfl (lv_at hl 3 rfl) ?_
    refine lv_iconst (v := 5) hx hb dX11_antenna_74 (by decide) ?_
    refine lv_icmp_ge hx hb dX11_antenna_75 (tgt := 105) (by decide) (fun hc => ?_) (fun hc => ?_)
    · rw [if_pos hc] at hm
      refine lv_aload_n hx hb dX11_antenna_105 rfl (lv_at hl 1 rfl) ?_
      refine lv_iload_n hx hb dX11_antenna_106 rfl (lv_at hl 3 rfl) ?_
      refine lv_iconst (v := 3) hx hb dX11_antenna_107 (by decide) ?_
      refine lv_isub hx hb dX11_antenna_108 ?_
      refine lv_iload_n hx hb dX11_antenna_109 rfl (lv_at hl 2 rfl) ?_
      obtain ⟨v1, hq, hm⟩ := bd1_some hm
      refine cVi X hH kl_X11_140 kv_X11_sumOf (mt_X11_sumOf hq) lM_0 rfl rfl (by decide) hl.1 rfl (Nat.le_of_ble_eq_true rfl) dX11_antenna_110 (fun H locs hH => ?_)
      cases hm
      exact retI X hH dX11_antenna_113
    · rw [if_neg hc] at hm
      refine lv_iload_n hx hb dX11_antenna_78 rfl (lv_at hl 0 rfl) ?_
      refine lv_if_eq hx hb dX11_antenna_79 (tgt := 100) (by decide) (fun hc => ?_) (fun hc => ?_)
      · rw [if_pos hc] at hm
        refine lv_bipush (v := (-4)) hx hb dX11_antenna_100 (by decide) ?_
        refine lv_goto hx hb dX11_antenna_102 (tgt := 113) (by decide) ?_
        cases hm
        exact retI X hH dX11_antenna_113
      · rw [if_neg hc] at hm
        refine lv_aload_n hx hb dX11_antenna_82 rfl (lv_at hl 1 rfl) ?_
        refine gR X hH fl_X11_52 lM_0 rfl dX11_antenna_83 ?_
        refine lv_bipush (v := 24) hx hb dX11_antenna_86 (by decide) ?_
        refine lv_iconst (v := 2) hx hb dX11_antenna_88 (by decide) ?_
        refine lv_iload_n hx hb dX11_antenna_89 rfl (lv_at hl 2 rfl) ?_
        refine lv_imul hx hb dX11_antenna_90 ?_
        refine lv_iadd hx hb dX11_antenna_91 ?_
        refine lv_iload_n hx hb dX11_antenna_92 rfl (lv_at hl 3 rfl) ?_
        refine lv_iadd hx hb dX11_antenna_93 ?_
        refine lv_iconst (v := 3) hx hb dX11_antenna_94 (by decide) ?_
        refine lv_isub hx hb dX11_antenna_95 ?_
        obtain ⟨hin2, hm⟩ := gIn_some hm
        refine ild X hH lM_15 hin2 dX11_antenna_96 ?_
        refine lv_goto hx hb dX11_antenna_97 (tgt := 113) (by decide) ?_
        cases hm
        exact retI X hH dX11_antenna_113
  · rw [if_neg hc] at hm
    refine lv_aload_n hx hb dX11_antenna_60 rfl (lv_at hl 1 rfl) ?_
    refine gR X hH fl_X11_19 lM_0 rfl dX11_antenna_61 ?_
    refine lv_iconst (v := 3) hx hb dX11_antenna_64 (by decide) ?_
    refine lv_iload_n hx hb dX11_antenna_65 rfl (lv_at hl 2 rfl) ?_
    refine lv_imul hx hb dX11_antenna_66 ?_
    refine lv_iload_n hx hb dX11_antenna_67 rfl (lv_at hl 3 rfl) ?_
    refine lv_iadd hx hb dX11_antenna_68 ?_
    obtain ⟨hin3, hm⟩ := gIn_some hm
    refine ild X hH lM_4 hin3 dX11_antenna_69 ?_
    refine lv_goto hx hb dX11_antenna_70 (tgt := 113) (by decide) ?_
    cases hm
    exact retI X hH dX11_antenna_113
def mX11_antenna (h : Mm) (a1 : Int32) (a2 : Int32) : Option Int32 := bd1 (mX11_isAntenna h a1) (fun v1 => if v1 = 0 then (some (-1 : Int32)) else (bd1 (mX11_in h a2.toInt64 (0 : Int64) (6 : Int64)) (fun v2 => if v2 = 0 then (some (-1 : Int32)) else (gIn ((24 : Int32) + ((2 : Int32) * a1)) 32 (gIn (((24 : Int32) + ((2 : Int32) * a1)) + (1 : Int32)) 32 (if (h 15 (((24 : Int32) + ((2 : Int32) * a1)) + (1 : Int32)).toNatClampNeg) < (h 15 ((24 : Int32) + ((2 : Int32) * a1)).toNatClampNeg) then (mX11_antenna_54 h a1 a2 (0 : Int32)) else (mX11_antenna_54 h a1 a2 (1 : Int32))))))))
set_option maxRecDepth 4000 in
theorem mt_X11_antenna {l : Launch} {D : va_G} {ad : Nat → Nat} {ac : Nat → ClassId} {h : Mm} {a1 : Int32} {a2 : Int32} {r : Int32} (hm : mX11_antenna h a1 a2 = some r) : Mt l D ad ac LM [] yX11_antenna cX11_antenna 4 (some .int) 2 [.ref (ad 0), .int a1, .int a2] h (some (.int r)) h := by
  refine Mt.of (own := RX11) (by decide) rfl (Nat.le_of_ble_eq_true rfl) ?_
  intro p e s m below meth c ls X hH hl
  obtain ⟨hx, hb, hml, hown, hts, hr, hlk, hC, hI, hR⟩ := id X
  have hl : lv_has ls 4 [(0, .ref (ad 0)), (1, .int a1), (2, .int a2)] := hl
  rw [mX11_antenna] at hm
  refine lv_aload_n hx hb dX11_antenna_0 rfl (lv_at hl 0 rfl) ?_
  refine lv_iload_n hx hb dX11_antenna_1 rfl (lv_at hl 1 rfl) ?_
  obtain ⟨v1, hq, hm⟩ := bd1_some hm
  refine cVi X hH kl_X11_144 kv_X11_isAntenna (mt_X11_isAntenna hq) lM_0 rfl rfl (by decide) hl.1 rfl (Nat.le_of_ble_eq_true rfl) dX11_antenna_2 (fun H locs hH => ?_)
  refine lv_if_eq hx hb dX11_antenna_5 (tgt := 20) (by decide) (fun hc => ?_) (fun hc => ?_)
  · rw [if_pos hc] at hm
    refine lv_iconst (v := (-1)) hx hb dX11_antenna_20 (by decide) ?_
    cases hm
    exact retI X hH dX11_antenna_21
  · rw [if_neg hc] at hm
    refine lv_iload_n hx hb dX11_antenna_8 rfl (lv_at hl 2 rfl) ?_
    refine lv_i2l hx hb dX11_antenna_9 rfl ?_
    refine lv_lconst (v := 0) hx hb dX11_antenna_10 (by decide) ?_
    refine lv_ldc2 hx hb hown (hts _ kc_X11_138) dX11_antenna_11 ?_
    obtain ⟨v2, hq, hm⟩ := bd1_some hm
    refine cSi (As := [.long a2.toInt64, .long (0 : Int64), .long (6 : Int64)]) X hH kl_X11_93 ks_X11_in (mt_X11_in hq) rfl (by decide) hl.1 rfl (Nat.le_of_ble_eq_true rfl) dX11_antenna_14 (fun H locs hH => ?_)
    refine lv_if_ne hx hb dX11_antenna_17 (tgt := 22) (by decide) (fun hc => ?_) (fun hc => ?_)
    · rw [if_neg hc] at hm
      refine lv_aload_n hx hb dX11_antenna_22 rfl (lv_at hl 0 rfl) ?_
      refine gR X hH fl_X11_52 lM_0 rfl dX11_antenna_23 ?_
      refine lv_bipush (v := 24) hx hb dX11_antenna_26 (by decide) ?_
      refine lv_iconst (v := 2) hx hb dX11_antenna_28 (by decide) ?_
      refine lv_iload_n hx hb dX11_antenna_29 rfl (lv_at hl 1 rfl) ?_
      refine lv_imul hx hb dX11_antenna_30 ?_
      refine lv_iadd hx hb dX11_antenna_31 ?_
      obtain ⟨hin3, hm⟩ := gIn_some hm
      refine ild X hH lM_15 hin3 dX11_antenna_32 ?_
      refine lv_aload_n hx hb dX11_antenna_33 rfl (lv_at hl 0 rfl) ?_
      refine gR X hH fl_X11_52 lM_0 rfl dX11_antenna_34 ?_
      refine lv_bipush (v := 24) hx hb dX11_antenna_37 (by decide) ?_
      refine lv_iconst (v := 2) hx hb dX11_antenna_39 (by decide) ?_
      refine lv_iload_n hx hb dX11_antenna_40 rfl (lv_at hl 1 rfl) ?_
      refine lv_imul hx hb dX11_antenna_41 ?_
      refine lv_iadd hx hb dX11_antenna_42 ?_
      refine lv_iconst (v := 1) hx hb dX11_antenna_43 (by decide) ?_
      refine lv_iadd hx hb dX11_antenna_44 ?_
      obtain ⟨hin4, hm⟩ := gIn_some hm
      refine ild X hH lM_15 hin4 dX11_antenna_45 ?_
      refine lv_icmp_gt hx hb dX11_antenna_46 (tgt := 53) (by decide) (fun hc => ?_) (fun hc => ?_)
      · rw [if_pos hc] at hm
        refine lv_iconst (v := 0) hx hb dX11_antenna_53 (by decide) ?_
        exact wX11_antenna_54 X a1 a2 (0 : Int32) _ _ _ hm hH (lv_sub hl [0, 1, 2] rfl)
      · rw [if_neg hc] at hm
        refine lv_iconst (v := 1) hx hb dX11_antenna_49 (by decide) ?_
        refine lv_goto hx hb dX11_antenna_50 (tgt := 54) (by decide) ?_
        exact wX11_antenna_54 X a1 a2 (1 : Int32) _ _ _ hm hH (lv_sub hl [0, 1, 2] rfl)
    · rw [if_pos hc] at hm
      refine lv_iconst (v := (-1)) hx hb dX11_antenna_20 (by decide) ?_
      cases hm
      exact retI X hH dX11_antenna_21
/-! X11_bestBehind -/
def mX11_bestBehind_136 (h : Mm) (k8 : Int32 → Int32 → Int32 → Int32 → Option Int32) (x1 : Int32) (x2 : Int32) (x4 : Int32) (t0 : Int32) : Option Int32 := k8 x1 x2 t0 (x4 + 1)
set_option maxRecDepth 4000 in
theorem wX11_bestBehind_136 {p : Program} {l : Launch} {e : Env} {s : State} {m : MethodId} {args : Array Value} {below : List Frame} {meth : Method} {c : Code} {D : va_G} {ad : Nat → Nat} {ac : Nat → ClassId} {h : Mm} {r : Int32} (X : Fx p s m args meth c cX11_bestBehind 7 RX11 (some .int) D ad ac LM []) {k8 : Int32 → Int32 → Int32 → Int32 → Option Int32} (ih8 : ∀ (x1 : Int32) (x2 : Int32) (x3 : Int32) (x4 : Int32) (H : Heap) (locs : List Loc) (ls : Array Slot), k8 x1 x2 x3 x4 = some r → Hp D ad ac LM h s H locs → lv_has ls 7 [(0, .ref (ad 0)), (1, .int x1), (2, .int x2), (3, .int x3), (4, .int x4)] → W p l e (rmD 1) s m args below meth c H locs 0 0 (MQ below (QU D ad ac LM (some (.int r)) h s.heap.size) args s 0 0 (Aa ad LM.length s.heap.size)) (F0 m 8 ls [])) : ∀ (x1 : Int32) (x2 : Int32) (x4 : Int32) (t0 : Int32) (H : Heap) (locs : List Loc) (ls : Array Slot), mX11_bestBehind_136 h k8 x1 x2 x4 t0 = some r → Hp D ad ac LM h s H locs → lv_has ls 7 [(0, .ref (ad 0)), (1, .int x1), (2, .int x2), (4, .int x4)] → W p l e (rmD 1) s m args below meth c H locs 0 0 (MQ below (QU D ad ac LM (some (.int r)) h s.heap.size) args s 0 0 (Aa ad LM.length s.heap.size)) (F0 m 136 ls [.int t0]) := by
  obtain ⟨hx, hb, hml, hown, hts, hr, hlk, hC, hI, hR⟩ := id X
  intro x1 x2 x4 t0 H locs ls hm hH hl
  rw [mX11_bestBehind_136] at hm
  refine lv_istore_n (lv' := [(3, .int t0), (0, .ref (ad 0)), (1, .int x1), (2, .int x2), (4, .int x4)]) hx hb dX11_bestBehind_136 rfl hl (by decide) rfl (fun ls hl => ?_)
  refine lv_iinc (k := 4) (v := (x4 + 1)) (lv' := [(4, .int (x4 + 1)), (3, .int t0), (0, .ref (ad 0)), (1, .int x1), (2, .int x2)]) hx hb dX11_bestBehind_137 hl rfl rfl (by decide) rfl (fun ls hl => ?_)
  refine lv_goto hx hb dX11_bestBehind_140 (tgt := 8) (by decide) ?_
  exact ih8 x1 x2 t0 (x4 + 1) _ _ _ hm hH (lv_sub hl [2, 3, 4, 1, 0] rfl)
def mX11_bestBehind_135 (h : Mm) (k8 : Int32 → Int32 → Int32 → Int32 → Option Int32) (x1 : Int32) (x2 : Int32) (x3 : Int32) (x4 : Int32) : Option Int32 := mX11_bestBehind_136 h k8 x1 x2 x4 x3
set_option maxRecDepth 4000 in
theorem wX11_bestBehind_135 {p : Program} {l : Launch} {e : Env} {s : State} {m : MethodId} {args : Array Value} {below : List Frame} {meth : Method} {c : Code} {D : va_G} {ad : Nat → Nat} {ac : Nat → ClassId} {h : Mm} {r : Int32} (X : Fx p s m args meth c cX11_bestBehind 7 RX11 (some .int) D ad ac LM []) {k8 : Int32 → Int32 → Int32 → Int32 → Option Int32} (ih8 : ∀ (x1 : Int32) (x2 : Int32) (x3 : Int32) (x4 : Int32) (H : Heap) (locs : List Loc) (ls : Array Slot), k8 x1 x2 x3 x4 = some r → Hp D ad ac LM h s H locs → lv_has ls 7 [(0, .ref (ad 0)), (1, .int x1), (2, .int x2), (3, .int x3), (4, .int x4)] → W p l e (rmD 1) s m args below meth c H locs 0 0 (MQ below (QU D ad ac LM (some (.int r)) h s.heap.size) args s 0 0 (Aa ad LM.length s.heap.size)) (F0 m 8 ls [])) : ∀ (x1 : Int32) (x2 : Int32) (x3 : Int32) (x4 : Int32) (H : Heap) (locs : List Loc) (ls : Array Slot), mX11_bestBehind_135 h k8 x1 x2 x3 x4 = some r → Hp D ad ac LM h s H locs → lv_has ls 7 [(0, .ref (ad 0)), (1, .int x1), (2, .int x2), (3, .int x3), (4, .int x4)] → W p l e (rmD 1) s m args below meth c H locs 0 0 (MQ below (QU D ad ac LM (some (.int r)) h s.heap.size) args s 0 0 (Aa ad LM.length s.heap.size)) (F0 m 135 ls []) := by
  obtain ⟨hx, hb, hml, hown, hts, hr, hlk, hC, hI, hR⟩ := id X
  intro x1 x2 x3 x4 H locs ls hm hH hl
  rw [mX11_bestBehind_135] at hm
  refine lv_iload_n hx hb dX11_bestBehind_135 rfl (lv_at hl 3 rfl) ?_
  exact wX11_bestBehind_136 X ih8 x1 x2 x4 x3 _ _ _ hm hH (lv_sub hl [0, 1, 2, 4] rfl)
def mX11_bestBehind_118 (h : Mm) (k8 : Int32 → Int32 → Int32 → Int32 → Option Int32) (x1 : Int32) (x2 : Int32) (x3 : Int32) (x4 : Int32) (x5 : Int32) (t0 : Int32) : Option Int32 := if x5 = 0 then (mX11_bestBehind_135 h k8 x1 x2 x3 x4) else (if t0 = 0 then (mX11_bestBehind_135 h k8 x1 x2 x3 x4) else (mX11_bestBehind_136 h k8 x1 x2 x4 x4))
set_option maxRecDepth 4000 in
theorem wX11_bestBehind_118 {p : Program} {l : Launch} {e : Env} {s : State} {m : MethodId} {args : Array Value} {below : List Frame} {meth : Method} {c : Code} {D : va_G} {ad : Nat → Nat} {ac : Nat → ClassId} {h : Mm} {r : Int32} (X : Fx p s m args meth c cX11_bestBehind 7 RX11 (some .int) D ad ac LM []) {k8 : Int32 → Int32 → Int32 → Int32 → Option Int32} (ih8 : ∀ (x1 : Int32) (x2 : Int32) (x3 : Int32) (x4 : Int32) (H : Heap) (locs : List Loc) (ls : Array Slot), k8 x1 x2 x3 x4 = some r → Hp D ad ac LM h s H locs → lv_has ls 7 [(0, .ref (ad 0)), (1, .int x1), (2, .int x2), (3, .int x3), (4, .int x4)] → W p l e (rmD 1) s m args below meth c H locs 0 0 (MQ below (QU D ad ac LM (some (.int r)) h s.heap.size) args s 0 0 (Aa ad LM.length s.heap.size)) (F0 m 8 ls [])) : ∀ (x1 : Int32) (x2 : Int32) (x3 : Int32) (x4 : Int32) (x5 : Int32) (t0 : Int32) (H : Heap) (locs : List Loc) (ls : Array Slot), mX11_bestBehind_118 h k8 x1 x2 x3 x4 x5 t0 = some r → Hp D ad ac LM h s H locs → lv_has ls 7 [(0, .ref (ad 0)), (1, .int x1), (2, .int x2), (3, .int x3), (4, .int x4), (5, .int x5)] → W p l e (rmD 1) s m args below meth c H locs 0 0 (MQ below (QU D ad ac LM (some (.int r)) h s.heap.size) args s 0 0 (Aa ad LM.length s.heap.size)) (F0 m 118 ls [.int t0]) := by
  obtain ⟨hx, hb, hml, hown, hts, hr, hlk, hC, hI, hR⟩ := id X
  intro x1 x2 x3 x4 x5 t0 H locs ls hm hH hl
  rw [mX11_bestBehind_118] at hm
  refine lv_istore (lv' := [(6, .int t0), (0, .ref (ad 0)), (1, .int x1), (2, .int x2), (3, .int x3), (4, .int x4), (5, .int x5)]) hx hb dX11_bestBehind_118 hl (by decide) rfl (fun ls hl => ?_)
  refine lv_iload hx hb dX11_bestBehind_120 (lv_at hl 6 rfl) ?_
  refine lv_if_eq hx hb dX11_bestBehind_122 (tgt := 135) (by decide) (fun hc => ?_) (fun hc => ?_)
  · rw [if_pos hc] at hm
    exact wX11_bestBehind_135 X ih8 x1 x2 x3 x4 _ _ _ hm hH (lv_sub hl [1, 2, 3, 4, 5] rfl)
  · rw [if_neg hc] at hm
    refine lv_iload hx hb dX11_bestBehind_125 (lv_at hl 0 rfl) ?_
    refine lv_if_eq hx hb dX11_bestBehind_127 (tgt := 135) (by decide) (fun hc => ?_) (fun hc => ?_)
    · rw [if_pos hc] at hm
      exact wX11_bestBehind_135 X ih8 x1 x2 x3 x4 _ _ _ hm hH (lv_sub hl [1, 2, 3, 4, 5] rfl)
    · rw [if_neg hc] at hm
      refine lv_iload hx hb dX11_bestBehind_130 (lv_at hl 5 rfl) ?_
      refine lv_goto hx hb dX11_bestBehind_132 (tgt := 136) (by decide) ?_
      exact wX11_bestBehind_136 X ih8 x1 x2 x4 x4 _ _ _ hm hH (lv_sub hl [1, 2, 3, 5] rfl)
def mX11_bestBehind_117 (h : Mm) (k8 : Int32 → Int32 → Int32 → Int32 → Option Int32) (x1 : Int32) (x2 : Int32) (x3 : Int32) (x4 : Int32) (x5 : Int32) : Option Int32 := mX11_bestBehind_118 h k8 x1 x2 x3 x4 x5 (0 : Int32)
set_option maxRecDepth 4000 in
theorem wX11_bestBehind_117 {p : Program} {l : Launch} {e : Env} {s : State} {m : MethodId} {args : Array Value} {below : List Frame} {meth : Method} {c : Code} {D : va_G} {ad : Nat → Nat} {ac : Nat → ClassId} {h : Mm} {r : Int32} (X : Fx p s m args meth c cX11_bestBehind 7 RX11 (some .int) D ad ac LM []) {k8 : Int32 → Int32 → Int32 → Int32 → Option Int32} (ih8 : ∀ (x1 : Int32) (x2 : Int32) (x3 : Int32) (x4 : Int32) (H : Heap) (locs : List Loc) (ls : Array Slot), k8 x1 x2 x3 x4 = some r → Hp D ad ac LM h s H locs → lv_has ls 7 [(0, .ref (ad 0)), (1, .int x1), (2, .int x2), (3, .int x3), (4, .int x4)] → W p l e (rmD 1) s m args below meth c H locs 0 0 (MQ below (QU D ad ac LM (some (.int r)) h s.heap.size) args s 0 0 (Aa ad LM.length s.heap.size)) (F0 m 8 ls [])) : ∀ (x1 : Int32) (x2 : Int32) (x3 : Int32) (x4 : Int32) (x5 : Int32) (H : Heap) (locs : List Loc) (ls : Array Slot), mX11_bestBehind_117 h k8 x1 x2 x3 x4 x5 = some r → Hp D ad ac LM h s H locs → lv_has ls 7 [(0, .ref (ad 0)), (1, .int x1), (2, .int x2), (3, .int x3), (4, .int x4), (5, .int x5)] → W p l e (rmD 1) s m args below meth c H locs 0 0 (MQ below (QU D ad ac LM (some (.int r)) h s.heap.size) args s 0 0 (Aa ad LM.length s.heap.size)) (F0 m 117 ls []) := by
  obtain ⟨hx, hb, hml, hown, hts, hr, hlk, hC, hI, hR⟩ := id X
  intro x1 x2 x3 x4 x5 H locs ls hm hH hl
  rw [mX11_bestBehind_117] at hm
  refine lv_iconst (v := 0) hx hb dX11_bestBehind_117 (by decide) ?_
  exact wX11_bestBehind_118 X ih8 x1 x2 x3 x4 x5 (0 : Int32) _ _ _ hm hH (lv_sub hl [0, 1, 2, 3, 4, 5] rfl)
def mX11_bestBehind_113 (h : Mm) (k8 : Int32 → Int32 → Int32 → Int32 → Option Int32) (x1 : Int32) (x2 : Int32) (x3 : Int32) (x4 : Int32) (x5 : Int32) : Option Int32 := mX11_bestBehind_118 h k8 x1 x2 x3 x4 x5 (1 : Int32)
set_option maxRecDepth 4000 in
theorem wX11_bestBehind_113 {p : Program} {l : Launch} {e : Env} {s : State} {m : MethodId} {args : Array Value} {below : List Frame} {meth : Method} {c : Code} {D : va_G} {ad : Nat → Nat} {ac : Nat → ClassId} {h : Mm} {r : Int32} (X : Fx p s m args meth c cX11_bestBehind 7 RX11 (some .int) D ad ac LM []) {k8 : Int32 → Int32 → Int32 → Int32 → Option Int32} (ih8 : ∀ (x1 : Int32) (x2 : Int32) (x3 : Int32) (x4 : Int32) (H : Heap) (locs : List Loc) (ls : Array Slot), k8 x1 x2 x3 x4 = some r → Hp D ad ac LM h s H locs → lv_has ls 7 [(0, .ref (ad 0)), (1, .int x1), (2, .int x2), (3, .int x3), (4, .int x4)] → W p l e (rmD 1) s m args below meth c H locs 0 0 (MQ below (QU D ad ac LM (some (.int r)) h s.heap.size) args s 0 0 (Aa ad LM.length s.heap.size)) (F0 m 8 ls [])) : ∀ (x1 : Int32) (x2 : Int32) (x3 : Int32) (x4 : Int32) (x5 : Int32) (H : Heap) (locs : List Loc) (ls : Array Slot), mX11_bestBehind_113 h k8 x1 x2 x3 x4 x5 = some r → Hp D ad ac LM h s H locs → lv_has ls 7 [(0, .ref (ad 0)), (1, .int x1), (2, .int x2), (3, .int x3), (4, .int x4), (5, .int x5)] → W p l e (rmD 1) s m args below meth c H locs 0 0 (MQ below (QU D ad ac LM (some (.int r)) h s.heap.size) args s 0 0 (Aa ad LM.length s.heap.size)) (F0 m 113 ls []) := by
  obtain ⟨hx, hb, hml, hown, hts, hr, hlk, hC, hI, hR⟩ := id X
  intro x1 x2 x3 x4 x5 H locs ls hm hH hl
  rw [mX11_bestBehind_113] at hm
  refine lv_iconst (v := 1) hx hb dX11_bestBehind_113 (by decide) ?_
  refine lv_goto hx hb dX11_bestBehind_114 (tgt := 118) (by decide) ?_
  exact wX11_bestBehind_118 X ih8 x1 x2 x3 x4 x5 (1 : Int32) _ _ _ hm hH (lv_sub hl [0, 1, 2, 3, 4, 5] rfl)
def mX11_bestBehind_63 (h : Mm) (k8 : Int32 → Int32 → Int32 → Int32 → Option Int32) (x1 : Int32) (x2 : Int32) (x3 : Int32) (x4 : Int32) (t0 : Int32) : Option Int32 := gIn x4 25 (gIn x3 25 (if (h 17 x3.toNatClampNeg) < (h 17 x4.toNatClampNeg) then (mX11_bestBehind_113 h k8 x1 x2 x3 x4 t0) else (gIn x4 25 (gIn x3 25 (if (h 17 x4.toNatClampNeg) = (h 17 x3.toNatClampNeg) then (gIn x4 25 (gIn x3 25 (if (h 18 x3.toNatClampNeg) ≤ (h 18 x4.toNatClampNeg) then (mX11_bestBehind_117 h k8 x1 x2 x3 x4 t0) else (mX11_bestBehind_113 h k8 x1 x2 x3 x4 t0)))) else (mX11_bestBehind_117 h k8 x1 x2 x3 x4 t0))))))
set_option maxRecDepth 4000 in
theorem wX11_bestBehind_63 {p : Program} {l : Launch} {e : Env} {s : State} {m : MethodId} {args : Array Value} {below : List Frame} {meth : Method} {c : Code} {D : va_G} {ad : Nat → Nat} {ac : Nat → ClassId} {h : Mm} {r : Int32} (X : Fx p s m args meth c cX11_bestBehind 7 RX11 (some .int) D ad ac LM []) {k8 : Int32 → Int32 → Int32 → Int32 → Option Int32} (ih8 : ∀ (x1 : Int32) (x2 : Int32) (x3 : Int32) (x4 : Int32) (H : Heap) (locs : List Loc) (ls : Array Slot), k8 x1 x2 x3 x4 = some r → Hp D ad ac LM h s H locs → lv_has ls 7 [(0, .ref (ad 0)), (1, .int x1), (2, .int x2), (3, .int x3), (4, .int x4)] → W p l e (rmD 1) s m args below meth c H locs 0 0 (MQ below (QU D ad ac LM (some (.int r)) h s.heap.size) args s 0 0 (Aa ad LM.length s.heap.size)) (F0 m 8 ls [])) : ∀ (x1 : Int32) (x2 : Int32) (x3 : Int32) (x4 : Int32) (t0 : Int32) (H : Heap) (locs : List Loc) (ls : Array Slot), mX11_bestBehind_63 h k8 x1 x2 x3 x4 t0 = some r → Hp D ad ac LM h s H locs → lv_has ls 7 [(0, .ref (ad 0)), (1, .int x1), (2, .int x2), (3, .int x3), (4, .int x4)] → W p l e (rmD 1) s m args below meth c H locs 0 0 (MQ below (QU D ad ac LM (some (.int r)) h s.heap.size) args s 0 0 (Aa ad LM.length s.heap.size)) (F0 m 63 ls [.int t0]) := by
  obtain ⟨hx, hb, hml, hown, hts, hr, hlk, hC, hI, hR⟩ := id X
  intro x1 x2 x3 x4 t0 H locs ls hm hH hl
  rw [mX11_bestBehind_63] at hm
  refine lv_istore (lv' := [(5, .int t0), (0, .ref (ad 0)), (1, .int x1), (2, .int x2), (3, .int x3), (4, .int x4)]) hx hb dX11_bestBehind_63 hl (by decide) rfl (fun ls hl => ?_)
  refine lv_aload_n hx hb dX11_bestBehind_65 rfl (lv_at hl 1 rfl) ?_
  refine gR X hH fl_X11_58 lM_0 rfl dX11_bestBehind_66 ?_
  refine lv_iload hx hb dX11_bestBehind_69 (lv_at hl 5 rfl) ?_
  obtain ⟨hin1, hm⟩ := gIn_some hm
  refine ild X hH lM_17 hin1 dX11_bestBehind_71 ?_
  refine lv_aload_n hx hb dX11_bestBehind_72 rfl (lv_at hl 1 rfl) ?_
  refine gR X hH fl_X11_58 lM_0 rfl dX11_bestBehind_73 ?_
  refine lv_iload_n hx hb dX11_bestBehind_76 rfl (lv_at hl 4 rfl) ?_
  obtain ⟨hin2, hm⟩ := gIn_some hm
  refine ild X hH lM_17 hin2 dX11_bestBehind_77 ?_
  refine lv_icmp_gt hx hb dX11_bestBehind_78 (tgt := 113) (by decide) (fun hc => ?_) (fun hc => ?_)
  · rw [if_pos hc] at hm
    exact wX11_bestBehind_113 X ih8 x1 x2 x3 x4 t0 _ _ _ hm hH (lv_sub hl [1, 2, 3, 4, 5, 0] rfl)
  · rw [if_neg hc] at hm
    refine lv_aload_n hx hb dX11_bestBehind_81 rfl (lv_at hl 1 rfl) ?_
    refine gR X hH fl_X11_58 lM_0 rfl dX11_bestBehind_82 ?_
    refine lv_iload hx hb dX11_bestBehind_85 (lv_at hl 5 rfl) ?_
    obtain ⟨hin3, hm⟩ := gIn_some hm
    refine ild X hH lM_17 hin3 dX11_bestBehind_87 ?_
    refine lv_aload_n hx hb dX11_bestBehind_88 rfl (lv_at hl 1 rfl) ?_
    refine gR X hH fl_X11_58 lM_0 rfl dX11_bestBehind_89 ?_
    refine lv_iload_n hx hb dX11_bestBehind_92 rfl (lv_at hl 4 rfl) ?_
    obtain ⟨hin4, hm⟩ := gIn_some hm
    refine ild X hH lM_17 hin4 dX11_bestBehind_93 ?_
    refine lv_icmp_ne hx hb dX11_bestBehind_94 (tgt := 117) (by decide) (fun hc => ?_) (fun hc => ?_)
    · rw [if_neg hc] at hm
      exact wX11_bestBehind_117 X ih8 x1 x2 x3 x4 t0 _ _ _ hm hH (lv_sub hl [1, 2, 3, 4, 5, 0] rfl)
    · rw [if_pos hc] at hm
      refine lv_aload_n hx hb dX11_bestBehind_97 rfl (lv_at hl 1 rfl) ?_
      refine gR X hH fl_X11_61 lM_0 rfl dX11_bestBehind_98 ?_
      refine lv_iload hx hb dX11_bestBehind_101 (lv_at hl 5 rfl) ?_
      obtain ⟨hin5, hm⟩ := gIn_some hm
      refine ild X hH lM_18 hin5 dX11_bestBehind_103 ?_
      refine lv_aload_n hx hb dX11_bestBehind_104 rfl (lv_at hl 1 rfl) ?_
      refine gR X hH fl_X11_61 lM_0 rfl dX11_bestBehind_105 ?_
      refine lv_iload_n hx hb dX11_bestBehind_108 rfl (lv_at hl 4 rfl) ?_
      obtain ⟨hin6, hm⟩ := gIn_some hm
      refine ild X hH lM_18 hin6 dX11_bestBehind_109 ?_
      refine lv_icmp_ge hx hb dX11_bestBehind_110 (tgt := 117) (by decide) (fun hc => ?_) (fun hc => ?_)
      · rw [if_pos hc] at hm
        exact wX11_bestBehind_117 X ih8 x1 x2 x3 x4 t0 _ _ _ hm hH (lv_sub hl [1, 2, 3, 4, 5, 0] rfl)
      · rw [if_neg hc] at hm
        exact wX11_bestBehind_113 X ih8 x1 x2 x3 x4 t0 _ _ _ hm hH (lv_sub hl [1, 2, 3, 4, 5, 0] rfl)
def mX11_bestBehind_62 (h : Mm) (k8 : Int32 → Int32 → Int32 → Int32 → Option Int32) (x1 : Int32) (x2 : Int32) (x3 : Int32) (x4 : Int32) : Option Int32 := mX11_bestBehind_63 h k8 x1 x2 x3 x4 (0 : Int32)
set_option maxRecDepth 4000 in
theorem wX11_bestBehind_62 {p : Program} {l : Launch} {e : Env} {s : State} {m : MethodId} {args : Array Value} {below : List Frame} {meth : Method} {c : Code} {D : va_G} {ad : Nat → Nat} {ac : Nat → ClassId} {h : Mm} {r : Int32} (X : Fx p s m args meth c cX11_bestBehind 7 RX11 (some .int) D ad ac LM []) {k8 : Int32 → Int32 → Int32 → Int32 → Option Int32} (ih8 : ∀ (x1 : Int32) (x2 : Int32) (x3 : Int32) (x4 : Int32) (H : Heap) (locs : List Loc) (ls : Array Slot), k8 x1 x2 x3 x4 = some r → Hp D ad ac LM h s H locs → lv_has ls 7 [(0, .ref (ad 0)), (1, .int x1), (2, .int x2), (3, .int x3), (4, .int x4)] → W p l e (rmD 1) s m args below meth c H locs 0 0 (MQ below (QU D ad ac LM (some (.int r)) h s.heap.size) args s 0 0 (Aa ad LM.length s.heap.size)) (F0 m 8 ls [])) : ∀ (x1 : Int32) (x2 : Int32) (x3 : Int32) (x4 : Int32) (H : Heap) (locs : List Loc) (ls : Array Slot), mX11_bestBehind_62 h k8 x1 x2 x3 x4 = some r → Hp D ad ac LM h s H locs → lv_has ls 7 [(0, .ref (ad 0)), (1, .int x1), (2, .int x2), (3, .int x3), (4, .int x4)] → W p l e (rmD 1) s m args below meth c H locs 0 0 (MQ below (QU D ad ac LM (some (.int r)) h s.heap.size) args s 0 0 (Aa ad LM.length s.heap.size)) (F0 m 62 ls []) := by
  obtain ⟨hx, hb, hml, hown, hts, hr, hlk, hC, hI, hR⟩ := id X
  intro x1 x2 x3 x4 H locs ls hm hH hl
  rw [mX11_bestBehind_62] at hm
  refine lv_iconst (v := 0) hx hb dX11_bestBehind_62 (by decide) ?_
  exact wX11_bestBehind_63 X ih8 x1 x2 x3 x4 (0 : Int32) _ _ _ hm hH (lv_sub hl [0, 1, 2, 3, 4] rfl)
def mX11_bestBehind_58 (h : Mm) (k8 : Int32 → Int32 → Int32 → Int32 → Option Int32) (x1 : Int32) (x2 : Int32) (x3 : Int32) (x4 : Int32) : Option Int32 := mX11_bestBehind_63 h k8 x1 x2 x3 x4 (1 : Int32)
set_option maxRecDepth 4000 in
theorem wX11_bestBehind_58 {p : Program} {l : Launch} {e : Env} {s : State} {m : MethodId} {args : Array Value} {below : List Frame} {meth : Method} {c : Code} {D : va_G} {ad : Nat → Nat} {ac : Nat → ClassId} {h : Mm} {r : Int32} (X : Fx p s m args meth c cX11_bestBehind 7 RX11 (some .int) D ad ac LM []) {k8 : Int32 → Int32 → Int32 → Int32 → Option Int32} (ih8 : ∀ (x1 : Int32) (x2 : Int32) (x3 : Int32) (x4 : Int32) (H : Heap) (locs : List Loc) (ls : Array Slot), k8 x1 x2 x3 x4 = some r → Hp D ad ac LM h s H locs → lv_has ls 7 [(0, .ref (ad 0)), (1, .int x1), (2, .int x2), (3, .int x3), (4, .int x4)] → W p l e (rmD 1) s m args below meth c H locs 0 0 (MQ below (QU D ad ac LM (some (.int r)) h s.heap.size) args s 0 0 (Aa ad LM.length s.heap.size)) (F0 m 8 ls [])) : ∀ (x1 : Int32) (x2 : Int32) (x3 : Int32) (x4 : Int32) (H : Heap) (locs : List Loc) (ls : Array Slot), mX11_bestBehind_58 h k8 x1 x2 x3 x4 = some r → Hp D ad ac LM h s H locs → lv_has ls 7 [(0, .ref (ad 0)), (1, .int x1), (2, .int x2), (3, .int x3), (4, .int x4)] → W p l e (rmD 1) s m args below meth c H locs 0 0 (MQ below (QU D ad ac LM (some (.int r)) h s.heap.size) args s 0 0 (Aa ad LM.length s.heap.size)) (F0 m 58 ls []) := by
  obtain ⟨hx, hb, hml, hown, hts, hr, hlk, hC, hI, hR⟩ := id X
  intro x1 x2 x3 x4 H locs ls hm hH hl
  rw [mX11_bestBehind_58] at hm
  refine lv_iconst (v := 1) hx hb dX11_bestBehind_58 (by decide) ?_
  refine lv_goto hx hb dX11_bestBehind_59 (tgt := 63) (by decide) ?_
  exact wX11_bestBehind_63 X ih8 x1 x2 x3 x4 (1 : Int32) _ _ _ hm hH (lv_sub hl [0, 1, 2, 3, 4] rfl)
def mX11_bestBehind_8 (h : Mm) : Nat → Int32 → Int32 → Int32 → Int32 → Option Int32
  | 0, _, _, _, _ => none
  | n + 1, x1, x2, x3, x4 => if (h 0 16) ≤ x4 then (some x3) else (bd1 (mX11_fits h x4 x1) (fun v1 => if v1 = 0 then (mX11_bestBehind_62 h (mX11_bestBehind_8 h n) x1 x2 x3 x4) else (if x2 < 0 then (mX11_bestBehind_58 h (mX11_bestBehind_8 h n) x1 x2 x3 x4) else (gIn x4 24 (gIn x2 24 (gIn (((3 : Int32) * x1) + (2 : Int32)) 12 (if ((h 10 x4.toNatClampNeg) - (h 11 x2.toNatClampNeg)) ≤ (h 4 (((3 : Int32) * x1) + (2 : Int32)).toNatClampNeg) then (mX11_bestBehind_62 h (mX11_bestBehind_8 h n) x1 x2 x3 x4) else (mX11_bestBehind_58 h (mX11_bestBehind_8 h n) x1 x2 x3 x4))))))))
set_option maxRecDepth 4000 in
theorem wX11_bestBehind_8 {p : Program} {l : Launch} {e : Env} {s : State} {m : MethodId} {args : Array Value} {below : List Frame} {meth : Method} {c : Code} {D : va_G} {ad : Nat → Nat} {ac : Nat → ClassId} {h : Mm} {r : Int32} (X : Fx p s m args meth c cX11_bestBehind 7 RX11 (some .int) D ad ac LM []) : ∀ (n : Nat) (x1 : Int32) (x2 : Int32) (x3 : Int32) (x4 : Int32) (H : Heap) (locs : List Loc) (ls : Array Slot), mX11_bestBehind_8 h n x1 x2 x3 x4 = some r → Hp D ad ac LM h s H locs → lv_has ls 7 [(0, .ref (ad 0)), (1, .int x1), (2, .int x2), (3, .int x3), (4, .int x4)] → W p l e (rmD 1) s m args below meth c H locs 0 0 (MQ below (QU D ad ac LM (some (.int r)) h s.heap.size) args s 0 0 (Aa ad LM.length s.heap.size)) (F0 m 8 ls []) := by
  obtain ⟨hx, hb, hml, hown, hts, hr, hlk, hC, hI, hR⟩ := id X
  intro n
  induction n with
  | zero => intro x1 x2 x3 x4 H locs ls hm; rw [mX11_bestBehind_8] at hm; cases hm
  | succ n ih =>
    intro x1 x2 x3 x4 H locs ls hm hH hl
    rw [mX11_bestBehind_8] at hm
    refine lv_iload hx hb dX11_bestBehind_8 (lv_at hl 4 rfl) ?_
    refine lv_aload_n hx hb dX11_bestBehind_10 rfl (lv_at hl 0 rfl) ?_
    refine gI X hH fl_X11_124 lM_0 rfl dX11_bestBehind_11 ?_
    refine lv_icmp_ge hx hb dX11_bestBehind_14 (tgt := 143) (by decide) (fun hc => ?_) (fun hc => ?_)
    · rw [if_pos hc] at hm
      refine lv_iload_n hx hb dX11_bestBehind_143 rfl (lv_at hl 3 rfl) ?_
      cases hm
      exact retI X hH dX11_bestBehind_144
    · rw [if_neg hc] at hm
      refine lv_aload_n hx hb dX11_bestBehind_17 rfl (lv_at hl 0 rfl) ?_
      refine lv_iload hx hb dX11_bestBehind_18 (lv_at hl 4 rfl) ?_
      refine lv_iload_n hx hb dX11_bestBehind_20 rfl (lv_at hl 1 rfl) ?_
      obtain ⟨v1, hq, hm⟩ := bd1_some hm
      refine cVi X hH kl_X11_152 kv_X11_fits (mt_X11_fits hq) lM_0 rfl rfl (by decide) hl.1 rfl (Nat.le_of_ble_eq_true rfl) dX11_bestBehind_21 (fun H locs hH => ?_)
      refine lv_if_eq hx hb dX11_bestBehind_24 (tgt := 62) (by decide) (fun hc => ?_) (fun hc => ?_)
      · rw [if_pos hc] at hm
        exact wX11_bestBehind_62 X ih x1 x2 x3 x4 _ _ _ hm hH (lv_sub hl [0, 1, 2, 3, 4] rfl)
      · rw [if_neg hc] at hm
        refine lv_iload_n hx hb dX11_bestBehind_27 rfl (lv_at hl 2 rfl) ?_
        refine lv_if_lt hx hb dX11_bestBehind_28 (tgt := 58) (by decide) (fun hc => ?_) (fun hc => ?_)
        · rw [if_pos hc] at hm
          exact wX11_bestBehind_58 X ih x1 x2 x3 x4 _ _ _ hm hH (lv_sub hl [0, 1, 2, 3, 4] rfl)
        · rw [if_neg hc] at hm
          refine lv_aload_n hx hb dX11_bestBehind_31 rfl (lv_at hl 0 rfl) ?_
          refine gR X hH fl_X11_37 lM_0 rfl dX11_bestBehind_32 ?_
          refine lv_iload hx hb dX11_bestBehind_35 (lv_at hl 4 rfl) ?_
          obtain ⟨hin2, hm⟩ := gIn_some hm
          refine ild X hH lM_10 hin2 dX11_bestBehind_37 ?_
          refine lv_aload_n hx hb dX11_bestBehind_38 rfl (lv_at hl 0 rfl) ?_
          refine gR X hH fl_X11_40 lM_0 rfl dX11_bestBehind_39 ?_
          refine lv_iload_n hx hb dX11_bestBehind_42 rfl (lv_at hl 2 rfl) ?_
          obtain ⟨hin3, hm⟩ := gIn_some hm
          refine ild X hH lM_11 hin3 dX11_bestBehind_43 ?_
          refine lv_isub hx hb dX11_bestBehind_44 ?_
          refine lv_aload_n hx hb dX11_bestBehind_45 rfl (lv_at hl 0 rfl) ?_
          refine gR X hH fl_X11_19 lM_0 rfl dX11_bestBehind_46 ?_
          refine lv_iconst (v := 3) hx hb dX11_bestBehind_49 (by decide) ?_
          refine lv_iload_n hx hb dX11_bestBehind_50 rfl (lv_at hl 1 rfl) ?_
          refine lv_imul hx hb dX11_bestBehind_51 ?_
          refine lv_iconst (v := 2) hx hb dX11_bestBehind_52 (by decide) ?_
          refine lv_iadd hx hb dX11_bestBehind_53 ?_
          obtain ⟨hin4, hm⟩ := gIn_some hm
          refine ild X hH lM_4 hin4 dX11_bestBehind_54 ?_
          refine lv_icmp_le hx hb dX11_bestBehind_55 (tgt := 62) (by decide) (fun hc => ?_) (fun hc => ?_)
          · rw [if_pos hc] at hm
            exact wX11_bestBehind_62 X ih x1 x2 x3 x4 _ _ _ hm hH (lv_sub hl [0, 1, 2, 3, 4] rfl)
          · rw [if_neg hc] at hm
            exact wX11_bestBehind_58 X ih x1 x2 x3 x4 _ _ _ hm hH (lv_sub hl [0, 1, 2, 3, 4] rfl)
def mX11_bestBehind (h : Mm) (a1 : Int32) (a2 : Int32) : Option Int32 := mlet (a2 + (1 : Int32)) (fun u1 => mX11_bestBehind_8 h FU a1 a2 (24 : Int32) u1)
set_option maxRecDepth 4000 in
theorem mt_X11_bestBehind {l : Launch} {D : va_G} {ad : Nat → Nat} {ac : Nat → ClassId} {h : Mm} {a1 : Int32} {a2 : Int32} {r : Int32} (hm : mX11_bestBehind h a1 a2 = some r) : Mt l D ad ac LM [] yX11_bestBehind cX11_bestBehind 7 (some .int) 1 [.ref (ad 0), .int a1, .int a2] h (some (.int r)) h := by
  refine Mt.of (own := RX11) (by decide) rfl (Nat.le_of_ble_eq_true rfl) ?_
  intro p e s m below meth c ls X hH hl
  obtain ⟨hx, hb, hml, hown, hts, hr, hlk, hC, hI, hR⟩ := id X
  have hl : lv_has ls 7 [(0, .ref (ad 0)), (1, .int a1), (2, .int a2)] := hl
  rw [mX11_bestBehind] at hm
  refine lv_bipush (v := 24) hx hb dX11_bestBehind_0 (by decide) ?_
  refine lv_istore_n (lv' := [(3, .int (24 : Int32)), (0, .ref (ad 0)), (1, .int a1), (2, .int a2)]) hx hb dX11_bestBehind_2 rfl hl (by decide) rfl (fun ls hl => ?_)
  refine lv_iload_n hx hb dX11_bestBehind_3 rfl (lv_at hl 3 rfl) ?_
  refine lv_iconst (v := 1) hx hb dX11_bestBehind_4 (by decide) ?_
  refine lv_iadd hx hb dX11_bestBehind_5 ?_
  obtain ⟨u1, eu1, hm⟩ := mlet_some hm
  refine W.eq (g2 := F0 m 6 ls (.int u1 :: [])) (by rw [eu1]) ?_
  refine lv_istore (lv' := [(4, .int u1), (3, .int (24 : Int32)), (0, .ref (ad 0)), (1, .int a1), (2, .int a2)]) hx hb dX11_bestBehind_6 hl (by decide) rfl (fun ls hl => ?_)
  exact wX11_bestBehind_8 X FU a1 a2 (24 : Int32) u1 _ _ _ hm hH (lv_sub hl [2, 3, 4, 1, 0] rfl)
/-! X11_bests -/
def mX11_bests_23 : Nat → Int32 → Int32 → Mm → Option Mm
  | 0, _, _, _ => none
  | n + 1, x1, x2, h => if x2 < 0 then (some h) else (bd1 (mX11_bestBehind h x1 x2) (fun v1 => gIn x2 25 (mlet (wr h 19 x2.toNatClampNeg v1) (fun h2 => gIn x2 24 (gIn x2 25 (gIn (h2 19 x2.toNatClampNeg) 25 (gIn x2 25 (mlet (wr h2 17 x2.toNatClampNeg ((h2 14 x2.toNatClampNeg) + (h2 17 (h2 19 x2.toNatClampNeg).toNatClampNeg))) (fun h7 => gIn x2 25 (gIn (h7 19 x2.toNatClampNeg) 25 (gIn x2 25 (mlet (wr h7 18 x2.toNatClampNeg ((1 : Int32) + (h7 18 (h7 19 x2.toNatClampNeg).toNatClampNeg))) (fun h11 => mX11_bests_23 n x1 (x2 + (-1)) h11)))))))))))))
set_option maxRecDepth 4000 in
theorem wX11_bests_23 {p : Program} {l : Launch} {e : Env} {s : State} {m : MethodId} {args : Array Value} {below : List Frame} {meth : Method} {c : Code} {D : va_G} {ad : Nat → Nat} {ac : Nat → ClassId} {h' : Mm} (X : Fx p s m args meth c cX11_bests 3 RX11 none D ad ac LM []) : ∀ (n : Nat) (x1 : Int32) (x2 : Int32) (h : Mm) (H : Heap) (locs : List Loc) (ls : Array Slot), mX11_bests_23 n x1 x2 h = some h' → Hp D ad ac LM h s H locs → lv_has ls 3 [(0, .ref (ad 0)), (1, .int x1), (2, .int x2)] → W p l e (rmD 2) s m args below meth c H locs 0 0 (MQ below (QU D ad ac LM none h' s.heap.size) args s 0 0 (Aa ad LM.length s.heap.size)) (F0 m 23 ls []) := by
  obtain ⟨hx, hb, hml, hown, hts, hr, hlk, hC, hI, hR⟩ := id X
  intro n
  induction n with
  | zero => intro x1 x2 h H locs ls hm; rw [mX11_bests_23] at hm; cases hm
  | succ n ih =>
    intro x1 x2 h H locs ls hm hH hl
    rw [mX11_bests_23] at hm
    refine lv_iload_n hx hb dX11_bests_23 rfl (lv_at hl 2 rfl) ?_
    refine lv_if_lt hx hb dX11_bests_24 (tgt := 88) (by decide) (fun hc => ?_) (fun hc => ?_)
    · rw [if_pos hc] at hm
      cases hm
      exact retV X hH dX11_bests_88
    · rw [if_neg hc] at hm
      refine lv_aload_n hx hb dX11_bests_27 rfl (lv_at hl 0 rfl) ?_
      refine gR X hH fl_X11_64 lM_0 rfl dX11_bests_28 ?_
      refine lv_iload_n hx hb dX11_bests_31 rfl (lv_at hl 2 rfl) ?_
      refine lv_aload_n hx hb dX11_bests_32 rfl (lv_at hl 0 rfl) ?_
      refine lv_iload_n hx hb dX11_bests_33 rfl (lv_at hl 1 rfl) ?_
      refine lv_iload_n hx hb dX11_bests_34 rfl (lv_at hl 2 rfl) ?_
      obtain ⟨v1, hq, hm⟩ := bd1_some hm
      refine cVi X hH kl_X11_174 kv_X11_bestBehind (mt_X11_bestBehind hq) lM_0 rfl rfl (by decide) hl.1 rfl (Nat.le_of_ble_eq_true rfl) dX11_bests_35 (fun H locs hH => ?_)
      obtain ⟨hin3, hm⟩ := gIn_some hm
      obtain ⟨h2, eh2, hm⟩ := mlet_some hm
      refine ist X hH lM_19 hin3 dX11_bests_38 (fun H locs hH => ?_)
      rw [← eh2] at hH
      refine lv_aload_n hx hb dX11_bests_39 rfl (lv_at hl 0 rfl) ?_
      refine gR X hH fl_X11_58 lM_0 rfl dX11_bests_40 ?_
      refine lv_iload_n hx hb dX11_bests_43 rfl (lv_at hl 2 rfl) ?_
      refine lv_aload_n hx hb dX11_bests_44 rfl (lv_at hl 0 rfl) ?_
      refine gR X hH fl_X11_49 lM_0 rfl dX11_bests_45 ?_
      refine lv_iload_n hx hb dX11_bests_48 rfl (lv_at hl 2 rfl) ?_
      obtain ⟨hin4, hm⟩ := gIn_some hm
      refine ild X hH lM_14 hin4 dX11_bests_49 ?_
      refine lv_aload_n hx hb dX11_bests_50 rfl (lv_at hl 0 rfl) ?_
      refine gR X hH fl_X11_58 lM_0 rfl dX11_bests_51 ?_
      refine lv_aload_n hx hb dX11_bests_54 rfl (lv_at hl 0 rfl) ?_
      refine gR X hH fl_X11_64 lM_0 rfl dX11_bests_55 ?_
      refine lv_iload_n hx hb dX11_bests_58 rfl (lv_at hl 2 rfl) ?_
      obtain ⟨hin5, hm⟩ := gIn_some hm
      refine ild X hH lM_19 hin5 dX11_bests_59 ?_
      obtain ⟨hin6, hm⟩ := gIn_some hm
      refine ild X hH lM_17 hin6 dX11_bests_60 ?_
      refine lv_iadd hx hb dX11_bests_61 ?_
      obtain ⟨hin8, hm⟩ := gIn_some hm
      obtain ⟨h7, eh7, hm⟩ := mlet_some hm
      refine ist X hH lM_17 hin8 dX11_bests_62 (fun H locs hH => ?_)
      rw [← eh7] at hH
      refine lv_aload_n hx hb dX11_bests_63 rfl (lv_at hl 0 rfl) ?_
      refine gR X hH fl_X11_61 lM_0 rfl dX11_bests_64 ?_
      refine lv_iload_n hx hb dX11_bests_67 rfl (lv_at hl 2 rfl) ?_
      refine lv_iconst (v := 1) hx hb dX11_bests_68 (by decide) ?_
      refine lv_aload_n hx hb dX11_bests_69 rfl (lv_at hl 0 rfl) ?_
      refine gR X hH fl_X11_61 lM_0 rfl dX11_bests_70 ?_
      refine lv_aload_n hx hb dX11_bests_73 rfl (lv_at hl 0 rfl) ?_
      refine gR X hH fl_X11_64 lM_0 rfl dX11_bests_74 ?_
      refine lv_iload_n hx hb dX11_bests_77 rfl (lv_at hl 2 rfl) ?_
      obtain ⟨hin9, hm⟩ := gIn_some hm
      refine ild X hH lM_19 hin9 dX11_bests_78 ?_
      obtain ⟨hin10, hm⟩ := gIn_some hm
      refine ild X hH lM_18 hin10 dX11_bests_79 ?_
      refine lv_iadd hx hb dX11_bests_80 ?_
      obtain ⟨hin12, hm⟩ := gIn_some hm
      obtain ⟨h11, eh11, hm⟩ := mlet_some hm
      refine ist X hH lM_18 hin12 dX11_bests_81 (fun H locs hH => ?_)
      rw [← eh11] at hH
      refine lv_iinc (k := 2) (v := (x2 + (-1))) (lv' := [(2, .int (x2 + (-1))), (0, .ref (ad 0)), (1, .int x1)]) hx hb dX11_bests_82 hl rfl rfl (by decide) rfl (fun ls hl => ?_)
      refine lv_goto hx hb dX11_bests_85 (tgt := 23) (by decide) ?_
      exact ih x1 (x2 + (-1)) h11 _ _ _ hm hH (lv_sub hl [1, 2, 0] rfl)
def mX11_bests (h : Mm) (a1 : Int32) : Option Mm := gIn (24 : Int32) 25 (mlet (wr h 17 (24 : Int32).toNatClampNeg (0 : Int32)) (fun h1 => gIn (24 : Int32) 25 (mlet (wr h1 18 (24 : Int32).toNatClampNeg (0 : Int32)) (fun h3 => mlet ((h3 0 16) - (1 : Int32)) (fun u5 => mX11_bests_23 FU a1 u5 h3)))))
set_option maxRecDepth 4000 in
theorem mt_X11_bests {l : Launch} {D : va_G} {ad : Nat → Nat} {ac : Nat → ClassId} {h : Mm} {a1 : Int32} {h' : Mm} (hm : mX11_bests h a1 = some h') : Mt l D ad ac LM [] yX11_bests cX11_bests 3 none 2 [.ref (ad 0), .int a1] h none h' := by
  refine Mt.of (own := RX11) (by decide) rfl (Nat.le_of_ble_eq_true rfl) ?_
  intro p e s m below meth c ls X hH hl
  obtain ⟨hx, hb, hml, hown, hts, hr, hlk, hC, hI, hR⟩ := id X
  have hl : lv_has ls 3 [(0, .ref (ad 0)), (1, .int a1)] := hl
  rw [mX11_bests] at hm
  refine lv_aload_n hx hb dX11_bests_0 rfl (lv_at hl 0 rfl) ?_
  refine gR X hH fl_X11_58 lM_0 rfl dX11_bests_1 ?_
  refine lv_bipush (v := 24) hx hb dX11_bests_4 (by decide) ?_
  refine lv_iconst (v := 0) hx hb dX11_bests_6 (by decide) ?_
  obtain ⟨hin2, hm⟩ := gIn_some hm
  obtain ⟨h1, eh1, hm⟩ := mlet_some hm
  refine ist X hH lM_17 hin2 dX11_bests_7 (fun H locs hH => ?_)
  rw [← eh1] at hH
  refine lv_aload_n hx hb dX11_bests_8 rfl (lv_at hl 0 rfl) ?_
  refine gR X hH fl_X11_61 lM_0 rfl dX11_bests_9 ?_
  refine lv_bipush (v := 24) hx hb dX11_bests_12 (by decide) ?_
  refine lv_iconst (v := 0) hx hb dX11_bests_14 (by decide) ?_
  obtain ⟨hin4, hm⟩ := gIn_some hm
  obtain ⟨h3, eh3, hm⟩ := mlet_some hm
  refine ist X hH lM_18 hin4 dX11_bests_15 (fun H locs hH => ?_)
  rw [← eh3] at hH
  refine lv_aload_n hx hb dX11_bests_16 rfl (lv_at hl 0 rfl) ?_
  refine gI X hH fl_X11_124 lM_0 rfl dX11_bests_17 ?_
  refine lv_iconst (v := 1) hx hb dX11_bests_20 (by decide) ?_
  refine lv_isub hx hb dX11_bests_21 ?_
  obtain ⟨u5, eu5, hm⟩ := mlet_some hm
  refine W.eq (g2 := F0 m 22 ls (.int u5 :: [])) (by rw [eu5]) ?_
  refine lv_istore_n (lv' := [(2, .int u5), (0, .ref (ad 0)), (1, .int a1)]) hx hb dX11_bests_22 rfl hl (by decide) rfl (fun ls hl => ?_)
  exact wX11_bests_23 X FU a1 u5 h3 _ _ _ hm hH (lv_sub hl [1, 2, 0] rfl)
/-! X11_best -/
def mX11_best_81 (x3 : Int32) (h : Mm) : Option (Int32 × Mm) := if (24 : Int32) ≤ x3 then (some ((-4 : Int32), h)) else (some (x3, h))
set_option maxRecDepth 4000 in
theorem wX11_best_81 {p : Program} {l : Launch} {e : Env} {s : State} {m : MethodId} {args : Array Value} {below : List Frame} {meth : Method} {c : Code} {D : va_G} {ad : Nat → Nat} {ac : Nat → ClassId} {r : Int32} {h' : Mm} (X : Fx p s m args meth c cX11_best 5 RX11 (some .int) D ad ac LM []) : ∀ (x3 : Int32) (h : Mm) (H : Heap) (locs : List Loc) (ls : Array Slot), mX11_best_81 x3 h = some (r, h') → Hp D ad ac LM h s H locs → lv_has ls 5 [(3, .int x3)] → W p l e (rmD 3) s m args below meth c H locs 0 0 (MQ below (QU D ad ac LM (some (.int r)) h' s.heap.size) args s 0 0 (Aa ad LM.length s.heap.size)) (F0 m 81 ls []) := by
  obtain ⟨hx, hb, hml, hown, hts, hr, hlk, hC, hI, hR⟩ := id X
  intro x3 h H locs ls hm hH hl
  rw [mX11_best_81] at hm
  refine lv_iload_n hx hb dX11_best_81 rfl (lv_at hl 0 rfl) ?_
  refine lv_bipush (v := 24) hx hb dX11_best_82 (by decide) ?_
  refine lv_icmp_ge hx hb dX11_best_84 (tgt := 91) (by decide) (fun hc => ?_) (fun hc => ?_)
  · rw [if_pos hc] at hm
    refine lv_bipush (v := (-4)) hx hb dX11_best_91 (by decide) ?_
    cases hm
    exact retI X hH dX11_best_93
  · rw [if_neg hc] at hm
    refine lv_iload_n hx hb dX11_best_87 rfl (lv_at hl 0 rfl) ?_
    refine lv_goto hx hb dX11_best_88 (tgt := 93) (by decide) ?_
    cases hm
    exact retI X hH dX11_best_93
def mX11_best_56 : Nat → Int32 → Int32 → Int32 → Mm → Option (Int32 × Mm)
  | 0, _, _, _, _ => none
  | n + 1, x2, x3, x4, h => if x2 ≤ x4 then (mX11_best_81 x3 h) else (if (24 : Int32) ≤ x3 then (mX11_best_81 x3 h) else (gIn x3 25 (mlet (h 19 x3.toNatClampNeg) (fun u2 => mX11_best_56 n x2 u2 (x4 + 1) h))))
set_option maxRecDepth 4000 in
theorem wX11_best_56 {p : Program} {l : Launch} {e : Env} {s : State} {m : MethodId} {args : Array Value} {below : List Frame} {meth : Method} {c : Code} {D : va_G} {ad : Nat → Nat} {ac : Nat → ClassId} {r : Int32} {h' : Mm} (X : Fx p s m args meth c cX11_best 5 RX11 (some .int) D ad ac LM []) : ∀ (n : Nat) (x2 : Int32) (x3 : Int32) (x4 : Int32) (h : Mm) (H : Heap) (locs : List Loc) (ls : Array Slot), mX11_best_56 n x2 x3 x4 h = some (r, h') → Hp D ad ac LM h s H locs → lv_has ls 5 [(0, .ref (ad 0)), (2, .int x2), (3, .int x3), (4, .int x4)] → W p l e (rmD 3) s m args below meth c H locs 0 0 (MQ below (QU D ad ac LM (some (.int r)) h' s.heap.size) args s 0 0 (Aa ad LM.length s.heap.size)) (F0 m 56 ls []) := by
  obtain ⟨hx, hb, hml, hown, hts, hr, hlk, hC, hI, hR⟩ := id X
  intro n
  induction n with
  | zero => intro x2 x3 x4 h H locs ls hm; rw [mX11_best_56] at hm; cases hm
  | succ n ih =>
    intro x2 x3 x4 h H locs ls hm hH hl
    rw [mX11_best_56] at hm
    refine lv_iload hx hb dX11_best_56 (lv_at hl 3 rfl) ?_
    refine lv_iload_n hx hb dX11_best_58 rfl (lv_at hl 1 rfl) ?_
    refine lv_icmp_ge hx hb dX11_best_59 (tgt := 81) (by decide) (fun hc => ?_) (fun hc => ?_)
    · rw [if_pos hc] at hm
      exact wX11_best_81 X x3 h _ _ _ hm hH (lv_sub hl [2] rfl)
    · rw [if_neg hc] at hm
      refine lv_iload_n hx hb dX11_best_62 rfl (lv_at hl 2 rfl) ?_
      refine lv_bipush (v := 24) hx hb dX11_best_63 (by decide) ?_
      refine lv_icmp_ge hx hb dX11_best_65 (tgt := 81) (by decide) (fun hc => ?_) (fun hc => ?_)
      · rw [if_pos hc] at hm
        exact wX11_best_81 X x3 h _ _ _ hm hH (lv_sub hl [2] rfl)
      · rw [if_neg hc] at hm
        refine lv_aload_n hx hb dX11_best_68 rfl (lv_at hl 0 rfl) ?_
        refine gR X hH fl_X11_64 lM_0 rfl dX11_best_69 ?_
        refine lv_iload_n hx hb dX11_best_72 rfl (lv_at hl 2 rfl) ?_
        obtain ⟨hin1, hm⟩ := gIn_some hm
        refine ild X hH lM_19 hin1 dX11_best_73 ?_
        obtain ⟨u2, eu2, hm⟩ := mlet_some hm
        refine W.eq (g2 := F0 m 74 ls (.int u2 :: [])) (by rw [eu2]) ?_
        refine lv_istore_n (lv' := [(3, .int u2), (0, .ref (ad 0)), (2, .int x2), (4, .int x4)]) hx hb dX11_best_74 rfl hl (by decide) rfl (fun ls hl => ?_)
        refine lv_iinc (k := 3) (v := (x4 + 1)) (lv' := [(4, .int (x4 + 1)), (3, .int u2), (0, .ref (ad 0)), (2, .int x2)]) hx hb dX11_best_75 hl rfl rfl (by decide) rfl (fun ls hl => ?_)
        refine lv_goto hx hb dX11_best_78 (tgt := 56) (by decide) ?_
        exact ih x2 u2 (x4 + 1) h _ _ _ hm hH (lv_sub hl [2, 3, 1, 0] rfl)
def mX11_best (h : Mm) (a1 : Int32) (a2 : Int32) : Option (Int32 × Mm) := bd1 (mX11_isAntenna h a1) (fun v1 => if v1 = 0 then (some ((-1 : Int32), h)) else (if (-2 : Int32) ≤ a2 then (bdh (mX11_bests h a1) (fun h2 => bd1 (mX11_bestBehind h2 a1 (-1 : Int32)) (fun v3 => if 0 ≤ a2 then (mX11_best_56 FU a2 v3 (0 : Int32) h2) else (if a2 = (-1 : Int32) then (gIn v3 25 (some ((h2 17 v3.toNatClampNeg), h2))) else (gIn v3 25 (some ((h2 18 v3.toNatClampNeg), h2))))))) else (some ((-1 : Int32), h))))
set_option maxRecDepth 4000 in
theorem mt_X11_best {l : Launch} {D : va_G} {ad : Nat → Nat} {ac : Nat → ClassId} {h : Mm} {a1 : Int32} {a2 : Int32} {r : Int32} {h' : Mm} (hm : mX11_best h a1 a2 = some (r, h')) : Mt l D ad ac LM [] yX11_best cX11_best 5 (some .int) 3 [.ref (ad 0), .int a1, .int a2] h (some (.int r)) h' := by
  refine Mt.of (own := RX11) (by decide) rfl (Nat.le_of_ble_eq_true rfl) ?_
  intro p e s m below meth c ls X hH hl
  obtain ⟨hx, hb, hml, hown, hts, hr, hlk, hC, hI, hR⟩ := id X
  have hl : lv_has ls 5 [(0, .ref (ad 0)), (1, .int a1), (2, .int a2)] := hl
  rw [mX11_best] at hm
  refine lv_aload_n hx hb dX11_best_0 rfl (lv_at hl 0 rfl) ?_
  refine lv_iload_n hx hb dX11_best_1 rfl (lv_at hl 1 rfl) ?_
  obtain ⟨v1, hq, hm⟩ := bd1_some hm
  refine cVi X hH kl_X11_144 kv_X11_isAntenna (mt_X11_isAntenna hq) lM_0 rfl rfl (by decide) hl.1 rfl (Nat.le_of_ble_eq_true rfl) dX11_best_2 (fun H locs hH => ?_)
  refine lv_if_eq hx hb dX11_best_5 (tgt := 14) (by decide) (fun hc => ?_) (fun hc => ?_)
  · rw [if_pos hc] at hm
    refine lv_iconst (v := (-1)) hx hb dX11_best_14 (by decide) ?_
    cases hm
    exact retI X hH dX11_best_15
  · rw [if_neg hc] at hm
    refine lv_iload_n hx hb dX11_best_8 rfl (lv_at hl 2 rfl) ?_
    refine lv_bipush (v := (-2)) hx hb dX11_best_9 (by decide) ?_
    refine lv_icmp_ge hx hb dX11_best_11 (tgt := 16) (by decide) (fun hc => ?_) (fun hc => ?_)
    · rw [if_pos hc] at hm
      refine lv_aload_n hx hb dX11_best_16 rfl (lv_at hl 0 rfl) ?_
      refine lv_iload_n hx hb dX11_best_17 rfl (lv_at hl 1 rfl) ?_
      obtain ⟨h2, hq, hm⟩ := bdh_some hm
      refine cVv X hH kl_X11_177 kv_X11_bests (mt_X11_bests hq) lM_0 rfl rfl (by decide) hl.1 rfl (Nat.le_of_ble_eq_true rfl) dX11_best_18 (fun H locs hH => ?_)
      refine lv_aload_n hx hb dX11_best_21 rfl (lv_at hl 0 rfl) ?_
      refine lv_iload_n hx hb dX11_best_22 rfl (lv_at hl 1 rfl) ?_
      refine lv_iconst (v := (-1)) hx hb dX11_best_23 (by decide) ?_
      obtain ⟨v3, hq, hm⟩ := bd1_some hm
      refine cVi X hH kl_X11_174 kv_X11_bestBehind (mt_X11_bestBehind hq) lM_0 rfl rfl (by decide) hl.1 rfl (Nat.le_of_ble_eq_true rfl) dX11_best_24 (fun H locs hH => ?_)
      refine lv_istore_n (lv' := [(3, .int v3), (0, .ref (ad 0)), (1, .int a1), (2, .int a2)]) hx hb dX11_best_27 rfl hl (by decide) rfl (fun ls hl => ?_)
      refine lv_iload_n hx hb dX11_best_28 rfl (lv_at hl 3 rfl) ?_
      refine lv_if_ge hx hb dX11_best_29 (tgt := 53) (by decide) (fun hc => ?_) (fun hc => ?_)
      · rw [if_pos hc] at hm
        refine lv_iconst (v := 0) hx hb dX11_best_53 (by decide) ?_
        refine lv_istore (lv' := [(4, .int (0 : Int32)), (3, .int v3), (0, .ref (ad 0)), (1, .int a1), (2, .int a2)]) hx hb dX11_best_54 hl (by decide) rfl (fun ls hl => ?_)
        exact wX11_best_56 X FU a2 v3 (0 : Int32) h2 _ _ _ hm hH (lv_sub hl [2, 4, 1, 0] rfl)
      · rw [if_neg hc] at hm
        refine lv_iload_n hx hb dX11_best_32 rfl (lv_at hl 3 rfl) ?_
        refine lv_iconst (v := (-1)) hx hb dX11_best_33 (by decide) ?_
        refine lv_icmp_ne hx hb dX11_best_34 (tgt := 46) (by decide) (fun hc => ?_) (fun hc => ?_)
        · rw [if_neg hc] at hm
          refine lv_aload_n hx hb dX11_best_46 rfl (lv_at hl 1 rfl) ?_
          refine gR X hH fl_X11_61 lM_0 rfl dX11_best_47 ?_
          refine lv_iload_n hx hb dX11_best_50 rfl (lv_at hl 0 rfl) ?_
          obtain ⟨hin4, hm⟩ := gIn_some hm
          refine ild X hH lM_18 hin4 dX11_best_51 ?_
          cases hm
          exact retI X hH dX11_best_52
        · rw [if_pos hc] at hm
          refine lv_aload_n hx hb dX11_best_37 rfl (lv_at hl 1 rfl) ?_
          refine gR X hH fl_X11_58 lM_0 rfl dX11_best_38 ?_
          refine lv_iload_n hx hb dX11_best_41 rfl (lv_at hl 0 rfl) ?_
          obtain ⟨hin5, hm⟩ := gIn_some hm
          refine ild X hH lM_17 hin5 dX11_best_42 ?_
          refine lv_goto hx hb dX11_best_43 (tgt := 52) (by decide) ?_
          cases hm
          exact retI X hH dX11_best_52
    · rw [if_neg hc] at hm
      refine lv_iconst (v := (-1)) hx hb dX11_best_14 (by decide) ?_
      cases hm
      exact retI X hH dX11_best_15
