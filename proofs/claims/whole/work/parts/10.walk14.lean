/-! X11_fault -/
def mX11_fault_25 : Nat → Mm → Option (Int32 × Mm)
  | 0, _ => none
  | n + 1, h => if (h 0 0) ≤ (h 0 2) then (some ((-4 : Int32), h)) else (mlet (h 0 2) (fun u1 => mlet (wr h 0 2 ((h 0 2) + (1 : Int32))) (fun h2 => gIn u1 200 (bd2 (mX11_item h2 (h2 1 u1.toNatClampNeg)) (fun v5 h4 => if v5 = 0 then (some (u1, h4)) else (bd1 (mX11_byteAt h4 (h4 0 2)) (fun v6 => if v6 = (59 : Int32) then (mlet (wr h4 0 2 ((h4 0 2) + (1 : Int32))) (fun h7 => mX11_fault_25 n  h7)) else (some (u1, h4)))))))))
set_option maxRecDepth 4000 in
theorem wX11_fault_25 {p : Program} {l : Launch} {e : Env} {s : State} {m : MethodId} {args : Array Value} {below : List Frame} {meth : Method} {c : Code} {D : va_G} {ad : Nat → Nat} {ac : Nat → ClassId} {r : Int32} {h' : Mm} (X : Fx p s m args meth c cX11_fault 2 RX11 (some .int) D ad ac LM []) : ∀ (n : Nat) (h : Mm) (H : Heap) (locs : List Loc) (ls : Array Slot), mX11_fault_25 n h = some (r, h') → Hp D ad ac LM h s H locs → lv_has ls 2 [(0, .ref (ad 0))] → W p l e (rmD 3) s m args below meth c H locs 0 0 (MQ below (QU D ad ac LM (some (.int r)) h' s.heap.size) args s 0 0 (Aa ad LM.length s.heap.size)) (F0 m 25 ls []) := by
  obtain ⟨hx, hb, hml, hown, hts, hr, hlk, hC, hI, hR⟩ := id X
  intro n
  induction n with
  | zero => intro h H locs ls hm; rw [mX11_fault_25] at hm; cases hm
  | succ n ih =>
    intro h H locs ls hm hH hl
    rw [mX11_fault_25] at hm
    refine lv_aload_n hx hb dX11_fault_25 rfl (lv_at hl 0 rfl) ?_
    refine gI X hH fl_X11_101 lM_0 rfl dX11_fault_26 ?_
    refine lv_aload_n hx hb dX11_fault_29 rfl (lv_at hl 0 rfl) ?_
    refine gI X hH fl_X11_97 lM_0 rfl dX11_fault_30 ?_
    refine lv_icmp_ge hx hb dX11_fault_33 (tgt := 92) (by decide) (fun hc => ?_) (fun hc => ?_)
    · rw [if_pos hc] at hm
      refine lv_bipush (v := (-4)) hx hb dX11_fault_92 (by decide) ?_
      cases hm
      exact retI X hH dX11_fault_94
    · rw [if_neg hc] at hm
      refine lv_aload_n hx hb dX11_fault_36 rfl (lv_at hl 0 rfl) ?_
      refine gI X hH fl_X11_101 lM_0 rfl dX11_fault_37 ?_
      obtain ⟨u1, eu1, hm⟩ := mlet_some hm
      refine W.eq (g2 := F0 m 40 ls (.int u1 :: [])) (by rw [eu1]) ?_
      refine lv_istore_n (lv' := [(1, .int u1), (0, .ref (ad 0))]) hx hb dX11_fault_40 rfl hl (by decide) rfl (fun ls hl => ?_)
      refine lv_aload_n hx hb dX11_fault_41 rfl (lv_at hl 1 rfl) ?_
      refine lv_dup hx hb dX11_fault_42 rfl ?_
      refine gI X hH fl_X11_101 lM_0 rfl dX11_fault_43 ?_
      refine lv_iconst (v := 1) hx hb dX11_fault_46 (by decide) ?_
      refine lv_iadd hx hb dX11_fault_47 ?_
      obtain ⟨h2, eh2, hm⟩ := mlet_some hm
      refine pI X hH fl_X11_101 fw_11_2 lM_0 rfl dX11_fault_48 (fun H locs hH => ?_)
      rw [← eh2] at hH
      refine lv_aload_n hx hb dX11_fault_51 rfl (lv_at hl 1 rfl) ?_
      refine lv_aload_n hx hb dX11_fault_52 rfl (lv_at hl 1 rfl) ?_
      refine gR X hH fl_X11_7 lM_0 rfl dX11_fault_53 ?_
      refine lv_iload_n hx hb dX11_fault_56 rfl (lv_at hl 0 rfl) ?_
      obtain ⟨hin3, hm⟩ := gIn_some hm
      refine ild X hH lM_1 hin3 dX11_fault_57 ?_
      obtain ⟨v5, h4, hq, hm⟩ := bd2_some hm
      refine cVi X hH kl_X11_116 kv_X11_item (mt_X11_item hq) lM_0 rfl rfl (by decide) hl.1 rfl (Nat.le_of_ble_eq_true rfl) dX11_fault_58 (fun H locs hH => ?_)
      refine lv_if_eq hx hb dX11_fault_61 (tgt := 77) (by decide) (fun hc => ?_) (fun hc => ?_)
      · rw [if_pos hc] at hm
        refine lv_iload_n hx hb dX11_fault_77 rfl (lv_at hl 0 rfl) ?_
        cases hm
        exact retI X hH dX11_fault_78
      · rw [if_neg hc] at hm
        refine lv_aload_n hx hb dX11_fault_64 rfl (lv_at hl 1 rfl) ?_
        refine lv_aload_n hx hb dX11_fault_65 rfl (lv_at hl 1 rfl) ?_
        refine gI X hH fl_X11_101 lM_0 rfl dX11_fault_66 ?_
        obtain ⟨v6, hq, hm⟩ := bd1_some hm
        refine cVi X hH kl_X11_104 kv_X11_byteAt (mt_X11_byteAt hq) lM_0 rfl rfl (by decide) hl.1 rfl (Nat.le_of_ble_eq_true rfl) dX11_fault_69 (fun H locs hH => ?_)
        refine lv_bipush (v := 59) hx hb dX11_fault_72 (by decide) ?_
        refine lv_icmp_eq hx hb dX11_fault_74 (tgt := 79) (by decide) (fun hc => ?_) (fun hc => ?_)
        · rw [if_pos hc] at hm
          refine lv_aload_n hx hb dX11_fault_79 rfl (lv_at hl 1 rfl) ?_
          refine lv_dup hx hb dX11_fault_80 rfl ?_
          refine gI X hH fl_X11_101 lM_0 rfl dX11_fault_81 ?_
          refine lv_iconst (v := 1) hx hb dX11_fault_84 (by decide) ?_
          refine lv_iadd hx hb dX11_fault_85 ?_
          obtain ⟨h7, eh7, hm⟩ := mlet_some hm
          refine pI X hH fl_X11_101 fw_11_2 lM_0 rfl dX11_fault_86 (fun H locs hH => ?_)
          rw [← eh7] at hH
          refine lv_goto hx hb dX11_fault_89 (tgt := 25) (by decide) ?_
          exact ih  h7 _ _ _ hm hH (lv_sub hl [1] rfl)
        · rw [if_neg hc] at hm
          refine lv_iload_n hx hb dX11_fault_77 rfl (lv_at hl 0 rfl) ?_
          cases hm
          exact retI X hH dX11_fault_78
def mX11_fault_2 : Nat → Int32 → Mm → Option (Int32 × Mm)
  | 0, _, _ => none
  | n + 1, x1, h => if (3 : Int32) ≤ x1 then (mlet (wr h 0 2 (0 : Int32)) (fun h1 => mX11_fault_25 FU  h1)) else (gIn x1 3 (mlet (wr h 9 x1.toNatClampNeg (0 : Int32)) (fun h2 => mX11_fault_2 n (x1 + 1) h2)))
set_option maxRecDepth 4000 in
theorem wX11_fault_2 {p : Program} {l : Launch} {e : Env} {s : State} {m : MethodId} {args : Array Value} {below : List Frame} {meth : Method} {c : Code} {D : va_G} {ad : Nat → Nat} {ac : Nat → ClassId} {r : Int32} {h' : Mm} (X : Fx p s m args meth c cX11_fault 2 RX11 (some .int) D ad ac LM []) : ∀ (n : Nat) (x1 : Int32) (h : Mm) (H : Heap) (locs : List Loc) (ls : Array Slot), mX11_fault_2 n x1 h = some (r, h') → Hp D ad ac LM h s H locs → lv_has ls 2 [(0, .ref (ad 0)), (1, .int x1)] → W p l e (rmD 3) s m args below meth c H locs 0 0 (MQ below (QU D ad ac LM (some (.int r)) h' s.heap.size) args s 0 0 (Aa ad LM.length s.heap.size)) (F0 m 2 ls []) := by
  obtain ⟨hx, hb, hml, hown, hts, hr, hlk, hC, hI, hR⟩ := id X
  intro n
  induction n with
  | zero => intro x1 h H locs ls hm; rw [mX11_fault_2] at hm; cases hm
  | succ n ih =>
    intro x1 h H locs ls hm hH hl
    rw [mX11_fault_2] at hm
    refine lv_iload_n hx hb dX11_fault_2 rfl (lv_at hl 1 rfl) ?_
    refine lv_iconst (v := 3) hx hb dX11_fault_3 (by decide) ?_
    refine lv_icmp_ge hx hb dX11_fault_4 (tgt := 20) (by decide) (fun hc => ?_) (fun hc => ?_)
    · rw [if_pos hc] at hm
      refine lv_aload_n hx hb dX11_fault_20 rfl (lv_at hl 0 rfl) ?_
      refine lv_iconst (v := 0) hx hb dX11_fault_21 (by decide) ?_
      obtain ⟨h1, eh1, hm⟩ := mlet_some hm
      refine pI X hH fl_X11_101 fw_11_2 lM_0 rfl dX11_fault_22 (fun H locs hH => ?_)
      rw [← eh1] at hH
      exact wX11_fault_25 X FU  h1 _ _ _ hm hH (lv_sub hl [0] rfl)
    · rw [if_neg hc] at hm
      refine lv_aload_n hx hb dX11_fault_7 rfl (lv_at hl 0 rfl) ?_
      refine gR X hH fl_X11_34 lM_0 rfl dX11_fault_8 ?_
      refine lv_iload_n hx hb dX11_fault_11 rfl (lv_at hl 1 rfl) ?_
      refine lv_iconst (v := 0) hx hb dX11_fault_12 (by decide) ?_
      obtain ⟨hin3, hm⟩ := gIn_some hm
      obtain ⟨h2, eh2, hm⟩ := mlet_some hm
      refine ist X hH lM_9 hin3 dX11_fault_13 (fun H locs hH => ?_)
      rw [← eh2] at hH
      refine lv_iinc (k := 1) (v := (x1 + 1)) (lv' := [(1, .int (x1 + 1)), (0, .ref (ad 0))]) hx hb dX11_fault_14 hl rfl rfl (by decide) rfl (fun ls hl => ?_)
      refine lv_goto hx hb dX11_fault_17 (tgt := 2) (by decide) ?_
      exact ih (x1 + 1) h2 _ _ _ hm hH (lv_sub hl [1, 0] rfl)
def mX11_fault (h : Mm) : Option (Int32 × Mm) := mX11_fault_2 FU (0 : Int32) h
set_option maxRecDepth 4000 in
theorem mt_X11_fault {l : Launch} {D : va_G} {ad : Nat → Nat} {ac : Nat → ClassId} {h : Mm} {r : Int32} {h' : Mm} (hm : mX11_fault h = some (r, h')) : Mt l D ad ac LM [] yX11_fault cX11_fault 2 (some .int) 3 [.ref (ad 0)] h (some (.int r)) h' := by
  refine Mt.of (own := RX11) (by decide) rfl (Nat.le_of_ble_eq_true rfl) ?_
  intro p e s m below meth c ls X hH hl
  obtain ⟨hx, hb, hml, hown, hts, hr, hlk, hC, hI, hR⟩ := id X
  have hl : lv_has ls 2 [(0, .ref (ad 0))] := hl
  rw [mX11_fault] at hm
  refine lv_iconst (v := 0) hx hb dX11_fault_0 (by decide) ?_
  refine lv_istore_n (lv' := [(1, .int (0 : Int32)), (0, .ref (ad 0))]) hx hb dX11_fault_1 rfl hl (by decide) rfl (fun ls hl => ?_)
  exact wX11_fault_2 X FU (0 : Int32) h _ _ _ hm hH (lv_sub hl [1, 0] rfl)
/-! X11_whyNot -/
def mX11_whyNot_146 (h : Mm) (k45 : Int32 → Int32 → Int32 → Int32 → Int32 → Option Int32) (x1 : Int32) (x2 : Int32) (x3 : Int32) (x5 : Int32) (t0 : Int32) : Option Int32 := k45 x1 x2 x3 t0 (x5 + 1)
set_option maxRecDepth 4000 in
theorem wX11_whyNot_146 {p : Program} {l : Launch} {e : Env} {s : State} {m : MethodId} {args : Array Value} {below : List Frame} {meth : Method} {c : Code} {D : va_G} {ad : Nat → Nat} {ac : Nat → ClassId} {h : Mm} {r : Int32} (X : Fx p s m args meth c cX11_whyNot 6 RX11 (some .int) D ad ac LM []) {k45 : Int32 → Int32 → Int32 → Int32 → Int32 → Option Int32} (ih45 : ∀ (x1 : Int32) (x2 : Int32) (x3 : Int32) (x4 : Int32) (x5 : Int32) (H : Heap) (locs : List Loc) (ls : Array Slot), k45 x1 x2 x3 x4 x5 = some r → Hp D ad ac LM h s H locs → lv_has ls 6 [(0, .ref (ad 0)), (1, .int x1), (2, .int x2), (3, .int x3), (4, .int x4), (5, .int x5)] → W p l e (rmD 1) s m args below meth c H locs 0 0 (MQ below (QU D ad ac LM (some (.int r)) h s.heap.size) args s 0 0 (Aa ad LM.length s.heap.size)) (F0 m 45 ls [])) : ∀ (x1 : Int32) (x2 : Int32) (x3 : Int32) (x5 : Int32) (t0 : Int32) (H : Heap) (locs : List Loc) (ls : Array Slot), mX11_whyNot_146 h k45 x1 x2 x3 x5 t0 = some r → Hp D ad ac LM h s H locs → lv_has ls 6 [(0, .ref (ad 0)), (1, .int x1), (2, .int x2), (3, .int x3), (5, .int x5)] → W p l e (rmD 1) s m args below meth c H locs 0 0 (MQ below (QU D ad ac LM (some (.int r)) h s.heap.size) args s 0 0 (Aa ad LM.length s.heap.size)) (F0 m 146 ls [.int t0]) := by
  obtain ⟨hx, hb, hml, hown, hts, hr, hlk, hC, hI, hR⟩ := id X
  intro x1 x2 x3 x5 t0 H locs ls hm hH hl
  rw [mX11_whyNot_146] at hm
  refine lv_istore (lv' := [(4, .int t0), (0, .ref (ad 0)), (1, .int x1), (2, .int x2), (3, .int x3), (5, .int x5)]) hx hb dX11_whyNot_146 hl (by decide) rfl (fun ls hl => ?_)
  refine lv_iinc (k := 5) (v := (x5 + 1)) (lv' := [(5, .int (x5 + 1)), (4, .int t0), (0, .ref (ad 0)), (1, .int x1), (2, .int x2), (3, .int x3)]) hx hb dX11_whyNot_148 hl rfl rfl (by decide) rfl (fun ls hl => ?_)
  refine lv_goto hx hb dX11_whyNot_151 (tgt := 45) (by decide) ?_
  exact ih45 x1 x2 x3 t0 (x5 + 1) _ _ _ hm hH (lv_sub hl [2, 3, 4, 5, 1, 0] rfl)
def mX11_whyNot_145 (h : Mm) (k45 : Int32 → Int32 → Int32 → Int32 → Int32 → Option Int32) (x1 : Int32) (x2 : Int32) (x3 : Int32) (x5 : Int32) : Option Int32 := mX11_whyNot_146 h k45 x1 x2 x3 x5 (0 : Int32)
set_option maxRecDepth 4000 in
theorem wX11_whyNot_145 {p : Program} {l : Launch} {e : Env} {s : State} {m : MethodId} {args : Array Value} {below : List Frame} {meth : Method} {c : Code} {D : va_G} {ad : Nat → Nat} {ac : Nat → ClassId} {h : Mm} {r : Int32} (X : Fx p s m args meth c cX11_whyNot 6 RX11 (some .int) D ad ac LM []) {k45 : Int32 → Int32 → Int32 → Int32 → Int32 → Option Int32} (ih45 : ∀ (x1 : Int32) (x2 : Int32) (x3 : Int32) (x4 : Int32) (x5 : Int32) (H : Heap) (locs : List Loc) (ls : Array Slot), k45 x1 x2 x3 x4 x5 = some r → Hp D ad ac LM h s H locs → lv_has ls 6 [(0, .ref (ad 0)), (1, .int x1), (2, .int x2), (3, .int x3), (4, .int x4), (5, .int x5)] → W p l e (rmD 1) s m args below meth c H locs 0 0 (MQ below (QU D ad ac LM (some (.int r)) h s.heap.size) args s 0 0 (Aa ad LM.length s.heap.size)) (F0 m 45 ls [])) : ∀ (x1 : Int32) (x2 : Int32) (x3 : Int32) (x5 : Int32) (H : Heap) (locs : List Loc) (ls : Array Slot), mX11_whyNot_145 h k45 x1 x2 x3 x5 = some r → Hp D ad ac LM h s H locs → lv_has ls 6 [(0, .ref (ad 0)), (1, .int x1), (2, .int x2), (3, .int x3), (5, .int x5)] → W p l e (rmD 1) s m args below meth c H locs 0 0 (MQ below (QU D ad ac LM (some (.int r)) h s.heap.size) args s 0 0 (Aa ad LM.length s.heap.size)) (F0 m 145 ls []) := by
  obtain ⟨hx, hb, hml, hown, hts, hr, hlk, hC, hI, hR⟩ := id X
  intro x1 x2 x3 x5 H locs ls hm hH hl
  rw [mX11_whyNot_145] at hm
  refine lv_iconst (v := 0) hx hb dX11_whyNot_145 (by decide) ?_
  exact wX11_whyNot_146 X ih45 x1 x2 x3 x5 (0 : Int32) _ _ _ hm hH (lv_sub hl [0, 1, 2, 3, 4] rfl)
def mX11_whyNot_141 (h : Mm) (k45 : Int32 → Int32 → Int32 → Int32 → Int32 → Option Int32) (x1 : Int32) (x2 : Int32) (x3 : Int32) (x5 : Int32) : Option Int32 := mX11_whyNot_146 h k45 x1 x2 x3 x5 (1 : Int32)
set_option maxRecDepth 4000 in
theorem wX11_whyNot_141 {p : Program} {l : Launch} {e : Env} {s : State} {m : MethodId} {args : Array Value} {below : List Frame} {meth : Method} {c : Code} {D : va_G} {ad : Nat → Nat} {ac : Nat → ClassId} {h : Mm} {r : Int32} (X : Fx p s m args meth c cX11_whyNot 6 RX11 (some .int) D ad ac LM []) {k45 : Int32 → Int32 → Int32 → Int32 → Int32 → Option Int32} (ih45 : ∀ (x1 : Int32) (x2 : Int32) (x3 : Int32) (x4 : Int32) (x5 : Int32) (H : Heap) (locs : List Loc) (ls : Array Slot), k45 x1 x2 x3 x4 x5 = some r → Hp D ad ac LM h s H locs → lv_has ls 6 [(0, .ref (ad 0)), (1, .int x1), (2, .int x2), (3, .int x3), (4, .int x4), (5, .int x5)] → W p l e (rmD 1) s m args below meth c H locs 0 0 (MQ below (QU D ad ac LM (some (.int r)) h s.heap.size) args s 0 0 (Aa ad LM.length s.heap.size)) (F0 m 45 ls [])) : ∀ (x1 : Int32) (x2 : Int32) (x3 : Int32) (x5 : Int32) (H : Heap) (locs : List Loc) (ls : Array Slot), mX11_whyNot_141 h k45 x1 x2 x3 x5 = some r → Hp D ad ac LM h s H locs → lv_has ls 6 [(0, .ref (ad 0)), (1, .int x1), (2, .int x2), (3, .int x3), (5, .int x5)] → W p l e (rmD 1) s m args below meth c H locs 0 0 (MQ below (QU D ad ac LM (some (.int r)) h s.heap.size) args s 0 0 (Aa ad LM.length s.heap.size)) (F0 m 141 ls []) := by
  obtain ⟨hx, hb, hml, hown, hts, hr, hlk, hC, hI, hR⟩ := id X
  intro x1 x2 x3 x5 H locs ls hm hH hl
  rw [mX11_whyNot_141] at hm
  refine lv_iconst (v := 1) hx hb dX11_whyNot_141 (by decide) ?_
  refine lv_goto hx hb dX11_whyNot_142 (tgt := 146) (by decide) ?_
  exact wX11_whyNot_146 X ih45 x1 x2 x3 x5 (1 : Int32) _ _ _ hm hH (lv_sub hl [0, 1, 2, 3, 4] rfl)
def mX11_whyNot_91 (h : Mm) (k45 : Int32 → Int32 → Int32 → Int32 → Int32 → Option Int32) (x1 : Int32) (x2 : Int32) (x4 : Int32) (x5 : Int32) (t0 : Int32) : Option Int32 := if x4 = 0 then (if x5 = x1 then (mX11_whyNot_145 h k45 x1 x2 t0 x5) else (gIn x5 32 (if (h 15 x5.toNatClampNeg) = (-4 : Int32) then (mX11_whyNot_145 h k45 x1 x2 t0 x5) else (gIn x5 24 (gIn x1 24 (if (h 12 x5.toNatClampNeg) = (h 12 x1.toNatClampNeg) then (bd1 (mX11_overlap h x1 x5) (fun v4 => if v4 = 0 then (mX11_whyNot_145 h k45 x1 x2 t0 x5) else (mX11_whyNot_141 h k45 x1 x2 t0 x5))) else (mX11_whyNot_145 h k45 x1 x2 t0 x5))))))) else (mX11_whyNot_141 h k45 x1 x2 t0 x5)
set_option maxRecDepth 4000 in
theorem wX11_whyNot_91 {p : Program} {l : Launch} {e : Env} {s : State} {m : MethodId} {args : Array Value} {below : List Frame} {meth : Method} {c : Code} {D : va_G} {ad : Nat → Nat} {ac : Nat → ClassId} {h : Mm} {r : Int32} (X : Fx p s m args meth c cX11_whyNot 6 RX11 (some .int) D ad ac LM []) {k45 : Int32 → Int32 → Int32 → Int32 → Int32 → Option Int32} (ih45 : ∀ (x1 : Int32) (x2 : Int32) (x3 : Int32) (x4 : Int32) (x5 : Int32) (H : Heap) (locs : List Loc) (ls : Array Slot), k45 x1 x2 x3 x4 x5 = some r → Hp D ad ac LM h s H locs → lv_has ls 6 [(0, .ref (ad 0)), (1, .int x1), (2, .int x2), (3, .int x3), (4, .int x4), (5, .int x5)] → W p l e (rmD 1) s m args below meth c H locs 0 0 (MQ below (QU D ad ac LM (some (.int r)) h s.heap.size) args s 0 0 (Aa ad LM.length s.heap.size)) (F0 m 45 ls [])) : ∀ (x1 : Int32) (x2 : Int32) (x4 : Int32) (x5 : Int32) (t0 : Int32) (H : Heap) (locs : List Loc) (ls : Array Slot), mX11_whyNot_91 h k45 x1 x2 x4 x5 t0 = some r → Hp D ad ac LM h s H locs → lv_has ls 6 [(0, .ref (ad 0)), (1, .int x1), (2, .int x2), (4, .int x4), (5, .int x5)] → W p l e (rmD 1) s m args below meth c H locs 0 0 (MQ below (QU D ad ac LM (some (.int r)) h s.heap.size) args s 0 0 (Aa ad LM.length s.heap.size)) (F0 m 91 ls [.int t0]) := by
  obtain ⟨hx, hb, hml, hown, hts, hr, hlk, hC, hI, hR⟩ := id X
  intro x1 x2 x4 x5 t0 H locs ls hm hH hl
  rw [mX11_whyNot_91] at hm
  refine lv_istore_n (lv' := [(3, .int t0), (0, .ref (ad 0)), (1, .int x1), (2, .int x2), (4, .int x4), (5, .int x5)]) hx hb dX11_whyNot_91 rfl hl (by decide) rfl (fun ls hl => ?_)
  refine lv_iload hx hb dX11_whyNot_92 (lv_at hl 4 rfl) ?_
  refine lv_if_ne hx hb dX11_whyNot_94 (tgt := 141) (by decide) (fun hc => ?_) (fun hc => ?_)
  · rw [if_neg hc] at hm
    exact wX11_whyNot_141 X ih45 x1 x2 t0 x5 _ _ _ hm hH (lv_sub hl [1, 2, 3, 0, 5] rfl)
  · rw [if_pos hc] at hm
    refine lv_iload hx hb dX11_whyNot_97 (lv_at hl 5 rfl) ?_
    refine lv_iload_n hx hb dX11_whyNot_99 rfl (lv_at hl 2 rfl) ?_
    refine lv_icmp_eq hx hb dX11_whyNot_100 (tgt := 145) (by decide) (fun hc => ?_) (fun hc => ?_)
    · rw [if_pos hc] at hm
      exact wX11_whyNot_145 X ih45 x1 x2 t0 x5 _ _ _ hm hH (lv_sub hl [1, 2, 3, 0, 5] rfl)
    · rw [if_neg hc] at hm
      refine lv_aload_n hx hb dX11_whyNot_103 rfl (lv_at hl 1 rfl) ?_
      refine gR X hH fl_X11_52 lM_0 rfl dX11_whyNot_104 ?_
      refine lv_iload hx hb dX11_whyNot_107 (lv_at hl 5 rfl) ?_
      obtain ⟨hin1, hm⟩ := gIn_some hm
      refine ild X hH lM_15 hin1 dX11_whyNot_109 ?_
      refine lv_bipush (v := (-4)) hx hb dX11_whyNot_110 (by decide) ?_
      refine lv_icmp_eq hx hb dX11_whyNot_112 (tgt := 145) (by decide) (fun hc => ?_) (fun hc => ?_)
      · rw [if_pos hc] at hm
        exact wX11_whyNot_145 X ih45 x1 x2 t0 x5 _ _ _ hm hH (lv_sub hl [1, 2, 3, 0, 5] rfl)
      · rw [if_neg hc] at hm
        refine lv_aload_n hx hb dX11_whyNot_115 rfl (lv_at hl 1 rfl) ?_
        refine gR X hH fl_X11_43 lM_0 rfl dX11_whyNot_116 ?_
        refine lv_iload hx hb dX11_whyNot_119 (lv_at hl 5 rfl) ?_
        obtain ⟨hin2, hm⟩ := gIn_some hm
        refine ild X hH lM_12 hin2 dX11_whyNot_121 ?_
        refine lv_aload_n hx hb dX11_whyNot_122 rfl (lv_at hl 1 rfl) ?_
        refine gR X hH fl_X11_43 lM_0 rfl dX11_whyNot_123 ?_
        refine lv_iload_n hx hb dX11_whyNot_126 rfl (lv_at hl 2 rfl) ?_
        obtain ⟨hin3, hm⟩ := gIn_some hm
        refine ild X hH lM_12 hin3 dX11_whyNot_127 ?_
        refine lv_icmp_ne hx hb dX11_whyNot_128 (tgt := 145) (by decide) (fun hc => ?_) (fun hc => ?_)
        · rw [if_neg hc] at hm
          exact wX11_whyNot_145 X ih45 x1 x2 t0 x5 _ _ _ hm hH (lv_sub hl [1, 2, 3, 0, 5] rfl)
        · rw [if_pos hc] at hm
          refine lv_aload_n hx hb dX11_whyNot_131 rfl (lv_at hl 1 rfl) ?_
          refine lv_iload_n hx hb dX11_whyNot_132 rfl (lv_at hl 2 rfl) ?_
          refine lv_iload hx hb dX11_whyNot_133 (lv_at hl 5 rfl) ?_
          obtain ⟨v4, hq, hm⟩ := bd1_some hm
          refine cVi X hH kl_X11_162 kv_X11_overlap (mt_X11_overlap hq) lM_0 rfl rfl (by decide) hl.1 rfl (Nat.le_of_ble_eq_true rfl) dX11_whyNot_135 (fun H locs hH => ?_)
          refine lv_if_eq hx hb dX11_whyNot_138 (tgt := 145) (by decide) (fun hc => ?_) (fun hc => ?_)
          · rw [if_pos hc] at hm
            exact wX11_whyNot_145 X ih45 x1 x2 t0 x5 _ _ _ hm hH (lv_sub hl [1, 2, 3, 0, 5] rfl)
          · rw [if_neg hc] at hm
            exact wX11_whyNot_141 X ih45 x1 x2 t0 x5 _ _ _ hm hH (lv_sub hl [1, 2, 3, 0, 5] rfl)
def mX11_whyNot_90 (h : Mm) (k45 : Int32 → Int32 → Int32 → Int32 → Int32 → Option Int32) (x1 : Int32) (x2 : Int32) (x4 : Int32) (x5 : Int32) : Option Int32 := mX11_whyNot_91 h k45 x1 x2 x4 x5 (0 : Int32)
set_option maxRecDepth 4000 in
theorem wX11_whyNot_90 {p : Program} {l : Launch} {e : Env} {s : State} {m : MethodId} {args : Array Value} {below : List Frame} {meth : Method} {c : Code} {D : va_G} {ad : Nat → Nat} {ac : Nat → ClassId} {h : Mm} {r : Int32} (X : Fx p s m args meth c cX11_whyNot 6 RX11 (some .int) D ad ac LM []) {k45 : Int32 → Int32 → Int32 → Int32 → Int32 → Option Int32} (ih45 : ∀ (x1 : Int32) (x2 : Int32) (x3 : Int32) (x4 : Int32) (x5 : Int32) (H : Heap) (locs : List Loc) (ls : Array Slot), k45 x1 x2 x3 x4 x5 = some r → Hp D ad ac LM h s H locs → lv_has ls 6 [(0, .ref (ad 0)), (1, .int x1), (2, .int x2), (3, .int x3), (4, .int x4), (5, .int x5)] → W p l e (rmD 1) s m args below meth c H locs 0 0 (MQ below (QU D ad ac LM (some (.int r)) h s.heap.size) args s 0 0 (Aa ad LM.length s.heap.size)) (F0 m 45 ls [])) : ∀ (x1 : Int32) (x2 : Int32) (x4 : Int32) (x5 : Int32) (H : Heap) (locs : List Loc) (ls : Array Slot), mX11_whyNot_90 h k45 x1 x2 x4 x5 = some r → Hp D ad ac LM h s H locs → lv_has ls 6 [(0, .ref (ad 0)), (1, .int x1), (2, .int x2), (4, .int x4), (5, .int x5)] → W p l e (rmD 1) s m args below meth c H locs 0 0 (MQ below (QU D ad ac LM (some (.int r)) h s.heap.size) args s 0 0 (Aa ad LM.length s.heap.size)) (F0 m 90 ls []) := by
  obtain ⟨hx, hb, hml, hown, hts, hr, hlk, hC, hI, hR⟩ := id X
  intro x1 x2 x4 x5 H locs ls hm hH hl
  rw [mX11_whyNot_90] at hm
  refine lv_iconst (v := 0) hx hb dX11_whyNot_90 (by decide) ?_
  exact wX11_whyNot_91 X ih45 x1 x2 x4 x5 (0 : Int32) _ _ _ hm hH (lv_sub hl [0, 1, 2, 3, 4] rfl)
def mX11_whyNot_86 (h : Mm) (k45 : Int32 → Int32 → Int32 → Int32 → Int32 → Option Int32) (x1 : Int32) (x2 : Int32) (x4 : Int32) (x5 : Int32) : Option Int32 := mX11_whyNot_91 h k45 x1 x2 x4 x5 (1 : Int32)
set_option maxRecDepth 4000 in
theorem wX11_whyNot_86 {p : Program} {l : Launch} {e : Env} {s : State} {m : MethodId} {args : Array Value} {below : List Frame} {meth : Method} {c : Code} {D : va_G} {ad : Nat → Nat} {ac : Nat → ClassId} {h : Mm} {r : Int32} (X : Fx p s m args meth c cX11_whyNot 6 RX11 (some .int) D ad ac LM []) {k45 : Int32 → Int32 → Int32 → Int32 → Int32 → Option Int32} (ih45 : ∀ (x1 : Int32) (x2 : Int32) (x3 : Int32) (x4 : Int32) (x5 : Int32) (H : Heap) (locs : List Loc) (ls : Array Slot), k45 x1 x2 x3 x4 x5 = some r → Hp D ad ac LM h s H locs → lv_has ls 6 [(0, .ref (ad 0)), (1, .int x1), (2, .int x2), (3, .int x3), (4, .int x4), (5, .int x5)] → W p l e (rmD 1) s m args below meth c H locs 0 0 (MQ below (QU D ad ac LM (some (.int r)) h s.heap.size) args s 0 0 (Aa ad LM.length s.heap.size)) (F0 m 45 ls [])) : ∀ (x1 : Int32) (x2 : Int32) (x4 : Int32) (x5 : Int32) (H : Heap) (locs : List Loc) (ls : Array Slot), mX11_whyNot_86 h k45 x1 x2 x4 x5 = some r → Hp D ad ac LM h s H locs → lv_has ls 6 [(0, .ref (ad 0)), (1, .int x1), (2, .int x2), (4, .int x4), (5, .int x5)] → W p l e (rmD 1) s m args below meth c H locs 0 0 (MQ below (QU D ad ac LM (some (.int r)) h s.heap.size) args s 0 0 (Aa ad LM.length s.heap.size)) (F0 m 86 ls []) := by
  obtain ⟨hx, hb, hml, hown, hts, hr, hlk, hC, hI, hR⟩ := id X
  intro x1 x2 x4 x5 H locs ls hm hH hl
  rw [mX11_whyNot_86] at hm
  refine lv_iconst (v := 1) hx hb dX11_whyNot_86 (by decide) ?_
  refine lv_goto hx hb dX11_whyNot_87 (tgt := 91) (by decide) ?_
  exact wX11_whyNot_91 X ih45 x1 x2 x4 x5 (1 : Int32) _ _ _ hm hH (lv_sub hl [0, 1, 2, 3, 4] rfl)
def mX11_whyNot_45 (h : Mm) : Nat → Int32 → Int32 → Int32 → Int32 → Int32 → Option Int32
  | 0, _, _, _, _, _ => none
  | n + 1, x1, x2, x3, x4, x5 => if (h 0 16) ≤ x5 then (if x3 = 0 then (if x4 = 0 then (some (0 : Int32)) else (some (4 : Int32))) else (some (3 : Int32))) else (if x3 = 0 then (if x5 = x1 then (mX11_whyNot_90 h (mX11_whyNot_45 h n) x1 x2 x4 x5) else (gIn x5 32 (if (h 15 x5.toNatClampNeg) = x2 then (bd1 (mX11_together h x1 x5 x2) (fun v2 => if v2 = 0 then (mX11_whyNot_86 h (mX11_whyNot_45 h n) x1 x2 x4 x5) else (mX11_whyNot_90 h (mX11_whyNot_45 h n) x1 x2 x4 x5))) else (mX11_whyNot_90 h (mX11_whyNot_45 h n) x1 x2 x4 x5)))) else (mX11_whyNot_86 h (mX11_whyNot_45 h n) x1 x2 x4 x5))
set_option maxRecDepth 4000 in
theorem wX11_whyNot_45 {p : Program} {l : Launch} {e : Env} {s : State} {m : MethodId} {args : Array Value} {below : List Frame} {meth : Method} {c : Code} {D : va_G} {ad : Nat → Nat} {ac : Nat → ClassId} {h : Mm} {r : Int32} (X : Fx p s m args meth c cX11_whyNot 6 RX11 (some .int) D ad ac LM []) : ∀ (n : Nat) (x1 : Int32) (x2 : Int32) (x3 : Int32) (x4 : Int32) (x5 : Int32) (H : Heap) (locs : List Loc) (ls : Array Slot), mX11_whyNot_45 h n x1 x2 x3 x4 x5 = some r → Hp D ad ac LM h s H locs → lv_has ls 6 [(0, .ref (ad 0)), (1, .int x1), (2, .int x2), (3, .int x3), (4, .int x4), (5, .int x5)] → W p l e (rmD 1) s m args below meth c H locs 0 0 (MQ below (QU D ad ac LM (some (.int r)) h s.heap.size) args s 0 0 (Aa ad LM.length s.heap.size)) (F0 m 45 ls []) := by
  obtain ⟨hx, hb, hml, hown, hts, hr, hlk, hC, hI, hR⟩ := id X
  intro n
  induction n with
  | zero => intro x1 x2 x3 x4 x5 H locs ls hm; rw [mX11_whyNot_45] at hm; cases hm
  | succ n ih =>
    intro x1 x2 x3 x4 x5 H locs ls hm hH hl
    rw [mX11_whyNot_45] at hm
    refine lv_iload hx hb dX11_whyNot_45 (lv_at hl 5 rfl) ?_
    refine lv_aload_n hx hb dX11_whyNot_47 rfl (lv_at hl 0 rfl) ?_
    refine gI X hH fl_X11_124 lM_0 rfl dX11_whyNot_48 ?_
    refine lv_icmp_ge hx hb dX11_whyNot_51 (tgt := 154) (by decide) (fun hc => ?_) (fun hc => ?_)
    · rw [if_pos hc] at hm
      refine lv_iload_n hx hb dX11_whyNot_154 rfl (lv_at hl 3 rfl) ?_
      refine lv_if_eq hx hb dX11_whyNot_155 (tgt := 162) (by decide) (fun hc => ?_) (fun hc => ?_)
      · rw [if_pos hc] at hm
        refine lv_iload hx hb dX11_whyNot_162 (lv_at hl 4 rfl) ?_
        refine lv_if_eq hx hb dX11_whyNot_164 (tgt := 171) (by decide) (fun hc => ?_) (fun hc => ?_)
        · rw [if_pos hc] at hm
          refine lv_iconst (v := 0) hx hb dX11_whyNot_171 (by decide) ?_
          cases hm
          exact retI X hH dX11_whyNot_172
        · rw [if_neg hc] at hm
          refine lv_iconst (v := 4) hx hb dX11_whyNot_167 (by decide) ?_
          refine lv_goto hx hb dX11_whyNot_168 (tgt := 172) (by decide) ?_
          cases hm
          exact retI X hH dX11_whyNot_172
      · rw [if_neg hc] at hm
        refine lv_iconst (v := 3) hx hb dX11_whyNot_158 (by decide) ?_
        refine lv_goto hx hb dX11_whyNot_159 (tgt := 172) (by decide) ?_
        cases hm
        exact retI X hH dX11_whyNot_172
    · rw [if_neg hc] at hm
      refine lv_iload_n hx hb dX11_whyNot_54 rfl (lv_at hl 3 rfl) ?_
      refine lv_if_ne hx hb dX11_whyNot_55 (tgt := 86) (by decide) (fun hc => ?_) (fun hc => ?_)
      · rw [if_neg hc] at hm
        exact wX11_whyNot_86 X ih x1 x2 x4 x5 _ _ _ hm hH (lv_sub hl [0, 1, 2, 4, 5] rfl)
      · rw [if_pos hc] at hm
        refine lv_iload hx hb dX11_whyNot_58 (lv_at hl 5 rfl) ?_
        refine lv_iload_n hx hb dX11_whyNot_60 rfl (lv_at hl 1 rfl) ?_
        refine lv_icmp_eq hx hb dX11_whyNot_61 (tgt := 90) (by decide) (fun hc => ?_) (fun hc => ?_)
        · rw [if_pos hc] at hm
          exact wX11_whyNot_90 X ih x1 x2 x4 x5 _ _ _ hm hH (lv_sub hl [0, 1, 2, 4, 5] rfl)
        · rw [if_neg hc] at hm
          refine lv_aload_n hx hb dX11_whyNot_64 rfl (lv_at hl 0 rfl) ?_
          refine gR X hH fl_X11_52 lM_0 rfl dX11_whyNot_65 ?_
          refine lv_iload hx hb dX11_whyNot_68 (lv_at hl 5 rfl) ?_
          obtain ⟨hin1, hm⟩ := gIn_some hm
          refine ild X hH lM_15 hin1 dX11_whyNot_70 ?_
          refine lv_iload_n hx hb dX11_whyNot_71 rfl (lv_at hl 2 rfl) ?_
          refine lv_icmp_ne hx hb dX11_whyNot_72 (tgt := 90) (by decide) (fun hc => ?_) (fun hc => ?_)
          · rw [if_neg hc] at hm
            exact wX11_whyNot_90 X ih x1 x2 x4 x5 _ _ _ hm hH (lv_sub hl [0, 1, 2, 4, 5] rfl)
          · rw [if_pos hc] at hm
            refine lv_aload_n hx hb dX11_whyNot_75 rfl (lv_at hl 0 rfl) ?_
            refine lv_iload_n hx hb dX11_whyNot_76 rfl (lv_at hl 1 rfl) ?_
            refine lv_iload hx hb dX11_whyNot_77 (lv_at hl 5 rfl) ?_
            refine lv_iload_n hx hb dX11_whyNot_79 rfl (lv_at hl 2 rfl) ?_
            obtain ⟨v2, hq, hm⟩ := bd1_some hm
            refine cVi X hH kl_X11_159 kv_X11_together (mt_X11_together hq) lM_0 rfl rfl (by decide) hl.1 rfl (Nat.le_of_ble_eq_true rfl) dX11_whyNot_80 (fun H locs hH => ?_)
            refine lv_if_ne hx hb dX11_whyNot_83 (tgt := 90) (by decide) (fun hc => ?_) (fun hc => ?_)
            · rw [if_neg hc] at hm
              exact wX11_whyNot_90 X ih x1 x2 x4 x5 _ _ _ hm hH (lv_sub hl [0, 1, 2, 4, 5] rfl)
            · rw [if_pos hc] at hm
              exact wX11_whyNot_86 X ih x1 x2 x4 x5 _ _ _ hm hH (lv_sub hl [0, 1, 2, 4, 5] rfl)
def mX11_whyNot_20 (h : Mm) (x1 : Int32) : Option Int32 := gIn x1 32 (if (h 15 x1.toNatClampNeg) = (-4 : Int32) then (some (2 : Int32)) else (some (1 : Int32)))
set_option maxRecDepth 4000 in
theorem wX11_whyNot_20 {p : Program} {l : Launch} {e : Env} {s : State} {m : MethodId} {args : Array Value} {below : List Frame} {meth : Method} {c : Code} {D : va_G} {ad : Nat → Nat} {ac : Nat → ClassId} {h : Mm} {r : Int32} (X : Fx p s m args meth c cX11_whyNot 6 RX11 (some .int) D ad ac LM []) : ∀ (x1 : Int32) (H : Heap) (locs : List Loc) (ls : Array Slot), mX11_whyNot_20 h x1 = some r → Hp D ad ac LM h s H locs → lv_has ls 6 [(0, .ref (ad 0)), (1, .int x1)] → W p l e (rmD 1) s m args below meth c H locs 0 0 (MQ below (QU D ad ac LM (some (.int r)) h s.heap.size) args s 0 0 (Aa ad LM.length s.heap.size)) (F0 m 20 ls []) := by
  obtain ⟨hx, hb, hml, hown, hts, hr, hlk, hC, hI, hR⟩ := id X
  intro x1 H locs ls hm hH hl
  rw [mX11_whyNot_20] at hm
  refine lv_aload_n hx hb dX11_whyNot_20 rfl (lv_at hl 0 rfl) ?_
  refine gR X hH fl_X11_52 lM_0 rfl dX11_whyNot_21 ?_
  refine lv_iload_n hx hb dX11_whyNot_24 rfl (lv_at hl 1 rfl) ?_
  obtain ⟨hin1, hm⟩ := gIn_some hm
  refine ild X hH lM_15 hin1 dX11_whyNot_25 ?_
  refine lv_bipush (v := (-4)) hx hb dX11_whyNot_26 (by decide) ?_
  refine lv_icmp_eq hx hb dX11_whyNot_28 (tgt := 35) (by decide) (fun hc => ?_) (fun hc => ?_)
  · rw [if_pos hc] at hm
    refine lv_iconst (v := 2) hx hb dX11_whyNot_35 (by decide) ?_
    cases hm
    exact retI X hH dX11_whyNot_36
  · rw [if_neg hc] at hm
    refine lv_iconst (v := 1) hx hb dX11_whyNot_31 (by decide) ?_
    refine lv_goto hx hb dX11_whyNot_32 (tgt := 36) (by decide) ?_
    cases hm
    exact retI X hH dX11_whyNot_36
def mX11_whyNot (h : Mm) (a1 : Int32) (a2 : Int32) : Option Int32 := gIn a1 32 (if (h 15 a1.toNatClampNeg) = (-4 : Int32) then (bd1 (mX11_fits h a1 a2) (fun v2 => if v2 = 0 then (mX11_whyNot_20 h a1) else (mX11_whyNot_45 h FU a1 a2 (0 : Int32) (0 : Int32) (0 : Int32)))) else (mX11_whyNot_20 h a1))
set_option maxRecDepth 4000 in
theorem mt_X11_whyNot {l : Launch} {D : va_G} {ad : Nat → Nat} {ac : Nat → ClassId} {h : Mm} {a1 : Int32} {a2 : Int32} {r : Int32} (hm : mX11_whyNot h a1 a2 = some r) : Mt l D ad ac LM [] yX11_whyNot cX11_whyNot 6 (some .int) 1 [.ref (ad 0), .int a1, .int a2] h (some (.int r)) h := by
  refine Mt.of (own := RX11) (by decide) rfl (Nat.le_of_ble_eq_true rfl) ?_
  intro p e s m below meth c ls X hH hl
  obtain ⟨hx, hb, hml, hown, hts, hr, hlk, hC, hI, hR⟩ := id X
  have hl : lv_has ls 6 [(0, .ref (ad 0)), (1, .int a1), (2, .int a2)] := hl
  rw [mX11_whyNot] at hm
  refine lv_aload_n hx hb dX11_whyNot_0 rfl (lv_at hl 0 rfl) ?_
  refine gR X hH fl_X11_52 lM_0 rfl dX11_whyNot_1 ?_
  refine lv_iload_n hx hb dX11_whyNot_4 rfl (lv_at hl 1 rfl) ?_
  obtain ⟨hin1, hm⟩ := gIn_some hm
  refine ild X hH lM_15 hin1 dX11_whyNot_5 ?_
  refine lv_bipush (v := (-4)) hx hb dX11_whyNot_6 (by decide) ?_
  refine lv_icmp_ne hx hb dX11_whyNot_8 (tgt := 20) (by decide) (fun hc => ?_) (fun hc => ?_)
  · rw [if_neg hc] at hm
    exact wX11_whyNot_20 X a1 _ _ _ hm hH (lv_sub hl [0, 1] rfl)
  · rw [if_pos hc] at hm
    refine lv_aload_n hx hb dX11_whyNot_11 rfl (lv_at hl 0 rfl) ?_
    refine lv_iload_n hx hb dX11_whyNot_12 rfl (lv_at hl 1 rfl) ?_
    refine lv_iload_n hx hb dX11_whyNot_13 rfl (lv_at hl 2 rfl) ?_
    obtain ⟨v2, hq, hm⟩ := bd1_some hm
    refine cVi X hH kl_X11_152 kv_X11_fits (mt_X11_fits hq) lM_0 rfl rfl (by decide) hl.1 rfl (Nat.le_of_ble_eq_true rfl) dX11_whyNot_14 (fun H locs hH => ?_)
    refine lv_if_ne hx hb dX11_whyNot_17 (tgt := 37) (by decide) (fun hc => ?_) (fun hc => ?_)
    · rw [if_neg hc] at hm
      refine lv_iconst (v := 0) hx hb dX11_whyNot_37 (by decide) ?_
      refine lv_istore_n (lv' := [(3, .int (0 : Int32)), (0, .ref (ad 0)), (1, .int a1), (2, .int a2)]) hx hb dX11_whyNot_38 rfl hl (by decide) rfl (fun ls hl => ?_)
      refine lv_iconst (v := 0) hx hb dX11_whyNot_39 (by decide) ?_
      refine lv_istore (lv' := [(4, .int (0 : Int32)), (3, .int (0 : Int32)), (0, .ref (ad 0)), (1, .int a1), (2, .int a2)]) hx hb dX11_whyNot_40 hl (by decide) rfl (fun ls hl => ?_)
      refine lv_iconst (v := 0) hx hb dX11_whyNot_42 (by decide) ?_
      refine lv_istore (lv' := [(5, .int (0 : Int32)), (4, .int (0 : Int32)), (3, .int (0 : Int32)), (0, .ref (ad 0)), (1, .int a1), (2, .int a2)]) hx hb dX11_whyNot_43 hl (by decide) rfl (fun ls hl => ?_)
      exact wX11_whyNot_45 X FU a1 a2 (0 : Int32) (0 : Int32) (0 : Int32) _ _ _ hm hH (lv_sub hl [3, 4, 5, 2, 1, 0] rfl)
    · rw [if_pos hc] at hm
      exact wX11_whyNot_20 X a1 _ _ _ hm hH (lv_sub hl [0, 1] rfl)
/-! X11_give -/
def mX11_give (h : Mm) (a1 : Int32) (a2 : Int32) : Option (Int32 × Mm) := bd1 (mX11_isPass h a1) (fun v1 => if v1 = 0 then (some ((-1 : Int32), h)) else (bd1 (mX11_isAntenna h a2) (fun v2 => if v2 = 0 then (some ((-1 : Int32), h)) else (bd1 (mX11_whyNot h a1 a2) (fun v3 => if v3 ≤ 0 then (bdh (mX11_note h) (fun h4 => gIn a1 32 (mlet (wr h4 15 a1.toNatClampNeg a2) (fun h5 => bd1 (mX11_contacts h5) (fun v7 => some (v7, h5)))))) else (some ((-2 : Int32), h)))))))
set_option maxRecDepth 4000 in
theorem mt_X11_give {l : Launch} {D : va_G} {ad : Nat → Nat} {ac : Nat → ClassId} {h : Mm} {a1 : Int32} {a2 : Int32} {r : Int32} {h' : Mm} (hm : mX11_give h a1 a2 = some (r, h')) : Mt l D ad ac LM [] yX11_give cX11_give 3 (some .int) 2 [.ref (ad 0), .int a1, .int a2] h (some (.int r)) h' := by
  refine Mt.of (own := RX11) (by decide) rfl (Nat.le_of_ble_eq_true rfl) ?_
  intro p e s m below meth c ls X hH hl
  obtain ⟨hx, hb, hml, hown, hts, hr, hlk, hC, hI, hR⟩ := id X
  have hl : lv_has ls 3 [(0, .ref (ad 0)), (1, .int a1), (2, .int a2)] := hl
  rw [mX11_give] at hm
  refine lv_aload_n hx hb dX11_give_0 rfl (lv_at hl 0 rfl) ?_
  refine lv_iload_n hx hb dX11_give_1 rfl (lv_at hl 1 rfl) ?_
  obtain ⟨v1, hq, hm⟩ := bd1_some hm
  refine cVi X hH kl_X11_149 kv_X11_isPass (mt_X11_isPass hq) lM_0 rfl rfl (by decide) hl.1 rfl (Nat.le_of_ble_eq_true rfl) dX11_give_2 (fun H locs hH => ?_)
  refine lv_if_eq hx hb dX11_give_5 (tgt := 16) (by decide) (fun hc => ?_) (fun hc => ?_)
  · rw [if_pos hc] at hm
    refine lv_iconst (v := (-1)) hx hb dX11_give_16 (by decide) ?_
    cases hm
    exact retI X hH dX11_give_17
  · rw [if_neg hc] at hm
    refine lv_aload_n hx hb dX11_give_8 rfl (lv_at hl 0 rfl) ?_
    refine lv_iload_n hx hb dX11_give_9 rfl (lv_at hl 2 rfl) ?_
    obtain ⟨v2, hq, hm⟩ := bd1_some hm
    refine cVi X hH kl_X11_144 kv_X11_isAntenna (mt_X11_isAntenna hq) lM_0 rfl rfl (by decide) hl.1 rfl (Nat.le_of_ble_eq_true rfl) dX11_give_10 (fun H locs hH => ?_)
    refine lv_if_ne hx hb dX11_give_13 (tgt := 18) (by decide) (fun hc => ?_) (fun hc => ?_)
    · rw [if_neg hc] at hm
      refine lv_aload_n hx hb dX11_give_18 rfl (lv_at hl 0 rfl) ?_
      refine lv_iload_n hx hb dX11_give_19 rfl (lv_at hl 1 rfl) ?_
      refine lv_iload_n hx hb dX11_give_20 rfl (lv_at hl 2 rfl) ?_
      obtain ⟨v3, hq, hm⟩ := bd1_some hm
      refine cVi X hH kl_X11_165 kv_X11_whyNot (mt_X11_whyNot hq) lM_0 rfl rfl (by decide) hl.1 rfl (Nat.le_of_ble_eq_true rfl) dX11_give_21 (fun H locs hH => ?_)
      refine lv_if_le hx hb dX11_give_24 (tgt := 30) (by decide) (fun hc => ?_) (fun hc => ?_)
      · rw [if_pos hc] at hm
        refine lv_aload_n hx hb dX11_give_30 rfl (lv_at hl 0 rfl) ?_
        obtain ⟨h4, hq, hm⟩ := bdh_some hm
        refine cVv X hH kl_X11_168 kv_X11_note (mt_X11_note hq) lM_0 rfl rfl (by decide) hl.1 rfl (Nat.le_of_ble_eq_true rfl) dX11_give_31 (fun H locs hH => ?_)
        refine lv_aload_n hx hb dX11_give_34 rfl (lv_at hl 0 rfl) ?_
        refine gR X hH fl_X11_52 lM_0 rfl dX11_give_35 ?_
        refine lv_iload_n hx hb dX11_give_38 rfl (lv_at hl 1 rfl) ?_
        refine lv_iload_n hx hb dX11_give_39 rfl (lv_at hl 2 rfl) ?_
        obtain ⟨hin6, hm⟩ := gIn_some hm
        obtain ⟨h5, eh5, hm⟩ := mlet_some hm
        refine ist X hH lM_15 hin6 dX11_give_40 (fun H locs hH => ?_)
        rw [← eh5] at hH
        refine lv_aload_n hx hb dX11_give_41 rfl (lv_at hl 0 rfl) ?_
        obtain ⟨v7, hq, hm⟩ := bd1_some hm
        refine cVi X hH kl_X11_171 kv_X11_contacts (mt_X11_contacts hq) lM_0 rfl rfl (by decide) hl.1 rfl (Nat.le_of_ble_eq_true rfl) dX11_give_42 (fun H locs hH => ?_)
        cases hm
        exact retI X hH dX11_give_45
      · rw [if_neg hc] at hm
        refine lv_bipush (v := (-2)) hx hb dX11_give_27 (by decide) ?_
        cases hm
        exact retI X hH dX11_give_29
    · rw [if_pos hc] at hm
      refine lv_iconst (v := (-1)) hx hb dX11_give_16 (by decide) ?_
      cases hm
      exact retI X hH dX11_give_17
/-! X11_sees -/
def mX11_sees_51 (h : Mm) (x2 : Int32) (t0 : Int32) : Option Int32 := gIn (((2 : Int32) * x2) + (1 : Int32)) 6 (if (h 3 (((2 : Int32) * x2) + (1 : Int32)).toNatClampNeg) ≤ t0 then (some (0 : Int32)) else (some (1 : Int32)))
set_option maxRecDepth 4000 in
theorem wX11_sees_51 {p : Program} {l : Launch} {e : Env} {s : State} {m : MethodId} {args : Array Value} {below : List Frame} {meth : Method} {c : Code} {D : va_G} {ad : Nat → Nat} {ac : Nat → ClassId} {h : Mm} {r : Int32} (X : Fx p s m args meth c cX11_sees 6 RX11 (some .boolean) D ad ac LM []) : ∀ (x2 : Int32) (t0 : Int32) (H : Heap) (locs : List Loc) (ls : Array Slot), mX11_sees_51 h x2 t0 = some r → Hp D ad ac LM h s H locs → lv_has ls 6 [(0, .ref (ad 0)), (2, .int x2)] → W p l e (rmD 0) s m args below meth c H locs 0 0 (MQ below (QU D ad ac LM (some (.int r)) h s.heap.size) args s 0 0 (Aa ad LM.length s.heap.size)) (F0 m 51 ls [.int t0]) := by
  obtain ⟨hx, hb, hml, hown, hts, hr, hlk, hC, hI, hR⟩ := id X
  intro x2 t0 H locs ls hm hH hl
  rw [mX11_sees_51] at hm
  refine lv_aload_n hx hb dX11_sees_51 rfl (lv_at hl 0 rfl) ?_
  refine gR X hH fl_X11_16 lM_0 rfl dX11_sees_52 ?_
  refine lv_iconst (v := 2) hx hb dX11_sees_55 (by decide) ?_
  refine lv_iload_n hx hb dX11_sees_56 rfl (lv_at hl 1 rfl) ?_
  refine lv_imul hx hb dX11_sees_57 ?_
  refine lv_iconst (v := 1) hx hb dX11_sees_58 (by decide) ?_
  refine lv_iadd hx hb dX11_sees_59 ?_
  obtain ⟨hin1, hm⟩ := gIn_some hm
  refine ild X hH lM_3 hin1 dX11_sees_60 ?_
  refine lv_icmp_ge hx hb dX11_sees_61 (tgt := 68) (by decide) (fun hc => ?_) (fun hc => ?_)
  · rw [if_pos hc] at hm
    refine lv_iconst (v := 0) hx hb dX11_sees_68 (by decide) ?_
    cases hm
    exact retZ X hH rfl dX11_sees_69
  · rw [if_neg hc] at hm
    refine lv_iconst (v := 1) hx hb dX11_sees_64 (by decide) ?_
    refine lv_goto hx hb dX11_sees_65 (tgt := 69) (by decide) ?_
    cases hm
    exact retZ X hH rfl dX11_sees_69
def mX11_sees (h : Mm) (a1 : Int32) (a2 : Int32) (a3 : Int32) : Option Int32 := gIn (((5 : Int32) * a1) + (1 : Int32)) 20 (mlet (h 2 (((5 : Int32) * a1) + (1 : Int32)).toNatClampNeg) (fun u2 => gIn ((5 : Int32) * a1) 20 (gIn ((2 : Int32) * a2) 6 (gNz u2 (mlet (((a3 - (h 2 ((5 : Int32) * a1).toNatClampNeg)) - (h 3 ((2 : Int32) * a2).toNatClampNeg)) - ((a3 - (h 2 ((5 : Int32) * a1).toNatClampNeg)) - (h 3 ((2 : Int32) * a2).toNatClampNeg)) / u2 * u2) (fun u5 => if 0 ≤ u5 then (mX11_sees_51 h a2 u5) else (mX11_sees_51 h a2 (u5 + u2))))))))
set_option maxRecDepth 4000 in
theorem mt_X11_sees {l : Launch} {D : va_G} {ad : Nat → Nat} {ac : Nat → ClassId} {h : Mm} {a1 : Int32} {a2 : Int32} {a3 : Int32} {r : Int32} (hm : mX11_sees h a1 a2 a3 = some r) : Mt l D ad ac LM [] yX11_sees cX11_sees 6 (some .boolean) 0 [.ref (ad 0), .int a1, .int a2, .int a3] h (some (.int r)) h := by
  refine Mt.of (own := RX11) (by decide) rfl (Nat.le_of_ble_eq_true rfl) ?_
  intro p e s m below meth c ls X hH hl
  obtain ⟨hx, hb, hml, hown, hts, hr, hlk, hC, hI, hR⟩ := id X
  have hl : lv_has ls 6 [(0, .ref (ad 0)), (1, .int a1), (2, .int a2), (3, .int a3)] := hl
  rw [mX11_sees] at hm
  refine lv_aload_n hx hb dX11_sees_0 rfl (lv_at hl 0 rfl) ?_
  refine gR X hH fl_X11_13 lM_0 rfl dX11_sees_1 ?_
  refine lv_iconst (v := 5) hx hb dX11_sees_4 (by decide) ?_
  refine lv_iload_n hx hb dX11_sees_5 rfl (lv_at hl 1 rfl) ?_
  refine lv_imul hx hb dX11_sees_6 ?_
  refine lv_iconst (v := 1) hx hb dX11_sees_7 (by decide) ?_
  refine lv_iadd hx hb dX11_sees_8 ?_
  obtain ⟨hin1, hm⟩ := gIn_some hm
  refine ild X hH lM_2 hin1 dX11_sees_9 ?_
  obtain ⟨u2, eu2, hm⟩ := mlet_some hm
  refine W.eq (g2 := F0 m 10 ls (.int u2 :: [])) (by rw [eu2]) ?_
  refine lv_istore (lv' := [(4, .int u2), (0, .ref (ad 0)), (1, .int a1), (2, .int a2), (3, .int a3)]) hx hb dX11_sees_10 hl (by decide) rfl (fun ls hl => ?_)
  refine lv_iload_n hx hb dX11_sees_12 rfl (lv_at hl 4 rfl) ?_
  refine lv_aload_n hx hb dX11_sees_13 rfl (lv_at hl 1 rfl) ?_
  refine gR X hH fl_X11_13 lM_0 rfl dX11_sees_14 ?_
  refine lv_iconst (v := 5) hx hb dX11_sees_17 (by decide) ?_
  refine lv_iload_n hx hb dX11_sees_18 rfl (lv_at hl 2 rfl) ?_
  refine lv_imul hx hb dX11_sees_19 ?_
  obtain ⟨hin3, hm⟩ := gIn_some hm
  refine ild X hH lM_2 hin3 dX11_sees_20 ?_
  refine lv_isub hx hb dX11_sees_21 ?_
  refine lv_aload_n hx hb dX11_sees_22 rfl (lv_at hl 1 rfl) ?_
  refine gR X hH fl_X11_16 lM_0 rfl dX11_sees_23 ?_
  refine lv_iconst (v := 2) hx hb dX11_sees_26 (by decide) ?_
  refine lv_iload_n hx hb dX11_sees_27 rfl (lv_at hl 3 rfl) ?_
  refine lv_imul hx hb dX11_sees_28 ?_
  obtain ⟨hin4, hm⟩ := gIn_some hm
  refine ild X hH lM_3 hin4 dX11_sees_29 ?_
  refine lv_isub hx hb dX11_sees_30 ?_
  refine lv_iload hx hb dX11_sees_31 (lv_at hl 0 rfl) ?_
  obtain ⟨hnz, hm⟩ := gNz_some hm
  refine lv_irem hx hb dX11_sees_33 hnz ?_
  obtain ⟨u5, eu5, hm⟩ := mlet_some hm
  refine W.eq (g2 := F0 m 34 ls (.int u5 :: [])) (by rw [eu5]) ?_
  refine lv_istore (lv' := [(5, .int u5), (4, .int u2), (0, .ref (ad 0)), (1, .int a1), (2, .int a2), (3, .int a3)]) hx hb dX11_sees_34 hl (by decide) rfl (fun ls hl => ?_)
  refine lv_iload hx hb dX11_sees_36 (lv_at hl 0 rfl) ?_
  refine lv_if_ge hx hb dX11_sees_38 (tgt := 49) (by decide) (fun hc => ?_) (fun hc => ?_)
  · rw [if_pos hc] at hm
    refine lv_iload hx hb dX11_sees_49 (lv_at hl 0 rfl) ?_
    exact wX11_sees_51 X a2 u5 _ _ _ hm hH (lv_sub hl [2, 4] rfl)
  · rw [if_neg hc] at hm
    refine lv_iload hx hb dX11_sees_41 (lv_at hl 0 rfl) ?_
    refine lv_iload hx hb dX11_sees_43 (lv_at hl 1 rfl) ?_
    refine lv_iadd hx hb dX11_sees_45 ?_
    refine lv_goto hx hb dX11_sees_46 (tgt := 51) (by decide) ?_
    exact wX11_sees_51 X a2 (u5 + u2) _ _ _ hm hH (lv_sub hl [2, 4] rfl)
