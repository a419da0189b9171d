/-! X6_findOpen -/
def mX6_findOpen_77 (k2 : Int32 → Mm → Option Mm) (k19 : Int32 → Int32 → Mm → Option Mm) (x2 : Int32) (x3 : Int32) (h : Mm) : Option Mm := k19 x2 (x3 + 1) h
set_option maxRecDepth 4000 in
theorem wX6_findOpen_77 {p : Program} {l : Launch} {e : Env} {s : State} {m : MethodId} {args : Array Value} {below : List Frame} {meth : Method} {c : Code} {D : va_G} {ad : Nat → Nat} {ac : Nat → ClassId} {h' : Mm} (X : Fx p s m args meth c cX6_findOpen 4 RX6 none D ad ac LC rlC) {k2 : Int32 → Mm → Option Mm} {k19 : Int32 → Int32 → Mm → Option Mm} (ih2 : ∀ (x2 : Int32) (h : Mm) (H : Heap) (locs : List Loc) (ls : Array Slot), k2 x2 h = some h' → Hp D ad ac LC h s H locs → lv_has ls 4 [(0, .ref (ad 22)), (1, .ref (ad 3)), (2, .int x2)] → W p l e (rmD 4) s m args below meth c H locs 0 0 (MQ below (QU D ad ac LC none h' s.heap.size) args s 0 0 (Aa ad LC.length s.heap.size)) (F0 m 2 ls [])) (ih19 : ∀ (x2 : Int32) (x3 : Int32) (h : Mm) (H : Heap) (locs : List Loc) (ls : Array Slot), k19 x2 x3 h = some h' → Hp D ad ac LC h s H locs → lv_has ls 4 [(0, .ref (ad 22)), (1, .ref (ad 3)), (2, .int x2), (3, .int x3)] → W p l e (rmD 4) s m args below meth c H locs 0 0 (MQ below (QU D ad ac LC none h' s.heap.size) args s 0 0 (Aa ad LC.length s.heap.size)) (F0 m 19 ls [])) : ∀ (x2 : Int32) (x3 : Int32) (h : Mm) (H : Heap) (locs : List Loc) (ls : Array Slot), mX6_findOpen_77 k2 k19 x2 x3 h = some h' → Hp D ad ac LC h s H locs → lv_has ls 4 [(0, .ref (ad 22)), (1, .ref (ad 3)), (2, .int x2), (3, .int x3)] → W p l e (rmD 4) s m args below meth c H locs 0 0 (MQ below (QU D ad ac LC none h' s.heap.size) args s 0 0 (Aa ad LC.length s.heap.size)) (F0 m 77 ls []) := by
  obtain ⟨hx, hb, hml, hown, hts, hr, hlk, hC, hI, hR⟩ := id X
  intro x2 x3 h H locs ls hm hH hl
  rw [mX6_findOpen_77] at hm
  refine lv_iinc (k := 3) (v := (x3 + 1)) (lv' := [(3, .int (x3 + 1)), (0, .ref (ad 22)), (1, .ref (ad 3)), (2, .int x2)]) hx hb dX6_findOpen_77 hl rfl rfl (by decide) rfl (fun ls hl => ?_)
  refine lv_goto hx hb dX6_findOpen_80 (tgt := 19) (by decide) ?_
  exact ih19 x2 (x3 + 1) h _ _ _ hm hH (lv_sub hl [1, 2, 3, 0] rfl)
def mX6_findOpen_19 (k2 : Int32 → Mm → Option Mm) : Nat → Int32 → Int32 → Mm → Option Mm
  | 0, _, _, _ => none
  | n + 1, x2, x3, h => if (h 42 3) ≤ x3 then (k2 (x2 + 1) h) else (bd1 (mX4_fits h ((h 22 11) + x2) x3) (fun v1 => if v1 = 0 then (mX6_findOpen_77 k2 (mX6_findOpen_19 k2 n) x2 x3 h) else (bd1 (mX4_clashWith h (h 22 6) ((h 22 11) + x2) x3) (fun v2 => if v2 = 0 then (gIn x2 6 (gIn x2 6 (mlet (wr h 23 x2.toNatClampNeg ((h 23 x2.toNatClampNeg) ||| ((1 : Int32) <<< (x3 &&& 31)))) (fun h4 => mX6_findOpen_77 k2 (mX6_findOpen_19 k2 n) x2 x3 h4)))) else (mX6_findOpen_77 k2 (mX6_findOpen_19 k2 n) x2 x3 h)))))
set_option maxRecDepth 4000 in
theorem wX6_findOpen_19 {p : Program} {l : Launch} {e : Env} {s : State} {m : MethodId} {args : Array Value} {below : List Frame} {meth : Method} {c : Code} {D : va_G} {ad : Nat → Nat} {ac : Nat → ClassId} {h' : Mm} (X : Fx p s m args meth c cX6_findOpen 4 RX6 none D ad ac LC rlC) {k2 : Int32 → Mm → Option Mm} (ih2 : ∀ (x2 : Int32) (h : Mm) (H : Heap) (locs : List Loc) (ls : Array Slot), k2 x2 h = some h' → Hp D ad ac LC h s H locs → lv_has ls 4 [(0, .ref (ad 22)), (1, .ref (ad 3)), (2, .int x2)] → W p l e (rmD 4) s m args below meth c H locs 0 0 (MQ below (QU D ad ac LC none h' s.heap.size) args s 0 0 (Aa ad LC.length s.heap.size)) (F0 m 2 ls [])) : ∀ (n : Nat) (x2 : Int32) (x3 : Int32) (h : Mm) (H : Heap) (locs : List Loc) (ls : Array Slot), mX6_findOpen_19 k2 n x2 x3 h = some h' → Hp D ad ac LC h s H locs → lv_has ls 4 [(0, .ref (ad 22)), (1, .ref (ad 3)), (2, .int x2), (3, .int x3)] → W p l e (rmD 4) s m args below meth c H locs 0 0 (MQ below (QU D ad ac LC none h' s.heap.size) args s 0 0 (Aa ad LC.length s.heap.size)) (F0 m 19 ls []) := by
  obtain ⟨hx, hb, hml, hown, hts, hr, hlk, hC, hI, hR⟩ := id X
  intro n
  induction n with
  | zero => intro x2 x3 h H locs ls hm; rw [mX6_findOpen_19] at hm; cases hm
  | succ n ih =>
    intro x2 x3 h H locs ls hm hH hl
    rw [mX6_findOpen_19] at hm
    refine lv_iload_n hx hb dX6_findOpen_19 rfl (lv_at hl 3 rfl) ?_
    refine lv_aload_n hx hb dX6_findOpen_20 rfl (lv_at hl 1 rfl) ?_
    refine gR X hH fl_X6_93 lC_3 rfl dX6_findOpen_21 ?_
    refine gR X hH fl_X6_97 lC_30 rfl dX6_findOpen_24 ?_
    refine gI X hH fl_X6_103 lC_42 rfl dX6_findOpen_27 ?_
    refine lv_icmp_ge hx hb dX6_findOpen_30 (tgt := 83) (by decide) (fun hc => ?_) (fun hc => ?_)
    · rw [if_pos hc] at hm
      refine lv_iinc (k := 2) (v := (x2 + 1)) (lv' := [(2, .int (x2 + 1)), (0, .ref (ad 22)), (1, .ref (ad 3)), (3, .int x3)]) hx hb dX6_findOpen_83 hl rfl rfl (by decide) rfl (fun ls hl => ?_)
      refine lv_goto hx hb dX6_findOpen_86 (tgt := 2) (by decide) ?_
      exact ih2 (x2 + 1) h _ _ _ hm hH (lv_sub hl [1, 2, 0] rfl)
    · rw [if_neg hc] at hm
      refine lv_aload_n hx hb dX6_findOpen_33 rfl (lv_at hl 1 rfl) ?_
      refine lv_aload_n hx hb dX6_findOpen_34 rfl (lv_at hl 0 rfl) ?_
      refine gI X hH fl_X6_41 lC_22 rfl dX6_findOpen_35 ?_
      refine lv_iload_n hx hb dX6_findOpen_38 rfl (lv_at hl 2 rfl) ?_
      refine lv_iadd hx hb dX6_findOpen_39 ?_
      refine lv_iload_n hx hb dX6_findOpen_40 rfl (lv_at hl 3 rfl) ?_
      obtain ⟨v1, hq, hm⟩ := bd1_some hm
      refine cVi X hH kl_X6_108 kv_X4_fits (mt_X4_fits hq) lC_3 rfl rfl (by decide) hl.1 rfl (Nat.le_of_ble_eq_true rfl) dX6_findOpen_41 (fun H locs hH => ?_)
      refine lv_if_eq hx hb dX6_findOpen_44 (tgt := 77) (by decide) (fun hc => ?_) (fun hc => ?_)
      · rw [if_pos hc] at hm
        exact wX6_findOpen_77 X ih2 ih x2 x3 h _ _ _ hm hH (lv_sub hl [0, 1, 2, 3] rfl)
      · rw [if_neg hc] at hm
        refine lv_aload_n hx hb dX6_findOpen_47 rfl (lv_at hl 1 rfl) ?_
        refine lv_aload_n hx hb dX6_findOpen_48 rfl (lv_at hl 0 rfl) ?_
        refine gI X hH fl_X6_60 lC_22 rfl dX6_findOpen_49 ?_
        refine lv_aload_n hx hb dX6_findOpen_52 rfl (lv_at hl 0 rfl) ?_
        refine gI X hH fl_X6_41 lC_22 rfl dX6_findOpen_53 ?_
        refine lv_iload_n hx hb dX6_findOpen_56 rfl (lv_at hl 2 rfl) ?_
        refine lv_iadd hx hb dX6_findOpen_57 ?_
        refine lv_iload_n hx hb dX6_findOpen_58 rfl (lv_at hl 3 rfl) ?_
        obtain ⟨v2, hq, hm⟩ := bd1_some hm
        refine cVi X hH kl_X6_112 kv_X4_clashWith (mt_X4_clashWith hq) lC_3 rfl rfl (by decide) hl.1 rfl (Nat.le_of_ble_eq_true rfl) dX6_findOpen_59 (fun H locs hH => ?_)
        refine lv_if_ne hx hb dX6_findOpen_62 (tgt := 77) (by decide) (fun hc => ?_) (fun hc => ?_)
        · rw [if_neg hc] at hm
          exact wX6_findOpen_77 X ih2 ih x2 x3 h _ _ _ hm hH (lv_sub hl [0, 1, 2, 3] rfl)
        · rw [if_pos hc] at hm
          refine lv_aload_n hx hb dX6_findOpen_65 rfl (lv_at hl 0 rfl) ?_
          refine gR X hH fl_X6_9 lC_22 rfl dX6_findOpen_66 ?_
          refine lv_iload_n hx hb dX6_findOpen_69 rfl (lv_at hl 2 rfl) ?_
          refine lv_dup2_11 hx hb dX6_findOpen_70 rfl rfl ?_
          obtain ⟨hin3, hm⟩ := gIn_some hm
          refine ild X hH lC_23 hin3 dX6_findOpen_71 ?_
          refine lv_iconst (v := 1) hx hb dX6_findOpen_72 (by decide) ?_
          refine lv_iload_n hx hb dX6_findOpen_73 rfl (lv_at hl 3 rfl) ?_
          refine lv_ishl hx hb dX6_findOpen_74 ?_
          refine lv_ior hx hb dX6_findOpen_75 ?_
          obtain ⟨hin5, hm⟩ := gIn_some hm
          obtain ⟨h4, eh4, hm⟩ := mlet_some hm
          refine ist X hH lC_23 hin5 dX6_findOpen_76 (fun H locs hH => ?_)
          rw [← eh4] at hH
          exact wX6_findOpen_77 X ih2 ih x2 x3 h4 _ _ _ hm hH (lv_sub hl [0, 1, 2, 3] rfl)
def mX6_findOpen_2 : Nat → Int32 → Mm → Option Mm
  | 0, _, _ => none
  | n + 1, x2, h => if (h 22 8) ≤ x2 then (some h) else (gIn x2 6 (mlet (wr h 23 x2.toNatClampNeg (0 : Int32)) (fun h1 => mX6_findOpen_19 (mX6_findOpen_2 n) FU x2 (0 : Int32) h1)))
set_option maxRecDepth 4000 in
theorem wX6_findOpen_2 {p : Program} {l : Launch} {e : Env} {s : State} {m : MethodId} {args : Array Value} {below : List Frame} {meth : Method} {c : Code} {D : va_G} {ad : Nat → Nat} {ac : Nat → ClassId} {h' : Mm} (X : Fx p s m args meth c cX6_findOpen 4 RX6 none D ad ac LC rlC) : ∀ (n : Nat) (x2 : Int32) (h : Mm) (H : Heap) (locs : List Loc) (ls : Array Slot), mX6_findOpen_2 n x2 h = some h' → Hp D ad ac LC h s H locs → lv_has ls 4 [(0, .ref (ad 22)), (1, .ref (ad 3)), (2, .int x2)] → W p l e (rmD 4) s m args below meth c H locs 0 0 (MQ below (QU D ad ac LC none h' s.heap.size) args s 0 0 (Aa ad LC.length s.heap.size)) (F0 m 2 ls []) := by
  obtain ⟨hx, hb, hml, hown, hts, hr, hlk, hC, hI, hR⟩ := id X
  intro n
  induction n with
  | zero => intro x2 h H locs ls hm; rw [mX6_findOpen_2] at hm; cases hm
  | succ n ih =>
    intro x2 h H locs ls hm hH hl
    rw [mX6_findOpen_2] at hm
    refine lv_iload_n hx hb dX6_findOpen_2 rfl (lv_at hl 2 rfl) ?_
    refine lv_aload_n hx hb dX6_findOpen_3 rfl (lv_at hl 0 rfl) ?_
    refine gI X hH fl_X6_53 lC_22 rfl dX6_findOpen_4 ?_
    refine lv_icmp_ge hx hb dX6_findOpen_7 (tgt := 89) (by decide) (fun hc => ?_) (fun hc => ?_)
    · rw [if_pos hc] at hm
      cases hm
      exact retV X hH dX6_findOpen_89
    · rw [if_neg hc] at hm
      refine lv_aload_n hx hb dX6_findOpen_10 rfl (lv_at hl 0 rfl) ?_
      refine gR X hH fl_X6_9 lC_22 rfl dX6_findOpen_11 ?_
      refine lv_iload_n hx hb dX6_findOpen_14 rfl (lv_at hl 2 rfl) ?_
      refine lv_iconst (v := 0) hx hb dX6_findOpen_15 (by decide) ?_
      obtain ⟨hin2, hm⟩ := gIn_some hm
      obtain ⟨h1, eh1, hm⟩ := mlet_some hm
      refine ist X hH lC_23 hin2 dX6_findOpen_16 (fun H locs hH => ?_)
      rw [← eh1] at hH
      refine lv_iconst (v := 0) hx hb dX6_findOpen_17 (by decide) ?_
      refine lv_istore_n (lv' := [(3, .int (0 : Int32)), (0, .ref (ad 22)), (1, .ref (ad 3)), (2, .int x2)]) hx hb dX6_findOpen_18 rfl hl (by decide) rfl (fun ls hl => ?_)
      exact wX6_findOpen_19 X ih FU x2 (0 : Int32) h1 _ _ _ hm hH (lv_sub hl [1, 2, 3, 0] rfl)
def mX6_findOpen (h : Mm) : Option Mm := mX6_findOpen_2 FU (0 : Int32) h
set_option maxRecDepth 4000 in
theorem mt_X6_findOpen {l : Launch} {D : va_G} {ad : Nat → Nat} {ac : Nat → ClassId} {h : Mm} {h' : Mm} (hm : mX6_findOpen h = some h') : Mt l D ad ac LC rlC yX6_findOpen cX6_findOpen 4 none 4 [.ref (ad 22), .ref (ad 3)] h none h' := by
  refine Mt.of (own := RX6) (by decide) rfl (Nat.le_of_ble_eq_true rfl) ?_
  intro p e s m below meth c ls X hH hl
  obtain ⟨hx, hb, hml, hown, hts, hr, hlk, hC, hI, hR⟩ := id X
  have hl : lv_has ls 4 [(0, .ref (ad 22)), (1, .ref (ad 3))] := hl
  rw [mX6_findOpen] at hm
  refine lv_iconst (v := 0) hx hb dX6_findOpen_0 (by decide) ?_
  refine lv_istore_n (lv' := [(2, .int (0 : Int32)), (0, .ref (ad 22)), (1, .ref (ad 3))]) hx hb dX6_findOpen_1 rfl hl (by decide) rfl (fun ls hl => ?_)
  exact wX6_findOpen_2 X FU (0 : Int32) h _ _ _ hm hH (lv_sub hl [1, 2, 0] rfl)
/-! X6_findApart -/
def mX6_findApart_124 (k2 : Int32 → Mm → Option Mm) (k19 : Int32 → Int32 → Mm → Option Mm) (k70 : Int32 → Int32 → Int32 → Mm → Option Mm) (x2 : Int32) (x3 : Int32) (x4 : Int32) (h : Mm) : Option Mm := k70 x2 x3 (x4 + 1) h
set_option maxRecDepth 4000 in
theorem wX6_findApart_124 {p : Program} {l : Launch} {e : Env} {s : State} {m : MethodId} {args : Array Value} {below : List Frame} {meth : Method} {c : Code} {D : va_G} {ad : Nat → Nat} {ac : Nat → ClassId} {h' : Mm} (X : Fx p s m args meth c cX6_findApart 5 RX6 none D ad ac LC rlC) {k2 : Int32 → Mm → Option Mm} {k19 : Int32 → Int32 → Mm → Option Mm} {k70 : Int32 → Int32 → Int32 → Mm → Option Mm} (ih2 : ∀ (x2 : Int32) (h : Mm) (H : Heap) (locs : List Loc) (ls : Array Slot), k2 x2 h = some h' → Hp D ad ac LC h s H locs → lv_has ls 5 [(0, .ref (ad 22)), (1, .ref (ad 3)), (2, .int x2)] → W p l e (rmD 2) s m args below meth c H locs 0 0 (MQ below (QU D ad ac LC none h' s.heap.size) args s 0 0 (Aa ad LC.length s.heap.size)) (F0 m 2 ls [])) (ih19 : ∀ (x2 : Int32) (x3 : Int32) (h : Mm) (H : Heap) (locs : List Loc) (ls : Array Slot), k19 x2 x3 h = some h' → Hp D ad ac LC h s H locs → lv_has ls 5 [(0, .ref (ad 22)), (1, .ref (ad 3)), (2, .int x2), (3, .int x3)] → W p l e (rmD 2) s m args below meth c H locs 0 0 (MQ below (QU D ad ac LC none h' s.heap.size) args s 0 0 (Aa ad LC.length s.heap.size)) (F0 m 19 ls [])) (ih70 : ∀ (x2 : Int32) (x3 : Int32) (x4 : Int32) (h : Mm) (H : Heap) (locs : List Loc) (ls : Array Slot), k70 x2 x3 x4 h = some h' → Hp D ad ac LC h s H locs → lv_has ls 5 [(0, .ref (ad 22)), (1, .ref (ad 3)), (2, .int x2), (3, .int x3), (4, .int x4)] → W p l e (rmD 2) s m args below meth c H locs 0 0 (MQ below (QU D ad ac LC none h' s.heap.size) args s 0 0 (Aa ad LC.length s.heap.size)) (F0 m 70 ls [])) : ∀ (x2 : Int32) (x3 : Int32) (x4 : Int32) (h : Mm) (H : Heap) (locs : List Loc) (ls : Array Slot), mX6_findApart_124 k2 k19 k70 x2 x3 x4 h = some h' → Hp D ad ac LC h s H locs → lv_has ls 5 [(0, .ref (ad 22)), (1, .ref (ad 3)), (2, .int x2), (3, .int x3), (4, .int x4)] → W p l e (rmD 2) s m args below meth c H locs 0 0 (MQ below (QU D ad ac LC none h' s.heap.size) args s 0 0 (Aa ad LC.length s.heap.size)) (F0 m 124 ls []) := by
  obtain ⟨hx, hb, hml, hown, hts, hr, hlk, hC, hI, hR⟩ := id X
  intro x2 x3 x4 h H locs ls hm hH hl
  rw [mX6_findApart_124] at hm
  refine lv_iinc (k := 4) (v := (x4 + 1)) (lv' := [(4, .int (x4 + 1)), (0, .ref (ad 22)), (1, .ref (ad 3)), (2, .int x2), (3, .int x3)]) hx hb dX6_findApart_124 hl rfl rfl (by decide) rfl (fun ls hl => ?_)
  refine lv_goto hx hb dX6_findApart_127 (tgt := 70) (by decide) ?_
  exact ih70 x2 x3 (x4 + 1) h _ _ _ hm hH (lv_sub hl [1, 2, 3, 4, 0] rfl)
def mX6_findApart_70 (k2 : Int32 → Mm → Option Mm) (k19 : Int32 → Int32 → Mm → Option Mm) : Nat → Int32 → Int32 → Int32 → Mm → Option Mm
  | 0, _, _, _, _ => none
  | n + 1, x2, x3, x4, h => if (h 42 3) ≤ x4 then (k19 x2 (x3 + 1) h) else (bd1 (mX4_goTogether h ((h 22 11) + x3) ((h 22 11) + x2) x4) (fun v1 => if v1 = 0 then (gIn ((x3 * (6 : Int32)) + x2) 36 (gIn ((x3 * (6 : Int32)) + x2) 36 (mlet (wr h 24 ((x3 * (6 : Int32)) + x2).toNatClampNeg ((h 24 ((x3 * (6 : Int32)) + x2).toNatClampNeg) ||| ((1 : Int32) <<< (x4 &&& 31)))) (fun h3 => mX6_findApart_124 k2 k19 (mX6_findApart_70 k2 k19 n) x2 x3 x4 h3)))) else (mX6_findApart_124 k2 k19 (mX6_findApart_70 k2 k19 n) x2 x3 x4 h)))
set_option maxRecDepth 4000 in
theorem wX6_findApart_70 {p : Program} {l : Launch} {e : Env} {s : State} {m : MethodId} {args : Array Value} {below : List Frame} {meth : Method} {c : Code} {D : va_G} {ad : Nat → Nat} {ac : Nat → ClassId} {h' : Mm} (X : Fx p s m args meth c cX6_findApart 5 RX6 none D ad ac LC rlC) {k2 : Int32 → Mm → Option Mm} {k19 : Int32 → Int32 → Mm → Option Mm} (ih2 : ∀ (x2 : Int32) (h : Mm) (H : Heap) (locs : List Loc) (ls : Array Slot), k2 x2 h = some h' → Hp D ad ac LC h s H locs → lv_has ls 5 [(0, .ref (ad 22)), (1, .ref (ad 3)), (2, .int x2)] → W p l e (rmD 2) s m args below meth c H locs 0 0 (MQ below (QU D ad ac LC none h' s.heap.size) args s 0 0 (Aa ad LC.length s.heap.size)) (F0 m 2 ls [])) (ih19 : ∀ (x2 : Int32) (x3 : Int32) (h : Mm) (H : Heap) (locs : List Loc) (ls : Array Slot), k19 x2 x3 h = some h' → Hp D ad ac LC h s H locs → lv_has ls 5 [(0, .ref (ad 22)), (1, .ref (ad 3)), (2, .int x2), (3, .int x3)] → W p l e (rmD 2) s m args below meth c H locs 0 0 (MQ below (QU D ad ac LC none h' s.heap.size) args s 0 0 (Aa ad LC.length s.heap.size)) (F0 m 19 ls [])) : ∀ (n : Nat) (x2 : Int32) (x3 : Int32) (x4 : Int32) (h : Mm) (H : Heap) (locs : List Loc) (ls : Array Slot), mX6_findApart_70 k2 k19 n x2 x3 x4 h = some h' → Hp D ad ac LC h s H locs → lv_has ls 5 [(0, .ref (ad 22)), (1, .ref (ad 3)), (2, .int x2), (3, .int x3), (4, .int x4)] → W p l e (rmD 2) s m args below meth c H locs 0 0 (MQ below (QU D ad ac LC none h' s.heap.size) args s 0 0 (Aa ad LC.length s.heap.size)) (F0 m 70 ls []) := by
  obtain ⟨hx, hb, hml, hown, hts, hr, hlk, hC, hI, hR⟩ := id X
  intro n
  induction n with
  | zero => intro x2 x3 x4 h H locs ls hm; rw [mX6_findApart_70] at hm; cases hm
  | succ n ih =>
    intro x2 x3 x4 h H locs ls hm hH hl
    rw [mX6_findApart_70] at hm
    refine lv_iload hx hb dX6_findApart_70 (lv_at hl 4 rfl) ?_
    refine lv_aload_n hx hb dX6_findApart_72 rfl (lv_at hl 1 rfl) ?_
    refine gR X hH fl_X6_93 lC_3 rfl dX6_findApart_73 ?_
    refine gR X hH fl_X6_97 lC_30 rfl dX6_findApart_76 ?_
    refine gI X hH fl_X6_103 lC_42 rfl dX6_findApart_79 ?_
    refine lv_icmp_ge hx hb dX6_findApart_82 (tgt := 130) (by decide) (fun hc => ?_) (fun hc => ?_)
    · rw [if_pos hc] at hm
      refine lv_iinc (k := 3) (v := (x3 + 1)) (lv' := [(3, .int (x3 + 1)), (0, .ref (ad 22)), (1, .ref (ad 3)), (2, .int x2), (4, .int x4)]) hx hb dX6_findApart_130 hl rfl rfl (by decide) rfl (fun ls hl => ?_)
      refine lv_goto hx hb dX6_findApart_133 (tgt := 19) (by decide) ?_
      exact ih19 x2 (x3 + 1) h _ _ _ hm hH (lv_sub hl [1, 2, 3, 0] rfl)
    · rw [if_neg hc] at hm
      refine lv_aload_n hx hb dX6_findApart_85 rfl (lv_at hl 1 rfl) ?_
      refine lv_aload_n hx hb dX6_findApart_86 rfl (lv_at hl 0 rfl) ?_
      refine gI X hH fl_X6_41 lC_22 rfl dX6_findApart_87 ?_
      refine lv_iload_n hx hb dX6_findApart_90 rfl (lv_at hl 3 rfl) ?_
      refine lv_iadd hx hb dX6_findApart_91 ?_
      refine lv_aload_n hx hb dX6_findApart_92 rfl (lv_at hl 0 rfl) ?_
      refine gI X hH fl_X6_41 lC_22 rfl dX6_findApart_93 ?_
      refine lv_iload_n hx hb dX6_findApart_96 rfl (lv_at hl 2 rfl) ?_
      refine lv_iadd hx hb dX6_findApart_97 ?_
      refine lv_iload hx hb dX6_findApart_98 (lv_at hl 4 rfl) ?_
      obtain ⟨v1, hq, hm⟩ := bd1_some hm
      refine cVi X hH kl_X6_119 kv_X4_goTogether (mt_X4_goTogether hq) lC_3 rfl rfl (by decide) hl.1 rfl (Nat.le_of_ble_eq_true rfl) dX6_findApart_100 (fun H locs hH => ?_)
      refine lv_if_ne hx hb dX6_findApart_103 (tgt := 124) (by decide) (fun hc => ?_) (fun hc => ?_)
      · rw [if_neg hc] at hm
        exact wX6_findApart_124 X ih2 ih19 ih x2 x3 x4 h _ _ _ hm hH (lv_sub hl [0, 1, 2, 3, 4] rfl)
      · rw [if_pos hc] at hm
        refine lv_aload_n hx hb dX6_findApart_106 rfl (lv_at hl 0 rfl) ?_
        refine gR X hH fl_X6_15 lC_22 rfl dX6_findApart_107 ?_
        refine lv_iload_n hx hb dX6_findApart_110 rfl (lv_at hl 3 rfl) ?_
        refine lv_bipush (v := 6) hx hb dX6_findApart_111 (by decide) ?_
        refine lv_imul hx hb dX6_findApart_113 ?_
        refine lv_iload_n hx hb dX6_findApart_114 rfl (lv_at hl 2 rfl) ?_
        refine lv_iadd hx hb dX6_findApart_115 ?_
        refine lv_dup2_11 hx hb dX6_findApart_116 rfl rfl ?_
        obtain ⟨hin2, hm⟩ := gIn_some hm
        refine ild X hH lC_24 hin2 dX6_findApart_117 ?_
        refine lv_iconst (v := 1) hx hb dX6_findApart_118 (by decide) ?_
        refine lv_iload hx hb dX6_findApart_119 (lv_at hl 4 rfl) ?_
        refine lv_ishl hx hb dX6_findApart_121 ?_
        refine lv_ior hx hb dX6_findApart_122 ?_
        obtain ⟨hin4, hm⟩ := gIn_some hm
        obtain ⟨h3, eh3, hm⟩ := mlet_some hm
        refine ist X hH lC_24 hin4 dX6_findApart_123 (fun H locs hH => ?_)
        rw [← eh3] at hH
        exact wX6_findApart_124 X ih2 ih19 ih x2 x3 x4 h3 _ _ _ hm hH (lv_sub hl [0, 1, 2, 3, 4] rfl)
def mX6_findApart_55 (k2 : Int32 → Mm → Option Mm) (k19 : Int32 → Int32 → Mm → Option Mm) (x2 : Int32) (x3 : Int32) (h : Mm) : Option Mm := gIn ((x3 * (6 : Int32)) + x2) 36 (mlet (wr h 24 ((x3 * (6 : Int32)) + x2).toNatClampNeg (0 : Int32)) (fun h1 => mX6_findApart_70 k2 k19 FU x2 x3 (0 : Int32) h1))
set_option maxRecDepth 4000 in
theorem wX6_findApart_55 {p : Program} {l : Launch} {e : Env} {s : State} {m : MethodId} {args : Array Value} {below : List Frame} {meth : Method} {c : Code} {D : va_G} {ad : Nat → Nat} {ac : Nat → ClassId} {h' : Mm} (X : Fx p s m args meth c cX6_findApart 5 RX6 none D ad ac LC rlC) {k2 : Int32 → Mm → Option Mm} {k19 : Int32 → Int32 → Mm → Option Mm} (ih2 : ∀ (x2 : Int32) (h : Mm) (H : Heap) (locs : List Loc) (ls : Array Slot), k2 x2 h = some h' → Hp D ad ac LC h s H locs → lv_has ls 5 [(0, .ref (ad 22)), (1, .ref (ad 3)), (2, .int x2)] → W p l e (rmD 2) s m args below meth c H locs 0 0 (MQ below (QU D ad ac LC none h' s.heap.size) args s 0 0 (Aa ad LC.length s.heap.size)) (F0 m 2 ls [])) (ih19 : ∀ (x2 : Int32) (x3 : Int32) (h : Mm) (H : Heap) (locs : List Loc) (ls : Array Slot), k19 x2 x3 h = some h' → Hp D ad ac LC h s H locs → lv_has ls 5 [(0, .ref (ad 22)), (1, .ref (ad 3)), (2, .int x2), (3, .int x3)] → W p l e (rmD 2) s m args below meth c H locs 0 0 (MQ below (QU D ad ac LC none h' s.heap.size) args s 0 0 (Aa ad LC.length s.heap.size)) (F0 m 19 ls [])) : ∀ (x2 : Int32) (x3 : Int32) (h : Mm) (H : Heap) (locs : List Loc) (ls : Array Slot), mX6_findApart_55 k2 k19 x2 x3 h = some h' → Hp D ad ac LC h s H locs → lv_has ls 5 [(0, .ref (ad 22)), (1, .ref (ad 3)), (2, .int x2), (3, .int x3)] → W p l e (rmD 2) s m args below meth c H locs 0 0 (MQ below (QU D ad ac LC none h' s.heap.size) args s 0 0 (Aa ad LC.length s.heap.size)) (F0 m 55 ls []) := by
  obtain ⟨hx, hb, hml, hown, hts, hr, hlk, hC, hI, hR⟩ := id X
  intro x2 x3 h H locs ls hm hH hl
  rw [mX6_findApart_55] at hm
  refine lv_aload_n hx hb dX6_findApart_55 rfl (lv_at hl 0 rfl) ?_
  refine gR X hH fl_X6_15 lC_22 rfl dX6_findApart_56 ?_
  refine lv_iload_n hx hb dX6_findApart_59 rfl (lv_at hl 3 rfl) ?_
  refine lv_bipush (v := 6) hx hb dX6_findApart_60 (by decide) ?_
  refine lv_imul hx hb dX6_findApart_62 ?_
  refine lv_iload_n hx hb dX6_findApart_63 rfl (lv_at hl 2 rfl) ?_
  refine lv_iadd hx hb dX6_findApart_64 ?_
  refine lv_iconst (v := 0) hx hb dX6_findApart_65 (by decide) ?_
  obtain ⟨hin2, hm⟩ := gIn_some hm
  obtain ⟨h1, eh1, hm⟩ := mlet_some hm
  refine ist X hH lC_24 hin2 dX6_findApart_66 (fun H locs hH => ?_)
  rw [← eh1] at hH
  refine lv_iconst (v := 0) hx hb dX6_findApart_67 (by decide) ?_
  refine lv_istore (lv' := [(4, .int (0 : Int32)), (0, .ref (ad 22)), (1, .ref (ad 3)), (2, .int x2), (3, .int x3)]) hx hb dX6_findApart_68 hl (by decide) rfl (fun ls hl => ?_)
  exact wX6_findApart_70 X ih2 ih19 FU x2 x3 (0 : Int32) h1 _ _ _ hm hH (lv_sub hl [1, 2, 3, 4, 0] rfl)
def mX6_findApart_19 (k2 : Int32 → Mm → Option Mm) : Nat → Int32 → Int32 → Mm → Option Mm
  | 0, _, _, _ => none
  | n + 1, x2, x3, h => if x2 ≤ x3 then (k2 (x2 + 1) h) else (bd1 (mX4_shareSatAndSlot h ((h 22 11) + x3) ((h 22 11) + x2)) (fun v1 => if v1 = 0 then (mX6_findApart_55 k2 (mX6_findApart_19 k2 n) x2 x3 h) else (gIn x2 6 (gIn x2 6 (mlet (wr h 25 x2.toNatClampNeg ((h 25 x2.toNatClampNeg) ||| ((1 : Int32) <<< (x3 &&& 31)))) (fun h3 => mX6_findApart_55 k2 (mX6_findApart_19 k2 n) x2 x3 h3))))))
set_option maxRecDepth 4000 in
theorem wX6_findApart_19 {p : Program} {l : Launch} {e : Env} {s : State} {m : MethodId} {args : Array Value} {below : List Frame} {meth : Method} {c : Code} {D : va_G} {ad : Nat → Nat} {ac : Nat → ClassId} {h' : Mm} (X : Fx p s m args meth c cX6_findApart 5 RX6 none D ad ac LC rlC) {k2 : Int32 → Mm → Option Mm} (ih2 : ∀ (x2 : Int32) (h : Mm) (H : Heap) (locs : List Loc) (ls : Array Slot), k2 x2 h = some h' → Hp D ad ac LC h s H locs → lv_has ls 5 [(0, .ref (ad 22)), (1, .ref (ad 3)), (2, .int x2)] → W p l e (rmD 2) s m args below meth c H locs 0 0 (MQ below (QU D ad ac LC none h' s.heap.size) args s 0 0 (Aa ad LC.length s.heap.size)) (F0 m 2 ls [])) : ∀ (n : Nat) (x2 : Int32) (x3 : Int32) (h : Mm) (H : Heap) (locs : List Loc) (ls : Array Slot), mX6_findApart_19 k2 n x2 x3 h = some h' → Hp D ad ac LC h s H locs → lv_has ls 5 [(0, .ref (ad 22)), (1, .ref (ad 3)), (2, .int x2), (3, .int x3)] → W p l e (rmD 2) s m args below meth c H locs 0 0 (MQ below (QU D ad ac LC none h' s.heap.size) args s 0 0 (Aa ad LC.length s.heap.size)) (F0 m 19 ls []) := by
  obtain ⟨hx, hb, hml, hown, hts, hr, hlk, hC, hI, hR⟩ := id X
  intro n
  induction n with
  | zero => intro x2 x3 h H locs ls hm; rw [mX6_findApart_19] at hm; cases hm
  | succ n ih =>
    intro x2 x3 h H locs ls hm hH hl
    rw [mX6_findApart_19] at hm
    refine lv_iload_n hx hb dX6_findApart_19 rfl (lv_at hl 3 rfl) ?_
    refine lv_iload_n hx hb dX6_findApart_20 rfl (lv_at hl 2 rfl) ?_
    refine lv_icmp_ge hx hb dX6_findApart_21 (tgt := 136) (by decide) (fun hc => ?_) (fun hc => ?_)
    · rw [if_pos hc] at hm
      refine lv_iinc (k := 2) (v := (x2 + 1)) (lv' := [(2, .int (x2 + 1)), (0, .ref (ad 22)), (1, .ref (ad 3)), (3, .int x3)]) hx hb dX6_findApart_136 hl rfl rfl (by decide) rfl (fun ls hl => ?_)
      refine lv_goto hx hb dX6_findApart_139 (tgt := 2) (by decide) ?_
      exact ih2 (x2 + 1) h _ _ _ hm hH (lv_sub hl [1, 2, 0] rfl)
    · rw [if_neg hc] at hm
      refine lv_aload_n hx hb dX6_findApart_24 rfl (lv_at hl 1 rfl) ?_
      refine lv_aload_n hx hb dX6_findApart_25 rfl (lv_at hl 0 rfl) ?_
      refine gI X hH fl_X6_41 lC_22 rfl dX6_findApart_26 ?_
      refine lv_iload_n hx hb dX6_findApart_29 rfl (lv_at hl 3 rfl) ?_
      refine lv_iadd hx hb dX6_findApart_30 ?_
      refine lv_aload_n hx hb dX6_findApart_31 rfl (lv_at hl 0 rfl) ?_
      refine gI X hH fl_X6_41 lC_22 rfl dX6_findApart_32 ?_
      refine lv_iload_n hx hb dX6_findApart_35 rfl (lv_at hl 2 rfl) ?_
      refine lv_iadd hx hb dX6_findApart_36 ?_
      obtain ⟨v1, hq, hm⟩ := bd1_some hm
      refine cVi X hH kl_X6_116 kv_X4_shareSatAndSlot (mt_X4_shareSatAndSlot hq) lC_3 rfl rfl (by decide) hl.1 rfl (Nat.le_of_ble_eq_true rfl) dX6_findApart_37 (fun H locs hH => ?_)
      refine lv_if_eq hx hb dX6_findApart_40 (tgt := 55) (by decide) (fun hc => ?_) (fun hc => ?_)
      · rw [if_pos hc] at hm
        exact wX6_findApart_55 X ih2 ih x2 x3 h _ _ _ hm hH (lv_sub hl [0, 1, 2, 3] rfl)
      · rw [if_neg hc] at hm
        refine lv_aload_n hx hb dX6_findApart_43 rfl (lv_at hl 0 rfl) ?_
        refine gR X hH fl_X6_18 lC_22 rfl dX6_findApart_44 ?_
        refine lv_iload_n hx hb dX6_findApart_47 rfl (lv_at hl 2 rfl) ?_
        refine lv_dup2_11 hx hb dX6_findApart_48 rfl rfl ?_
        obtain ⟨hin2, hm⟩ := gIn_some hm
        refine ild X hH lC_25 hin2 dX6_findApart_49 ?_
        refine lv_iconst (v := 1) hx hb dX6_findApart_50 (by decide) ?_
        refine lv_iload_n hx hb dX6_findApart_51 rfl (lv_at hl 3 rfl) ?_
        refine lv_ishl hx hb dX6_findApart_52 ?_
        refine lv_ior hx hb dX6_findApart_53 ?_
        obtain ⟨hin4, hm⟩ := gIn_some hm
        obtain ⟨h3, eh3, hm⟩ := mlet_some hm
        refine ist X hH lC_25 hin4 dX6_findApart_54 (fun H locs hH => ?_)
        rw [← eh3] at hH
        exact wX6_findApart_55 X ih2 ih x2 x3 h3 _ _ _ hm hH (lv_sub hl [0, 1, 2, 3] rfl)
def mX6_findApart_2 : Nat → Int32 → Mm → Option Mm
  | 0, _, _ => none
  | n + 1, x2, h => if (h 22 8) ≤ x2 then (some h) else (gIn x2 6 (mlet (wr h 25 x2.toNatClampNeg (0 : Int32)) (fun h1 => mX6_findApart_19 (mX6_findApart_2 n) FU x2 (0 : Int32) h1)))
set_option maxRecDepth 4000 in
theorem wX6_findApart_2 {p : Program} {l : Launch} {e : Env} {s : State} {m : MethodId} {args : Array Value} {below : List Frame} {meth : Method} {c : Code} {D : va_G} {ad : Nat → Nat} {ac : Nat → ClassId} {h' : Mm} (X : Fx p s m args meth c cX6_findApart 5 RX6 none D ad ac LC rlC) : ∀ (n : Nat) (x2 : Int32) (h : Mm) (H : Heap) (locs : List Loc) (ls : Array Slot), mX6_findApart_2 n x2 h = some h' → Hp D ad ac LC h s H locs → lv_has ls 5 [(0, .ref (ad 22)), (1, .ref (ad 3)), (2, .int x2)] → W p l e (rmD 2) s m args below meth c H locs 0 0 (MQ below (QU D ad ac LC none h' s.heap.size) args s 0 0 (Aa ad LC.length s.heap.size)) (F0 m 2 ls []) := by
  obtain ⟨hx, hb, hml, hown, hts, hr, hlk, hC, hI, hR⟩ := id X
  intro n
  induction n with
  | zero => intro x2 h H locs ls hm; rw [mX6_findApart_2] at hm; cases hm
  | succ n ih =>
    intro x2 h H locs ls hm hH hl
    rw [mX6_findApart_2] at hm
    refine lv_iload_n hx hb dX6_findApart_2 rfl (lv_at hl 2 rfl) ?_
    refine lv_aload_n hx hb dX6_findApart_3 rfl (lv_at hl 0 rfl) ?_
    refine gI X hH fl_X6_53 lC_22 rfl dX6_findApart_4 ?_
    refine lv_icmp_ge hx hb dX6_findApart_7 (tgt := 142) (by decide) (fun hc => ?_) (fun hc => ?_)
    · rw [if_pos hc] at hm
      cases hm
      exact retV X hH dX6_findApart_142
    · rw [if_neg hc] at hm
      refine lv_aload_n hx hb dX6_findApart_10 rfl (lv_at hl 0 rfl) ?_
      refine gR X hH fl_X6_18 lC_22 rfl dX6_findApart_11 ?_
      refine lv_iload_n hx hb dX6_findApart_14 rfl (lv_at hl 2 rfl) ?_
      refine lv_iconst (v := 0) hx hb dX6_findApart_15 (by decide) ?_
      obtain ⟨hin2, hm⟩ := gIn_some hm
      obtain ⟨h1, eh1, hm⟩ := mlet_some hm
      refine ist X hH lC_25 hin2 dX6_findApart_16 (fun H locs hH => ?_)
      rw [← eh1] at hH
      refine lv_iconst (v := 0) hx hb dX6_findApart_17 (by decide) ?_
      refine lv_istore_n (lv' := [(3, .int (0 : Int32)), (0, .ref (ad 22)), (1, .ref (ad 3)), (2, .int x2)]) hx hb dX6_findApart_18 rfl hl (by decide) rfl (fun ls hl => ?_)
      exact wX6_findApart_19 X ih FU x2 (0 : Int32) h1 _ _ _ hm hH (lv_sub hl [1, 2, 3, 0] rfl)
def mX6_findApart (h : Mm) : Option Mm := mX6_findApart_2 FU (0 : Int32) h
set_option maxRecDepth 4000 in
theorem mt_X6_findApart {l : Launch} {D : va_G} {ad : Nat → Nat} {ac : Nat → ClassId} {h : Mm} {h' : Mm} (hm : mX6_findApart h = some h') : Mt l D ad ac LC rlC yX6_findApart cX6_findApart 5 none 2 [.ref (ad 22), .ref (ad 3)] h none h' := by
  refine Mt.of (own := RX6) (by decide) rfl (Nat.le_of_ble_eq_true rfl) ?_
  intro p e s m below meth c ls X hH hl
  obtain ⟨hx, hb, hml, hown, hts, hr, hlk, hC, hI, hR⟩ := id X
  have hl : lv_has ls 5 [(0, .ref (ad 22)), (1, .ref (ad 3))] := hl
  rw [mX6_findApart] at hm
  refine lv_iconst (v := 0) hx hb dX6_findApart_0 (by decide) ?_
  refine lv_istore_n (lv' := [(2, .int (0 : Int32)), (0, .ref (ad 22)), (1, .ref (ad 3))]) hx hb dX6_findApart_1 rfl hl (by decide) rfl (fun ls hl => ?_)
  exact wX6_findApart_2 X FU (0 : Int32) h _ _ _ hm hH (lv_sub hl [1, 2, 0] rfl)
/-! J7_fill_53178_26 -/
def mJ7_fill_53178_26_5 : Nat → Int32 → Int32 → Int32 → Mm → Option Mm
  | 0, _, _, _, _ => none
  | n + 1, x1, x2, x3, h => if x3 ≤ x2 then (some h) else (gIn x2 128 (mlet (wr h 26 x2.toNatClampNeg x1) (fun h1 => mJ7_fill_53178_26_5 n x1 (x2 + 1) x3 h1)))
set_option maxRecDepth 4000 in
theorem wJ7_fill_53178_26_5 {p : Program} {l : Launch} {e : Env} {s : State} {m : MethodId} {args : Array Value} {below : List Frame} {meth : Method} {c : Code} {D : va_G} {ad : Nat → Nat} {ac : Nat → ClassId} {h' : Mm} (X : Fx p s m args meth c cJ7_fill_53178 4 RJ7 none D ad ac LC rlC) : ∀ (n : Nat) (x1 : Int32) (x2 : Int32) (x3 : Int32) (h : Mm) (H : Heap) (locs : List Loc) (ls : Array Slot), mJ7_fill_53178_26_5 n x1 x2 x3 h = some h' → Hp D ad ac LC h s H locs → lv_has ls 4 [(0, .ref (ad 26)), (1, .int x1), (2, .int x2), (3, .int x3)] → W p l e (rmD 0) s m args below meth c H locs 0 0 (MQ below (QU D ad ac LC none h' s.heap.size) args s 0 0 (Aa ad LC.length s.heap.size)) (F0 m 5 ls []) := by
  obtain ⟨hx, hb, hml, hown, hts, hr, hlk, hC, hI, hR⟩ := id X
  intro n
  induction n with
  | zero => intro x1 x2 x3 h H locs ls hm; rw [mJ7_fill_53178_26_5] at hm; cases hm
  | succ n ih =>
    intro x1 x2 x3 h H locs ls hm hH hl
    rw [mJ7_fill_53178_26_5] at hm
    refine lv_iload_n hx hb dJ7_fill_53178_5 rfl (lv_at hl 2 rfl) ?_
    refine lv_iload_n hx hb dJ7_fill_53178_6 rfl (lv_at hl 3 rfl) ?_
    refine lv_icmp_ge hx hb dJ7_fill_53178_7 (tgt := 20) (by decide) (fun hc => ?_) (fun hc => ?_)
    · rw [if_pos hc] at hm
      cases hm
      exact retV X hH dJ7_fill_53178_20
    · rw [if_neg hc] at hm
      refine lv_aload_n hx hb dJ7_fill_53178_10 rfl (lv_at hl 0 rfl) ?_
      refine lv_iload_n hx hb dJ7_fill_53178_11 rfl (lv_at hl 2 rfl) ?_
      refine lv_iload_n hx hb dJ7_fill_53178_12 rfl (lv_at hl 1 rfl) ?_
      obtain ⟨hin2, hm⟩ := gIn_some hm
      obtain ⟨h1, eh1, hm⟩ := mlet_some hm
      refine ist X hH lC_26 hin2 dJ7_fill_53178_13 (fun H locs hH => ?_)
      rw [← eh1] at hH
      refine lv_iinc (k := 2) (v := (x2 + 1)) (lv' := [(2, .int (x2 + 1)), (0, .ref (ad 26)), (1, .int x1), (3, .int x3)]) hx hb dJ7_fill_53178_14 hl rfl rfl (by decide) rfl (fun ls hl => ?_)
      refine lv_goto hx hb dJ7_fill_53178_17 (tgt := 5) (by decide) ?_
      exact ih x1 (x2 + 1) x3 h1 _ _ _ hm hH (lv_sub hl [1, 2, 0, 3] rfl)
def mJ7_fill_53178_26 (h : Mm) (a1 : Int32) : Option Mm := mlet (nI 128) (fun u1 => mJ7_fill_53178_26_5 FU a1 (0 : Int32) u1 h)
set_option maxRecDepth 4000 in
theorem mt_J7_fill_53178_26 {l : Launch} {D : va_G} {ad : Nat → Nat} {ac : Nat → ClassId} {h : Mm} {a1 : Int32} {h' : Mm} (hm : mJ7_fill_53178_26 h a1 = some h') : Mt l D ad ac LC rlC yJ7_fill_53178 cJ7_fill_53178 4 none 0 [.ref (ad 26), .int a1] h none h' := by
  refine Mt.of (own := RJ7) (by decide) rfl (Nat.le_of_ble_eq_true rfl) ?_
  intro p e s m below meth c ls X hH hl
  obtain ⟨hx, hb, hml, hown, hts, hr, hlk, hC, hI, hR⟩ := id X
  have hl : lv_has ls 4 [(0, .ref (ad 26)), (1, .int a1)] := hl
  rw [mJ7_fill_53178_26] at hm
  refine lv_iconst (v := 0) hx hb dJ7_fill_53178_0 (by decide) ?_
  refine lv_istore_n (lv' := [(2, .int (0 : Int32)), (0, .ref (ad 26)), (1, .int a1)]) hx hb dJ7_fill_53178_1 rfl hl (by decide) rfl (fun ls hl => ?_)
  refine lv_aload_n hx hb dJ7_fill_53178_2 rfl (lv_at hl 1 rfl) ?_
  refine aln X hH lC_26 (by decide) dJ7_fill_53178_3 ?_
  obtain ⟨u1, eu1, hm⟩ := mlet_some hm
  refine W.eq (g2 := F0 m 4 ls (.int u1 :: [])) (by rw [eu1]) ?_
  refine lv_istore_n (lv' := [(3, .int u1), (2, .int (0 : Int32)), (0, .ref (ad 26)), (1, .int a1)]) hx hb dJ7_fill_53178_4 rfl hl (by decide) rfl (fun ls hl => ?_)
  exact wJ7_fill_53178_26_5 X FU a1 (0 : Int32) u1 h _ _ _ hm hH (lv_sub hl [2, 3, 1, 0] rfl)
/-! X6_passesOf -/
def mX6_passesOf_40 (h : Mm) (k5 : Int32 → Int32 → Int32 → Option Int32) (x2 : Int32) (x3 : Int32) (x4 : Int32) : Option Int32 := k5 x2 x3 (x4 + 1)
set_option maxRecDepth 4000 in
theorem wX6_passesOf_40 {p : Program} {l : Launch} {e : Env} {s : State} {m : MethodId} {args : Array Value} {below : List Frame} {meth : Method} {c : Code} {D : va_G} {ad : Nat → Nat} {ac : Nat → ClassId} {h : Mm} {r : Int32} (X : Fx p s m args meth c cX6_passesOf 5 RX6 (some .int) D ad ac LC rlC) {k5 : Int32 → Int32 → Int32 → Option Int32} (ih5 : ∀ (x2 : Int32) (x3 : Int32) (x4 : Int32) (H : Heap) (locs : List Loc) (ls : Array Slot), k5 x2 x3 x4 = some r → Hp D ad ac LC h s H locs → lv_has ls 5 [(0, .ref (ad 22)), (1, .ref (ad 3)), (2, .int x2), (3, .int x3), (4, .int x4)] → W p l e (rmD 0) s m args below meth c H locs 0 0 (MQ below (QU D ad ac LC (some (.int r)) h s.heap.size) args s 0 0 (Aa ad LC.length s.heap.size)) (F0 m 5 ls [])) : ∀ (x2 : Int32) (x3 : Int32) (x4 : Int32) (H : Heap) (locs : List Loc) (ls : Array Slot), mX6_passesOf_40 h k5 x2 x3 x4 = some r → Hp D ad ac LC h s H locs → lv_has ls 5 [(0, .ref (ad 22)), (1, .ref (ad 3)), (2, .int x2), (3, .int x3), (4, .int x4)] → W p l e (rmD 0) s m args below meth c H locs 0 0 (MQ below (QU D ad ac LC (some (.int r)) h s.heap.size) args s 0 0 (Aa ad LC.length s.heap.size)) (F0 m 40 ls []) := by
  obtain ⟨hx, hb, hml, hown, hts, hr, hlk, hC, hI, hR⟩ := id X
  intro x2 x3 x4 H locs ls hm hH hl
  rw [mX6_passesOf_40] at hm
  refine lv_iinc (k := 4) (v := (x4 + 1)) (lv' := [(4, .int (x4 + 1)), (0, .ref (ad 22)), (1, .ref (ad 3)), (2, .int x2), (3, .int x3)]) hx hb dX6_passesOf_40 hl rfl rfl (by decide) rfl (fun ls hl => ?_)
  refine lv_goto hx hb dX6_passesOf_43 (tgt := 5) (by decide) ?_
  exact ih5 x2 x3 (x4 + 1) _ _ _ hm hH (lv_sub hl [1, 2, 3, 4, 0] rfl)
def mX6_passesOf_5 (h : Mm) : Nat → Int32 → Int32 → Int32 → Option Int32
  | 0, _, _, _ => none
  | n + 1, x2, x3, x4 => if (h 22 8) ≤ x4 then (some x3) else (gIn ((h 22 11) + x4) 24 (if (h 7 ((h 22 11) + x4).toNatClampNeg) = x2 then (mlet (x3 ||| ((1 : Int32) <<< (x4 &&& 31))) (fun u2 => mX6_passesOf_40 h (mX6_passesOf_5 h n) x2 u2 x4)) else (mX6_passesOf_40 h (mX6_passesOf_5 h n) x2 x3 x4)))
set_option maxRecDepth 4000 in
theorem wX6_passesOf_5 {p : Program} {l : Launch} {e : Env} {s : State} {m : MethodId} {args : Array Value} {below : List Frame} {meth : Method} {c : Code} {D : va_G} {ad : Nat → Nat} {ac : Nat → ClassId} {h : Mm} {r : Int32} (X : Fx p s m args meth c cX6_passesOf 5 RX6 (some .int) D ad ac LC rlC) : ∀ (n : Nat) (x2 : Int32) (x3 : Int32) (x4 : Int32) (H : Heap) (locs : List Loc) (ls : Array Slot), mX6_passesOf_5 h n x2 x3 x4 = some r → Hp D ad ac LC h s H locs → lv_has ls 5 [(0, .ref (ad 22)), (1, .ref (ad 3)), (2, .int x2), (3, .int x3), (4, .int x4)] → W p l e (rmD 0) s m args below meth c H locs 0 0 (MQ below (QU D ad ac LC (some (.int r)) h s.heap.size) args s 0 0 (Aa ad LC.length s.heap.size)) (F0 m 5 ls []) := by
  obtain ⟨hx, hb, hml, hown, hts, hr, hlk, hC, hI, hR⟩ := id X
  intro n
  induction n with
  | zero => intro x2 x3 x4 H locs ls hm; rw [mX6_passesOf_5] at hm; cases hm
  | succ n ih =>
    intro x2 x3 x4 H locs ls hm hH hl
    rw [mX6_passesOf_5] at hm
    refine lv_iload hx hb dX6_passesOf_5 (lv_at hl 4 rfl) ?_
    refine lv_aload_n hx hb dX6_passesOf_7 rfl (lv_at hl 0 rfl) ?_
    refine gI X hH fl_X6_53 lC_22 rfl dX6_passesOf_8 ?_
    refine lv_icmp_ge hx hb dX6_passesOf_11 (tgt := 46) (by decide) (fun hc => ?_) (fun hc => ?_)
    · rw [if_pos hc] at hm
      refine lv_iload_n hx hb dX6_passesOf_46 rfl (lv_at hl 3 rfl) ?_
      cases hm
      exact retI X hH dX6_passesOf_47
    · rw [if_neg hc] at hm
      refine lv_aload_n hx hb dX6_passesOf_14 rfl (lv_at hl 1 rfl) ?_
      refine gR X hH fl_X6_150 lC_3 rfl dX6_passesOf_15 ?_
      refine gR X hH fl_X6_154 lC_4 rfl dX6_passesOf_18 ?_
      refine lv_aload_n hx hb dX6_passesOf_21 rfl (lv_at hl 0 rfl) ?_
      refine gI X hH fl_X6_41 lC_22 rfl dX6_passesOf_22 ?_
      refine lv_iload hx hb dX6_passesOf_25 (lv_at hl 4 rfl) ?_
      refine lv_iadd hx hb dX6_passesOf_27 ?_
      obtain ⟨hin1, hm⟩ := gIn_some hm
      refine ild X hH lC_7 hin1 dX6_passesOf_28 ?_
      refine lv_iload_n hx hb dX6_passesOf_29 rfl (lv_at hl 2 rfl) ?_
      refine lv_icmp_ne hx hb dX6_passesOf_30 (tgt := 40) (by decide) (fun hc => ?_) (fun hc => ?_)
      · rw [if_neg hc] at hm
        exact wX6_passesOf_40 X ih x2 x3 x4 _ _ _ hm hH (lv_sub hl [0, 1, 2, 3, 4] rfl)
      · rw [if_pos hc] at hm
        refine lv_iload_n hx hb dX6_passesOf_33 rfl (lv_at hl 3 rfl) ?_
        refine lv_iconst (v := 1) hx hb dX6_passesOf_34 (by decide) ?_
        refine lv_iload hx hb dX6_passesOf_35 (lv_at hl 4 rfl) ?_
        refine lv_ishl hx hb dX6_passesOf_37 ?_
        refine lv_ior hx hb dX6_passesOf_38 ?_
        obtain ⟨u2, eu2, hm⟩ := mlet_some hm
        refine W.eq (g2 := F0 m 39 ls (.int u2 :: [])) (by rw [eu2]) ?_
        refine lv_istore_n (lv' := [(3, .int u2), (0, .ref (ad 22)), (1, .ref (ad 3)), (2, .int x2), (4, .int x4)]) hx hb dX6_passesOf_39 rfl hl (by decide) rfl (fun ls hl => ?_)
        exact wX6_passesOf_40 X ih x2 u2 x4 _ _ _ hm hH (lv_sub hl [1, 2, 3, 0, 4] rfl)
def mX6_passesOf (h : Mm) (a2 : Int32) : Option Int32 := mX6_passesOf_5 h FU a2 (0 : Int32) (0 : Int32)
set_option maxRecDepth 4000 in
theorem mt_X6_passesOf {l : Launch} {D : va_G} {ad : Nat → Nat} {ac : Nat → ClassId} {h : Mm} {a2 : Int32} {r : Int32} (hm : mX6_passesOf h a2 = some r) : Mt l D ad ac LC rlC yX6_passesOf cX6_passesOf 5 (some .int) 0 [.ref (ad 22), .ref (ad 3), .int a2] h (some (.int r)) h := by
  refine Mt.of (own := RX6) (by decide) rfl (Nat.le_of_ble_eq_true rfl) ?_
  intro p e s m below meth c ls X hH hl
  obtain ⟨hx, hb, hml, hown, hts, hr, hlk, hC, hI, hR⟩ := id X
  have hl : lv_has ls 5 [(0, .ref (ad 22)), (1, .ref (ad 3)), (2, .int a2)] := hl
  rw [mX6_passesOf] at hm
  refine lv_iconst (v := 0) hx hb dX6_passesOf_0 (by decide) ?_
  refine lv_istore_n (lv' := [(3, .int (0 : Int32)), (0, .ref (ad 22)), (1, .ref (ad 3)), (2, .int a2)]) hx hb dX6_passesOf_1 rfl hl (by decide) rfl (fun ls hl => ?_)
  refine lv_iconst (v := 0) hx hb dX6_passesOf_2 (by decide) ?_
  refine lv_istore (lv' := [(4, .int (0 : Int32)), (3, .int (0 : Int32)), (0, .ref (ad 22)), (1, .ref (ad 3)), (2, .int a2)]) hx hb dX6_passesOf_3 hl (by decide) rfl (fun ls hl => ?_)
  exact wX6_passesOf_5 X FU a2 (0 : Int32) (0 : Int32) _ _ _ hm hH (lv_sub hl [2, 3, 4, 1, 0] rfl)
/-! X6_contactBits -/
def mX6_contactBits (h : Mm) (a1 : Int32) : Option Int32 := some ((h 22 6) ||| (a1 <<< ((h 22 11) &&& 31)))
set_option maxRecDepth 4000 in
theorem mt_X6_contactBits {l : Launch} {D : va_G} {ad : Nat → Nat} {ac : Nat → ClassId} {h : Mm} {a1 : Int32} {r : Int32} (hm : mX6_contactBits h a1 = some r) : Mt l D ad ac LC rlC yX6_contactBits cX6_contactBits 2 (some .int) 0 [.ref (ad 22), .int a1] h (some (.int r)) h := by
  refine Mt.of (own := RX6) (by decide) rfl (Nat.le_of_ble_eq_true rfl) ?_
  intro p e s m below meth c ls X hH hl
  obtain ⟨hx, hb, hml, hown, hts, hr, hlk, hC, hI, hR⟩ := id X
  have hl : lv_has ls 2 [(0, .ref (ad 22)), (1, .int a1)] := hl
  rw [mX6_contactBits] at hm
  refine lv_aload_n hx hb dX6_contactBits_0 rfl (lv_at hl 0 rfl) ?_
  refine gI X hH fl_X6_60 lC_22 rfl dX6_contactBits_1 ?_
  refine lv_iload_n hx hb dX6_contactBits_4 rfl (lv_at hl 1 rfl) ?_
  refine lv_aload_n hx hb dX6_contactBits_5 rfl (lv_at hl 0 rfl) ?_
  refine gI X hH fl_X6_41 lC_22 rfl dX6_contactBits_6 ?_
  refine lv_ishl hx hb dX6_contactBits_9 ?_
  refine lv_ior hx hb dX6_contactBits_10 ?_
  cases hm
  exact retI X hH dX6_contactBits_11
/-! J7_fill_53178_16 -/
def mJ7_fill_53178_16_5 : Nat → Int32 → Int32 → Int32 → Mm → Option Mm
  | 0, _, _, _, _ => none
  | n + 1, x1, x2, x3, h => if x3 ≤ x2 then (some h) else (gIn x2 60 (mlet (wr h 16 x2.toNatClampNeg x1) (fun h1 => mJ7_fill_53178_16_5 n x1 (x2 + 1) x3 h1)))
set_option maxRecDepth 4000 in
theorem wJ7_fill_53178_16_5 {p : Program} {l : Launch} {e : Env} {s : State} {m : MethodId} {args : Array Value} {below : List Frame} {meth : Method} {c : Code} {D : va_G} {ad : Nat → Nat} {ac : Nat → ClassId} {h' : Mm} (X : Fx p s m args meth c cJ7_fill_53178 4 RJ7 none D ad ac LC rlC) : ∀ (n : Nat) (x1 : Int32) (x2 : Int32) (x3 : Int32) (h : Mm) (H : Heap) (locs : List Loc) (ls : Array Slot), mJ7_fill_53178_16_5 n x1 x2 x3 h = some h' → Hp D ad ac LC h s H locs → lv_has ls 4 [(0, .ref (ad 16)), (1, .int x1), (2, .int x2), (3, .int x3)] → W p l e (rmD 0) s m args below meth c H locs 0 0 (MQ below (QU D ad ac LC none h' s.heap.size) args s 0 0 (Aa ad LC.length s.heap.size)) (F0 m 5 ls []) := by
  obtain ⟨hx, hb, hml, hown, hts, hr, hlk, hC, hI, hR⟩ := id X
  intro n
  induction n with
  | zero => intro x1 x2 x3 h H locs ls hm; rw [mJ7_fill_53178_16_5] at hm; cases hm
  | succ n ih =>
    intro x1 x2 x3 h H locs ls hm hH hl
    rw [mJ7_fill_53178_16_5] at hm
    refine lv_iload_n hx hb dJ7_fill_53178_5 rfl (lv_at hl 2 rfl) ?_
    refine lv_iload_n hx hb dJ7_fill_53178_6 rfl (lv_at hl 3 rfl) ?_
    refine lv_icmp_ge hx hb dJ7_fill_53178_7 (tgt := 20) (by decide) (fun hc => ?_) (fun hc => ?_)
    · rw [if_pos hc] at hm
      cases hm
      exact retV X hH dJ7_fill_53178_20
    · rw [if_neg hc] at hm
      refine lv_aload_n hx hb dJ7_fill_53178_10 rfl (lv_at hl 0 rfl) ?_
      refine lv_iload_n hx hb dJ7_fill_53178_11 rfl (lv_at hl 2 rfl) ?_
      refine lv_iload_n hx hb dJ7_fill_53178_12 rfl (lv_at hl 1 rfl) ?_
      obtain ⟨hin2, hm⟩ := gIn_some hm
      obtain ⟨h1, eh1, hm⟩ := mlet_some hm
      refine ist X hH lC_16 hin2 dJ7_fill_53178_13 (fun H locs hH => ?_)
      rw [← eh1] at hH
      refine lv_iinc (k := 2) (v := (x2 + 1)) (lv' := [(2, .int (x2 + 1)), (0, .ref (ad 16)), (1, .int x1), (3, .int x3)]) hx hb dJ7_fill_53178_14 hl rfl rfl (by decide) rfl (fun ls hl => ?_)
      refine lv_goto hx hb dJ7_fill_53178_17 (tgt := 5) (by decide) ?_
      exact ih x1 (x2 + 1) x3 h1 _ _ _ hm hH (lv_sub hl [1, 2, 0, 3] rfl)
def mJ7_fill_53178_16 (h : Mm) (a1 : Int32) : Option Mm := mlet (nI 60) (fun u1 => mJ7_fill_53178_16_5 FU a1 (0 : Int32) u1 h)
set_option maxRecDepth 4000 in
theorem mt_J7_fill_53178_16 {l : Launch} {D : va_G} {ad : Nat → Nat} {ac : Nat → ClassId} {h : Mm} {a1 : Int32} {h' : Mm} (hm : mJ7_fill_53178_16 h a1 = some h') : Mt l D ad ac LC rlC yJ7_fill_53178 cJ7_fill_53178 4 none 0 [.ref (ad 16), .int a1] h none h' := by
  refine Mt.of (own := RJ7) (by decide) rfl (Nat.le_of_ble_eq_true rfl) ?_
  intro p e s m below meth c ls X hH hl
  obtain ⟨hx, hb, hml, hown, hts, hr, hlk, hC, hI, hR⟩ := id X
  have hl : lv_has ls 4 [(0, .ref (ad 16)), (1, .int a1)] := hl
  rw [mJ7_fill_53178_16] at hm
  refine lv_iconst (v := 0) hx hb dJ7_fill_53178_0 (by decide) ?_
  refine lv_istore_n (lv' := [(2, .int (0 : Int32)), (0, .ref (ad 16)), (1, .int a1)]) hx hb dJ7_fill_53178_1 rfl hl (by decide) rfl (fun ls hl => ?_)
  refine lv_aload_n hx hb dJ7_fill_53178_2 rfl (lv_at hl 1 rfl) ?_
  refine aln X hH lC_16 (by decide) dJ7_fill_53178_3 ?_
  obtain ⟨u1, eu1, hm⟩ := mlet_some hm
  refine W.eq (g2 := F0 m 4 ls (.int u1 :: [])) (by rw [eu1]) ?_
  refine lv_istore_n (lv' := [(3, .int u1), (2, .int (0 : Int32)), (0, .ref (ad 16)), (1, .int a1)]) hx hb dJ7_fill_53178_4 rfl hl (by decide) rfl (fun ls hl => ?_)
  exact wJ7_fill_53178_16_5 X FU a1 (0 : Int32) u1 h _ _ _ hm hH (lv_sub hl [2, 3, 1, 0] rfl)
/-! X5_rateIn -/
def mX5_rateIn (h : Mm) (a1 : Int32) (a2 : Int32) : Option Int32 := gIn a1 24 (gIn a1 24 (gIn a1 24 (bd1 (mJ9_min_7cf53 h (a2 - (h 5 a1.toNatClampNeg)) ((h 6 a1.toNatClampNeg) - a2)) (fun v4 => some ((h 10 a1.toNatClampNeg) * ((1 : Int32) + v4))))))
set_option maxRecDepth 4000 in
theorem mt_X5_rateIn {l : Launch} {D : va_G} {ad : Nat → Nat} {ac : Nat → ClassId} {L : List CD} {h : Mm} {a1 : Int32} {a2 : Int32} {r : Int32} (lk : LkC L) (hm : mX5_rateIn h a1 a2 = some r) : Mt l D ad ac L rlC yX5_rateIn cX5_rateIn 3 (some .int) 1 [.ref (ad 4), .int a1, .int a2] h (some (.int r)) h := by
  refine Mt.of (own := RX5) (by decide) rfl (Nat.le_of_ble_eq_true rfl) ?_
  intro p e s m below meth c ls X hH hl
  obtain ⟨hx, hb, hml, hown, hts, hr, hlk, hC, hI, hR⟩ := id X
  have hl : lv_has ls 3 [(0, .ref (ad 4)), (1, .int a1), (2, .int a2)] := hl
  rw [mX5_rateIn] at hm
  refine lv_aload_n hx hb dX5_rateIn_0 rfl (lv_at hl 0 rfl) ?_
  refine gR X hH fl_X5_27 (lk 4 _ (by decide) (by decide) lC_4) rfl dX5_rateIn_1 ?_
  refine lv_iload_n hx hb dX5_rateIn_4 rfl (lv_at hl 1 rfl) ?_
  obtain ⟨hin1, hm⟩ := gIn_some hm
  refine ild X hH (lk 10 _ (by decide) (by decide) lC_10) hin1 dX5_rateIn_5 ?_
  refine lv_iconst (v := 1) hx hb dX5_rateIn_6 (by decide) ?_
  refine lv_iload_n hx hb dX5_rateIn_7 rfl (lv_at hl 2 rfl) ?_
  refine lv_aload_n hx hb dX5_rateIn_8 rfl (lv_at hl 0 rfl) ?_
  refine gR X hH fl_X5_9 (lk 4 _ (by decide) (by decide) lC_4) rfl dX5_rateIn_9 ?_
  refine lv_iload_n hx hb dX5_rateIn_12 rfl (lv_at hl 1 rfl) ?_
  obtain ⟨hin2, hm⟩ := gIn_some hm
  refine ild X hH (lk 5 _ (by decide) (by decide) lC_5) hin2 dX5_rateIn_13 ?_
  refine lv_isub hx hb dX5_rateIn_14 ?_
  refine lv_aload_n hx hb dX5_rateIn_15 rfl (lv_at hl 0 rfl) ?_
  refine gR X hH fl_X5_15 (lk 4 _ (by decide) (by decide) lC_4) rfl dX5_rateIn_16 ?_
  refine lv_iload_n hx hb dX5_rateIn_19 rfl (lv_at hl 1 rfl) ?_
  obtain ⟨hin3, hm⟩ := gIn_some hm
  refine ild X hH (lk 6 _ (by decide) (by decide) lC_6) hin3 dX5_rateIn_20 ?_
  refine lv_iload_n hx hb dX5_rateIn_21 rfl (lv_at hl 2 rfl) ?_
  refine lv_isub hx hb dX5_rateIn_22 ?_
  obtain ⟨v4, hq, hm⟩ := bd1_some hm
  refine cSi (As := [.int (a2 - (h 5 a1.toNatClampNeg)), .int ((h 6 a1.toNatClampNeg) - a2)]) X hH kl_X5_63 ks_J9_min_7cf53 (mt_J9_min_7cf53 hq) rfl (by decide) hl.1 rfl (Nat.le_of_ble_eq_true rfl) dX5_rateIn_23 (fun H locs hH => ?_)
  refine lv_iadd hx hb dX5_rateIn_26 ?_
  refine lv_imul hx hb dX5_rateIn_27 ?_
  cases hm
  exact retI X hH dX5_rateIn_28
/-! X9_gatherFlow -/
def mX9_gatherFlow_85 (k11 : Int32 → Int32 → Int32 → Mm → Option Mm) (x2 : Int32) (x3 : Int32) (x4 : Int32) (h : Mm) : Option Mm := k11 x2 x3 (x4 + 1) h
set_option maxRecDepth 4000 in
theorem wX9_gatherFlow_85 {p : Program} {l : Launch} {e : Env} {s : State} {m : MethodId} {args : Array Value} {below : List Frame} {meth : Method} {c : Code} {D : va_G} {ad : Nat → Nat} {ac : Nat → ClassId} {h' : Mm} (X : Fx p s m args meth c cX9_gatherFlow 6 RX9 none D ad ac LC rlC) {k11 : Int32 → Int32 → Int32 → Mm → Option Mm} (ih11 : ∀ (x2 : Int32) (x3 : Int32) (x4 : Int32) (h : Mm) (H : Heap) (locs : List Loc) (ls : Array Slot), k11 x2 x3 x4 h = some h' → Hp D ad ac LC h s H locs → lv_has ls 6 [(0, .ref (ad 15)), (1, .ref (ad 4)), (2, .int x2), (3, .int x3), (4, .int x4)] → W p l e (rmD 2) s m args below meth c H locs 0 0 (MQ below (QU D ad ac LC none h' s.heap.size) args s 0 0 (Aa ad LC.length s.heap.size)) (F0 m 11 ls [])) : ∀ (x2 : Int32) (x3 : Int32) (x4 : Int32) (h : Mm) (H : Heap) (locs : List Loc) (ls : Array Slot), mX9_gatherFlow_85 k11 x2 x3 x4 h = some h' → Hp D ad ac LC h s H locs → lv_has ls 6 [(0, .ref (ad 15)), (1, .ref (ad 4)), (2, .int x2), (3, .int x3), (4, .int x4)] → W p l e (rmD 2) s m args below meth c H locs 0 0 (MQ below (QU D ad ac LC none h' s.heap.size) args s 0 0 (Aa ad LC.length s.heap.size)) (F0 m 85 ls []) := by
  obtain ⟨hx, hb, hml, hown, hts, hr, hlk, hC, hI, hR⟩ := id X
  intro x2 x3 x4 h H locs ls hm hH hl
  rw [mX9_gatherFlow_85] at hm
  refine lv_iinc (k := 4) (v := (x4 + 1)) (lv' := [(4, .int (x4 + 1)), (0, .ref (ad 15)), (1, .ref (ad 4)), (2, .int x2), (3, .int x3)]) hx hb dX9_gatherFlow_85 hl rfl rfl (by decide) rfl (fun ls hl => ?_)
  refine lv_goto hx hb dX9_gatherFlow_88 (tgt := 11) (by decide) ?_
  exact ih11 x2 x3 (x4 + 1) h _ _ _ hm hH (lv_sub hl [1, 2, 3, 4, 0] rfl)
def mX9_gatherFlow_49 (k11 : Int32 → Int32 → Int32 → Mm → Option Mm) : Nat → Int32 → Int32 → Int32 → Int32 → Mm → Option Mm
  | 0, _, _, _, _, _ => none
  | n + 1, x2, x3, x4, x5, h => gIn x4 24 (if (h 6 x4.toNatClampNeg) < x5 then (mX9_gatherFlow_85 k11 x2 x3 x4 h) else (gIn x5 60 (bd1 (mX5_rateIn h x4 x5) (fun v3 => gIn x5 60 (mlet (wr h 16 x5.toNatClampNeg ((h 16 x5.toNatClampNeg) + v3)) (fun h4 => mX9_gatherFlow_49 k11 n x2 x3 x4 (x5 + 1) h4))))))
set_option maxRecDepth 4000 in
theorem wX9_gatherFlow_49 {p : Program} {l : Launch} {e : Env} {s : State} {m : MethodId} {args : Array Value} {below : List Frame} {meth : Method} {c : Code} {D : va_G} {ad : Nat → Nat} {ac : Nat → ClassId} {h' : Mm} (X : Fx p s m args meth c cX9_gatherFlow 6 RX9 none D ad ac LC rlC) {k11 : Int32 → Int32 → Int32 → Mm → Option Mm} (ih11 : ∀ (x2 : Int32) (x3 : Int32) (x4 : Int32) (h : Mm) (H : Heap) (locs : List Loc) (ls : Array Slot), k11 x2 x3 x4 h = some h' → Hp D ad ac LC h s H locs → lv_has ls 6 [(0, .ref (ad 15)), (1, .ref (ad 4)), (2, .int x2), (3, .int x3), (4, .int x4)] → W p l e (rmD 2) s m args below meth c H locs 0 0 (MQ below (QU D ad ac LC none h' s.heap.size) args s 0 0 (Aa ad LC.length s.heap.size)) (F0 m 11 ls [])) : ∀ (n : Nat) (x2 : Int32) (x3 : Int32) (x4 : Int32) (x5 : Int32) (h : Mm) (H : Heap) (locs : List Loc) (ls : Array Slot), mX9_gatherFlow_49 k11 n x2 x3 x4 x5 h = some h' → Hp D ad ac LC h s H locs → lv_has ls 6 [(0, .ref (ad 15)), (1, .ref (ad 4)), (2, .int x2), (3, .int x3), (4, .int x4), (5, .int x5)] → W p l e (rmD 2) s m args below meth c H locs 0 0 (MQ below (QU D ad ac LC none h' s.heap.size) args s 0 0 (Aa ad LC.length s.heap.size)) (F0 m 49 ls []) := by
  obtain ⟨hx, hb, hml, hown, hts, hr, hlk, hC, hI, hR⟩ := id X
  intro n
  induction n with
  | zero => intro x2 x3 x4 x5 h H locs ls hm; rw [mX9_gatherFlow_49] at hm; cases hm
  | succ n ih =>
    intro x2 x3 x4 x5 h H locs ls hm hH hl
    rw [mX9_gatherFlow_49] at hm
    refine lv_iload hx hb dX9_gatherFlow_49 (lv_at hl 5 rfl) ?_
    refine lv_aload_n hx hb dX9_gatherFlow_51 rfl (lv_at hl 1 rfl) ?_
    refine gR X hH fl_X9_76 lC_4 rfl dX9_gatherFlow_52 ?_
    refine lv_iload hx hb dX9_gatherFlow_55 (lv_at hl 4 rfl) ?_
    obtain ⟨hin1, hm⟩ := gIn_some hm
    refine ild X hH lC_6 hin1 dX9_gatherFlow_57 ?_
    refine lv_icmp_gt hx hb dX9_gatherFlow_58 (tgt := 85) (by decide) (fun hc => ?_) (fun hc => ?_)
    · rw [if_pos hc] at hm
      exact wX9_gatherFlow_85 X ih11 x2 x3 x4 h _ _ _ hm hH (lv_sub hl [0, 1, 2, 3, 4] rfl)
    · rw [if_neg hc] at hm
      refine lv_aload_n hx hb dX9_gatherFlow_61 rfl (lv_at hl 0 rfl) ?_
      refine gR X hH fl_X9_9 lC_15 rfl dX9_gatherFlow_62 ?_
      refine lv_iload hx hb dX9_gatherFlow_65 (lv_at hl 5 rfl) ?_
      refine lv_dup2_11 hx hb dX9_gatherFlow_67 rfl rfl ?_
      obtain ⟨hin2, hm⟩ := gIn_some hm
      refine ild X hH lC_16 hin2 dX9_gatherFlow_68 ?_
      refine lv_aload_n hx hb dX9_gatherFlow_69 rfl (lv_at hl 1 rfl) ?_
      refine lv_iload hx hb dX9_gatherFlow_70 (lv_at hl 4 rfl) ?_
      refine lv_iload hx hb dX9_gatherFlow_72 (lv_at hl 5 rfl) ?_
      obtain ⟨v3, hq, hm⟩ := bd1_some hm
      refine cVi X hH kl_X9_79 kv_X5_rateIn (mt_X5_rateIn lkC hq) lC_4 rfl rfl (by decide) hl.1 rfl (Nat.le_of_ble_eq_true rfl) dX9_gatherFlow_74 (fun H locs hH => ?_)
      refine lv_iadd hx hb dX9_gatherFlow_77 ?_
      obtain ⟨hin5, hm⟩ := gIn_some hm
      obtain ⟨h4, eh4, hm⟩ := mlet_some hm
      refine ist X hH lC_16 hin5 dX9_gatherFlow_78 (fun H locs hH => ?_)
      rw [← eh4] at hH
      refine lv_iinc (k := 5) (v := (x5 + 1)) (lv' := [(5, .int (x5 + 1)), (0, .ref (ad 15)), (1, .ref (ad 4)), (2, .int x2), (3, .int x3), (4, .int x4)]) hx hb dX9_gatherFlow_79 hl rfl rfl (by decide) rfl (fun ls hl => ?_)
      refine lv_goto hx hb dX9_gatherFlow_82 (tgt := 49) (by decide) ?_
      exact ih x2 x3 x4 (x5 + 1) h4 _ _ _ hm hH (lv_sub hl [1, 2, 3, 4, 5, 0] rfl)
def mX9_gatherFlow_11 : Nat → Int32 → Int32 → Int32 → Mm → Option Mm
  | 0, _, _, _, _ => none
  | n + 1, x2, x3, x4, h => if (h 4 6) ≤ x4 then (some h) else (gIn x4 24 (if (h 7 x4.toNatClampNeg) = x2 then (if ((x3 >>> (x4 &&& 31)) &&& (1 : Int32)) = 0 then (mX9_gatherFlow_85 (mX9_gatherFlow_11 n) x2 x3 x4 h) else (gIn x4 24 (mlet (h 5 x4.toNatClampNeg) (fun u3 => mX9_gatherFlow_49 (mX9_gatherFlow_11 n) FU x2 x3 x4 u3 h)))) else (mX9_gatherFlow_85 (mX9_gatherFlow_11 n) x2 x3 x4 h)))
set_option maxRecDepth 4000 in
theorem wX9_gatherFlow_11 {p : Program} {l : Launch} {e : Env} {s : State} {m : MethodId} {args : Array Value} {below : List Frame} {meth : Method} {c : Code} {D : va_G} {ad : Nat → Nat} {ac : Nat → ClassId} {h' : Mm} (X : Fx p s m args meth c cX9_gatherFlow 6 RX9 none D ad ac LC rlC) : ∀ (n : Nat) (x2 : Int32) (x3 : Int32) (x4 : Int32) (h : Mm) (H : Heap) (locs : List Loc) (ls : Array Slot), mX9_gatherFlow_11 n x2 x3 x4 h = some h' → Hp D ad ac LC h s H locs → lv_has ls 6 [(0, .ref (ad 15)), (1, .ref (ad 4)), (2, .int x2), (3, .int x3), (4, .int x4)] → W p l e (rmD 2) s m args below meth c H locs 0 0 (MQ below (QU D ad ac LC none h' s.heap.size) args s 0 0 (Aa ad LC.length s.heap.size)) (F0 m 11 ls []) := by
  obtain ⟨hx, hb, hml, hown, hts, hr, hlk, hC, hI, hR⟩ := id X
  intro n
  induction n with
  | zero => intro x2 x3 x4 h H locs ls hm; rw [mX9_gatherFlow_11] at hm; cases hm
  | succ n ih =>
    intro x2 x3 x4 h H locs ls hm hH hl
    rw [mX9_gatherFlow_11] at hm
    refine lv_iload hx hb dX9_gatherFlow_11 (lv_at hl 4 rfl) ?_
    refine lv_aload_n hx hb dX9_gatherFlow_13 rfl (lv_at hl 1 rfl) ?_
    refine gI X hH fl_X9_65 lC_4 rfl dX9_gatherFlow_14 ?_
    refine lv_icmp_ge hx hb dX9_gatherFlow_17 (tgt := 91) (by decide) (fun hc => ?_) (fun hc => ?_)
    · rw [if_pos hc] at hm
      cases hm
      exact retV X hH dX9_gatherFlow_91
    · rw [if_neg hc] at hm
      refine lv_aload_n hx hb dX9_gatherFlow_20 rfl (lv_at hl 1 rfl) ?_
      refine gR X hH fl_X9_70 lC_4 rfl dX9_gatherFlow_21 ?_
      refine lv_iload hx hb dX9_gatherFlow_24 (lv_at hl 4 rfl) ?_
      obtain ⟨hin1, hm⟩ := gIn_some hm
      refine ild X hH lC_7 hin1 dX9_gatherFlow_26 ?_
      refine lv_iload_n hx hb dX9_gatherFlow_27 rfl (lv_at hl 2 rfl) ?_
      refine lv_icmp_ne hx hb dX9_gatherFlow_28 (tgt := 85) (by decide) (fun hc => ?_) (fun hc => ?_)
      · rw [if_neg hc] at hm
        exact wX9_gatherFlow_85 X ih x2 x3 x4 h _ _ _ hm hH (lv_sub hl [0, 1, 2, 3, 4] rfl)
      · rw [if_pos hc] at hm
        refine lv_iload_n hx hb dX9_gatherFlow_31 rfl (lv_at hl 3 rfl) ?_
        refine lv_iload hx hb dX9_gatherFlow_32 (lv_at hl 4 rfl) ?_
        refine lv_ishr hx hb dX9_gatherFlow_34 ?_
        refine lv_iconst (v := 1) hx hb dX9_gatherFlow_35 (by decide) ?_
        refine lv_iand hx hb dX9_gatherFlow_36 ?_
        refine lv_if_eq hx hb dX9_gatherFlow_37 (tgt := 85) (by decide) (fun hc => ?_) (fun hc => ?_)
        · rw [if_pos hc] at hm
          exact wX9_gatherFlow_85 X ih x2 x3 x4 h _ _ _ hm hH (lv_sub hl [0, 1, 2, 3, 4] rfl)
        · rw [if_neg hc] at hm
          refine lv_aload_n hx hb dX9_gatherFlow_40 rfl (lv_at hl 1 rfl) ?_
          refine gR X hH fl_X9_73 lC_4 rfl dX9_gatherFlow_41 ?_
          refine lv_iload hx hb dX9_gatherFlow_44 (lv_at hl 4 rfl) ?_
          obtain ⟨hin2, hm⟩ := gIn_some hm
          refine ild X hH lC_5 hin2 dX9_gatherFlow_46 ?_
          obtain ⟨u3, eu3, hm⟩ := mlet_some hm
          refine W.eq (g2 := F0 m 47 ls (.int u3 :: [])) (by rw [eu3]) ?_
          refine lv_istore (lv' := [(5, .int u3), (0, .ref (ad 15)), (1, .ref (ad 4)), (2, .int x2), (3, .int x3), (4, .int x4)]) hx hb dX9_gatherFlow_47 hl (by decide) rfl (fun ls hl => ?_)
          exact wX9_gatherFlow_49 X ih FU x2 x3 x4 u3 h _ _ _ hm hH (lv_sub hl [1, 2, 3, 4, 5, 0] rfl)
def mX9_gatherFlow (h : Mm) (a2 : Int32) (a3 : Int32) : Option Mm := bdh (mJ7_fill_53178_16 h (0 : Int32)) (fun h1 => mX9_gatherFlow_11 FU a2 a3 (0 : Int32) h1)
set_option maxRecDepth 4000 in
theorem mt_X9_gatherFlow {l : Launch} {D : va_G} {ad : Nat → Nat} {ac : Nat → ClassId} {h : Mm} {a2 : Int32} {a3 : Int32} {h' : Mm} (hm : mX9_gatherFlow h a2 a3 = some h') : Mt l D ad ac LC rlC yX9_gatherFlow cX9_gatherFlow 6 none 2 [.ref (ad 15), .ref (ad 4), .int a2, .int a3] h none h' := by
  refine Mt.of (own := RX9) (by decide) rfl (Nat.le_of_ble_eq_true rfl) ?_
  intro p e s m below meth c ls X hH hl
  obtain ⟨hx, hb, hml, hown, hts, hr, hlk, hC, hI, hR⟩ := id X
  have hl : lv_has ls 6 [(0, .ref (ad 15)), (1, .ref (ad 4)), (2, .int a2), (3, .int a3)] := hl
  rw [mX9_gatherFlow] at hm
  refine lv_aload_n hx hb dX9_gatherFlow_0 rfl (lv_at hl 0 rfl) ?_
  refine gR X hH fl_X9_9 lC_15 rfl dX9_gatherFlow_1 ?_
  refine lv_iconst (v := 0) hx hb dX9_gatherFlow_4 (by decide) ?_
  obtain ⟨h1, hq, hm⟩ := bdh_some hm
  refine cSv (As := [.ref (ad 16), .int (0 : Int32)]) X hH kl_X9_59 ks_J7_fill_53178 (mt_J7_fill_53178_16 hq) rfl (by decide) hl.1 rfl (Nat.le_of_ble_eq_true rfl) dX9_gatherFlow_5 (fun H locs hH => ?_)
  refine lv_iconst (v := 0) hx hb dX9_gatherFlow_8 (by decide) ?_
  refine lv_istore (lv' := [(4, .int (0 : Int32)), (0, .ref (ad 15)), (1, .ref (ad 4)), (2, .int a2), (3, .int a3)]) hx hb dX9_gatherFlow_9 hl (by decide) rfl (fun ls hl => ?_)
  exact wX9_gatherFlow_11 X FU a2 a3 (0 : Int32) h1 _ _ _ hm hH (lv_sub hl [1, 2, 3, 4, 0] rfl)
