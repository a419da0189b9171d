/-! X11_out -/
def mX11_out_130 (k88 : Int32 → Int32 → Int32 → Mm → Option (Int32 × Mm)) (x1 : Int32) (x4 : Int32) (x5 : Int32) (h : Mm) : Option (Int32 × Mm) := k88 x1 x4 (x5 + 1) h
set_option maxRecDepth 4000 in
theorem wX11_out_130 {p : Program} {l : Launch} {e : Env} {s : State} {m : MethodId} {args : Array Value} {below : List Frame} {meth : Method} {c : Code} {D : va_G} {ad : Nat → Nat} {ac : Nat → ClassId} {r : Int32} {h' : Mm} (X : Fx p s m args meth c cX11_out 6 RX11 (some .int) D ad ac LM []) {k88 : Int32 → Int32 → Int32 → Mm → Option (Int32 × Mm)} (ih88 : ∀ (x1 : Int32) (x4 : Int32) (x5 : Int32) (h : Mm) (H : Heap) (locs : List Loc) (ls : Array Slot), k88 x1 x4 x5 h = some (r, h') → Hp D ad ac LM h s H locs → lv_has ls 6 [(0, .ref (ad 0)), (1, .int x1), (4, .int x4), (5, .int x5)] → W p l e (rmD 2) s m args below meth c H locs 0 0 (MQ below (QU D ad ac LM (some (.int r)) h' s.heap.size) args s 0 0 (Aa ad LM.length s.heap.size)) (F0 m 88 ls [])) : ∀ (x1 : Int32) (x4 : Int32) (x5 : Int32) (h : Mm) (H : Heap) (locs : List Loc) (ls : Array Slot), mX11_out_130 k88 x1 x4 x5 h = some (r, h') → Hp D ad ac LM h s H locs → lv_has ls 6 [(0, .ref (ad 0)), (1, .int x1), (4, .int x4), (5, .int x5)] → W p l e (rmD 2) s m args below meth c H locs 0 0 (MQ below (QU D ad ac LM (some (.int r)) h' s.heap.size) args s 0 0 (Aa ad LM.length s.heap.size)) (F0 m 130 ls []) := by
  obtain ⟨hx, hb, hml, hown, hts, hr, hlk, hC, hI, hR⟩ := id X
  intro x1 x4 x5 h H locs ls hm hH hl
  rw [mX11_out_130] at hm
  refine lv_iinc (k := 3) (v := (x5 + 1)) (lv' := [(5, .int (x5 + 1)), (0, .ref (ad 0)), (1, .int x1), (4, .int x4)]) hx hb dX11_out_130 hl rfl rfl (by decide) rfl (fun ls hl => ?_)
  refine lv_goto hx hb dX11_out_133 (tgt := 88) (by decide) ?_
  exact ih88 x1 x4 (x5 + 1) h _ _ _ hm hH (lv_sub hl [1, 2, 3, 0] rfl)
def mX11_out_88 : Nat → Int32 → Int32 → Int32 → Mm → Option (Int32 × Mm)
  | 0, _, _, _, _ => none
  | n + 1, x1, x4, x5, h => if (h 0 16) ≤ x5 then (some (x4, h)) else (gIn x5 32 (if (h 15 x5.toNatClampNeg) = x1 then (bd1 (mX11_fits h x5 x1) (fun v2 => if v2 = 0 then (gIn x5 32 (mlet (wr h 15 x5.toNatClampNeg (-4 : Int32)) (fun h3 => mX11_out_130 (mX11_out_88 n) x1 (x4 + 1) x5 h3))) else (mX11_out_130 (mX11_out_88 n) x1 x4 x5 h))) else (mX11_out_130 (mX11_out_88 n) x1 x4 x5 h)))
set_option maxRecDepth 4000 in
theorem wX11_out_88 {p : Program} {l : Launch} {e : Env} {s : State} {m : MethodId} {args : Array Value} {below : List Frame} {meth : Method} {c : Code} {D : va_G} {ad : Nat → Nat} {ac : Nat → ClassId} {r : Int32} {h' : Mm} (X : Fx p s m args meth c cX11_out 6 RX11 (some .int) D ad ac LM []) : ∀ (n : Nat) (x1 : Int32) (x4 : Int32) (x5 : Int32) (h : Mm) (H : Heap) (locs : List Loc) (ls : Array Slot), mX11_out_88 n x1 x4 x5 h = some (r, h') → Hp D ad ac LM h s H locs → lv_has ls 6 [(0, .ref (ad 0)), (1, .int x1), (4, .int x4), (5, .int x5)] → W p l e (rmD 2) s m args below meth c H locs 0 0 (MQ below (QU D ad ac LM (some (.int r)) h' s.heap.size) args s 0 0 (Aa ad LM.length s.heap.size)) (F0 m 88 ls []) := by
  obtain ⟨hx, hb, hml, hown, hts, hr, hlk, hC, hI, hR⟩ := id X
  intro n
  induction n with
  | zero => intro x1 x4 x5 h H locs ls hm; rw [mX11_out_88] at hm; cases hm
  | succ n ih =>
    intro x1 x4 x5 h H locs ls hm hH hl
    rw [mX11_out_88] at hm
    refine lv_iload hx hb dX11_out_88 (lv_at hl 3 rfl) ?_
    refine lv_aload_n hx hb dX11_out_90 rfl (lv_at hl 0 rfl) ?_
    refine gI X hH fl_X11_124 lM_0 rfl dX11_out_91 ?_
    refine lv_icmp_ge hx hb dX11_out_94 (tgt := 136) (by decide) (fun hc => ?_) (fun hc => ?_)
    · rw [if_pos hc] at hm
      refine lv_iload hx hb dX11_out_136 (lv_at hl 2 rfl) ?_
      cases hm
      exact retI X hH dX11_out_138
    · rw [if_neg hc] at hm
      refine lv_aload_n hx hb dX11_out_97 rfl (lv_at hl 0 rfl) ?_
      refine gR X hH fl_X11_52 lM_0 rfl dX11_out_98 ?_
      refine lv_iload hx hb dX11_out_101 (lv_at hl 3 rfl) ?_
      obtain ⟨hin1, hm⟩ := gIn_some hm
      refine ild X hH lM_15 hin1 dX11_out_103 ?_
      refine lv_iload_n hx hb dX11_out_104 rfl (lv_at hl 1 rfl) ?_
      refine lv_icmp_ne hx hb dX11_out_105 (tgt := 130) (by decide) (fun hc => ?_) (fun hc => ?_)
      · rw [if_neg hc] at hm
        exact wX11_out_130 X ih x1 x4 x5 h _ _ _ hm hH (lv_sub hl [0, 1, 2, 3] rfl)
      · rw [if_pos hc] at hm
        refine lv_aload_n hx hb dX11_out_108 rfl (lv_at hl 0 rfl) ?_
        refine lv_iload hx hb dX11_out_109 (lv_at hl 3 rfl) ?_
        refine lv_iload_n hx hb dX11_out_111 rfl (lv_at hl 1 rfl) ?_
        obtain ⟨v2, hq, hm⟩ := bd1_some hm
        refine cVi X hH kl_X11_152 kv_X11_fits (mt_X11_fits hq) lM_0 rfl rfl (by decide) hl.1 rfl (Nat.le_of_ble_eq_true rfl) dX11_out_112 (fun H locs hH => ?_)
        refine lv_if_ne hx hb dX11_out_115 (tgt := 130) (by decide) (fun hc => ?_) (fun hc => ?_)
        · rw [if_neg hc] at hm
          exact wX11_out_130 X ih x1 x4 x5 h _ _ _ hm hH (lv_sub hl [0, 1, 2, 3] rfl)
        · rw [if_pos hc] at hm
          refine lv_aload_n hx hb dX11_out_118 rfl (lv_at hl 0 rfl) ?_
          refine gR X hH fl_X11_52 lM_0 rfl dX11_out_119 ?_
          refine lv_iload hx hb dX11_out_122 (lv_at hl 3 rfl) ?_
          refine lv_bipush (v := (-4)) hx hb dX11_out_124 (by decide) ?_
          obtain ⟨hin4, hm⟩ := gIn_some hm
          obtain ⟨h3, eh3, hm⟩ := mlet_some hm
          refine ist X hH lM_15 hin4 dX11_out_126 (fun H locs hH => ?_)
          rw [← eh3] at hH
          refine lv_iinc (k := 2) (v := (x4 + 1)) (lv' := [(4, .int (x4 + 1)), (0, .ref (ad 0)), (1, .int x1), (5, .int x5)]) hx hb dX11_out_127 hl rfl rfl (by decide) rfl (fun ls hl => ?_)
          exact wX11_out_130 X ih x1 (x4 + 1) x5 h3 _ _ _ hm hH (lv_sub hl [1, 2, 0, 3] rfl)
def mX11_out_81 (x1 : Int32) (t0 : Int32) (t1 : Int32) (h : Mm) : Option (Int32 × Mm) := gIn t1 32 (mlet (wr h 15 t1.toNatClampNeg t0) (fun h1 => mX11_out_88 FU x1 (0 : Int32) (0 : Int32) h1))
set_option maxRecDepth 4000 in
theorem wX11_out_81 {p : Program} {l : Launch} {e : Env} {s : State} {m : MethodId} {args : Array Value} {below : List Frame} {meth : Method} {c : Code} {D : va_G} {ad : Nat → Nat} {ac : Nat → ClassId} {r : Int32} {h' : Mm} (X : Fx p s m args meth c cX11_out 6 RX11 (some .int) D ad ac LM []) : ∀ (x1 : Int32) (t0 : Int32) (t1 : Int32) (h : Mm) (H : Heap) (locs : List Loc) (ls : Array Slot), mX11_out_81 x1 t0 t1 h = some (r, h') → Hp D ad ac LM h s H locs → lv_has ls 6 [(0, .ref (ad 0)), (1, .int x1)] → W p l e (rmD 2) s m args below meth c H locs 0 0 (MQ below (QU D ad ac LM (some (.int r)) h' s.heap.size) args s 0 0 (Aa ad LM.length s.heap.size)) (F0 m 81 ls [.int t0, .int t1, .ref (ad 15)]) := by
  obtain ⟨hx, hb, hml, hown, hts, hr, hlk, hC, hI, hR⟩ := id X
  intro x1 t0 t1 h H locs ls hm hH hl
  rw [mX11_out_81] at hm
  obtain ⟨hin2, hm⟩ := gIn_some hm
  obtain ⟨h1, eh1, hm⟩ := mlet_some hm
  refine ist X hH lM_15 hin2 dX11_out_81 (fun H locs hH => ?_)
  rw [← eh1] at hH
  refine lv_iconst (v := 0) hx hb dX11_out_82 (by decide) ?_
  refine lv_istore (lv' := [(4, .int (0 : Int32)), (0, .ref (ad 0)), (1, .int x1)]) hx hb dX11_out_83 hl (by decide) rfl (fun ls hl => ?_)
  refine lv_iconst (v := 0) hx hb dX11_out_85 (by decide) ?_
  refine lv_istore (lv' := [(5, .int (0 : Int32)), (4, .int (0 : Int32)), (0, .ref (ad 0)), (1, .int x1)]) hx hb dX11_out_86 hl (by decide) rfl (fun ls hl => ?_)
  exact wX11_out_88 X FU x1 (0 : Int32) (0 : Int32) h1 _ _ _ hm hH (lv_sub hl [2, 3, 1, 0] rfl)
def mX11_out_58 (x1 : Int32) (x2 : Int32) (x3 : Int32) (t0 : Int32) (t1 : Int32) (h : Mm) : Option (Int32 × Mm) := gIn t1 32 (mlet (wr h 15 t1.toNatClampNeg t0) (fun h1 => if x2 ≤ x3 then (mX11_out_81 x1 x3 (((24 : Int32) + ((2 : Int32) * x1)) + (1 : Int32)) h1) else (mX11_out_81 x1 (0 : Int32) (((24 : Int32) + ((2 : Int32) * x1)) + (1 : Int32)) h1)))
set_option maxRecDepth 4000 in
theorem wX11_out_58 {p : Program} {l : Launch} {e : Env} {s : State} {m : MethodId} {args : Array Value} {below : List Frame} {meth : Method} {c : Code} {D : va_G} {ad : Nat → Nat} {ac : Nat → ClassId} {r : Int32} {h' : Mm} (X : Fx p s m args meth c cX11_out 6 RX11 (some .int) D ad ac LM []) : ∀ (x1 : Int32) (x2 : Int32) (x3 : Int32) (t0 : Int32) (t1 : Int32) (h : Mm) (H : Heap) (locs : List Loc) (ls : Array Slot), mX11_out_58 x1 x2 x3 t0 t1 h = some (r, h') → Hp D ad ac LM h s H locs → lv_has ls 6 [(0, .ref (ad 0)), (1, .int x1), (2, .int x2), (3, .int x3)] → W p l e (rmD 2) s m args below meth c H locs 0 0 (MQ below (QU D ad ac LM (some (.int r)) h' s.heap.size) args s 0 0 (Aa ad LM.length s.heap.size)) (F0 m 58 ls [.int t0, .int t1, .ref (ad 15)]) := by
  obtain ⟨hx, hb, hml, hown, hts, hr, hlk, hC, hI, hR⟩ := id X
  intro x1 x2 x3 t0 t1 h H locs ls hm hH hl
  rw [mX11_out_58] at hm
  obtain ⟨hin2, hm⟩ := gIn_some hm
  obtain ⟨h1, eh1, hm⟩ := mlet_some hm
  refine ist X hH lM_15 hin2 dX11_out_58 (fun H locs hH => ?_)
  rw [← eh1] at hH
  refine lv_aload_n hx hb dX11_out_59 rfl (lv_at hl 0 rfl) ?_
  refine gR X hH fl_X11_52 lM_0 rfl dX11_out_60 ?_
  refine lv_bipush (v := 24) hx hb dX11_out_63 (by decide) ?_
  refine lv_iconst (v := 2) hx hb dX11_out_65 (by decide) ?_
  refine lv_iload_n hx hb dX11_out_66 rfl (lv_at hl 1 rfl) ?_
  refine lv_imul hx hb dX11_out_67 ?_
  refine lv_iadd hx hb dX11_out_68 ?_
  refine lv_iconst (v := 1) hx hb dX11_out_69 (by decide) ?_
  refine lv_iadd hx hb dX11_out_70 ?_
  refine lv_iload_n hx hb dX11_out_71 rfl (lv_at hl 2 rfl) ?_
  refine lv_iload_n hx hb dX11_out_72 rfl (lv_at hl 3 rfl) ?_
  refine lv_icmp_le hx hb dX11_out_73 (tgt := 80) (by decide) (fun hc => ?_) (fun hc => ?_)
  · rw [if_pos hc] at hm
    refine lv_iload_n hx hb dX11_out_80 rfl (lv_at hl 3 rfl) ?_
    exact wX11_out_81 X x1 x3 (((24 : Int32) + ((2 : Int32) * x1)) + (1 : Int32)) h1 _ _ _ hm hH (lv_sub hl [0, 1] rfl)
  · rw [if_neg hc] at hm
    refine lv_iconst (v := 0) hx hb dX11_out_76 (by decide) ?_
    refine lv_goto hx hb dX11_out_77 (tgt := 81) (by decide) ?_
    exact wX11_out_81 X x1 (0 : Int32) (((24 : Int32) + ((2 : Int32) * x1)) + (1 : Int32)) h1 _ _ _ hm hH (lv_sub hl [0, 1] rfl)
def mX11_out (h : Mm) (a1 : Int32) (a2 : Int32) (a3 : Int32) : Option (Int32 × Mm) := bd1 (mX11_isAntenna h a1) (fun v1 => if v1 = 0 then (some ((-1 : Int32), h)) else (bd1 (mX11_in h a2.toInt64 (0 : Int64) (59 : Int64)) (fun v2 => if v2 = 0 then (some ((-1 : Int32), h)) else (bd1 (mX11_in h a3.toInt64 (0 : Int64) (59 : Int64)) (fun v3 => if v3 = 0 then (some ((-1 : Int32), h)) else (bdh (mX11_note h) (fun h4 => if a2 ≤ a3 then (mX11_out_58 a1 a2 a3 a2 ((24 : Int32) + ((2 : Int32) * a1)) h4) else (mX11_out_58 a1 a2 a3 (1 : Int32) ((24 : Int32) + ((2 : Int32) * a1)) h4))))))))
set_option maxRecDepth 4000 in
theorem mt_X11_out {l : Launch} {D : va_G} {ad : Nat → Nat} {ac : Nat → ClassId} {h : Mm} {a1 : Int32} {a2 : Int32} {a3 : Int32} {r : Int32} {h' : Mm} (hm : mX11_out h a1 a2 a3 = some (r, h')) : Mt l D ad ac LM [] yX11_out cX11_out 6 (some .int) 2 [.ref (ad 0), .int a1, .int a2, .int a3] h (some (.int r)) h' := by
  refine Mt.of (own := RX11) (by decide) rfl (Nat.le_of_ble_eq_true rfl) ?_
  intro p e s m below meth c ls X hH hl
  obtain ⟨hx, hb, hml, hown, hts, hr, hlk, hC, hI, hR⟩ := id X
  have hl : lv_has ls 6 [(0, .ref (ad 0)), (1, .int a1), (2, .int a2), (3, .int a3)] := hl
  rw [mX11_out] at hm
  refine lv_aload_n hx hb dX11_out_0 rfl (lv_at hl 0 rfl) ?_
  refine lv_iload_n hx hb dX11_out_1 rfl (lv_at hl 1 rfl) ?_
  obtain ⟨v1, hq, hm⟩ := bd1_some hm
  refine cVi X hH kl_X11_144 kv_X11_isAntenna (mt_X11_isAntenna hq) lM_0 rfl rfl (by decide) hl.1 rfl (Nat.le_of_ble_eq_true rfl) dX11_out_2 (fun H locs hH => ?_)
  refine lv_if_eq hx hb dX11_out_5 (tgt := 32) (by decide) (fun hc => ?_) (fun hc => ?_)
  · rw [if_pos hc] at hm
    refine lv_iconst (v := (-1)) hx hb dX11_out_32 (by decide) ?_
    cases hm
    exact retI X hH dX11_out_33
  · rw [if_neg hc] at hm
    refine lv_iload_n hx hb dX11_out_8 rfl (lv_at hl 2 rfl) ?_
    refine lv_i2l hx hb dX11_out_9 rfl ?_
    refine lv_lconst (v := 0) hx hb dX11_out_10 (by decide) ?_
    refine lv_ldc2 hx hb hown (hts _ kc_X11_147) dX11_out_11 ?_
    obtain ⟨v2, hq, hm⟩ := bd1_some hm
    refine cSi (As := [.long a2.toInt64, .long (0 : Int64), .long (59 : Int64)]) X hH kl_X11_93 ks_X11_in (mt_X11_in hq) rfl (by decide) hl.1 rfl (Nat.le_of_ble_eq_true rfl) dX11_out_14 (fun H locs hH => ?_)
    refine lv_if_eq hx hb dX11_out_17 (tgt := 32) (by decide) (fun hc => ?_) (fun hc => ?_)
    · rw [if_pos hc] at hm
      refine lv_iconst (v := (-1)) hx hb dX11_out_32 (by decide) ?_
      cases hm
      exact retI X hH dX11_out_33
    · rw [if_neg hc] at hm
      refine lv_iload_n hx hb dX11_out_20 rfl (lv_at hl 3 rfl) ?_
      refine lv_i2l hx hb dX11_out_21 rfl ?_
      refine lv_lconst (v := 0) hx hb dX11_out_22 (by decide) ?_
      refine lv_ldc2 hx hb hown (hts _ kc_X11_147) dX11_out_23 ?_
      obtain ⟨v3, hq, hm⟩ := bd1_some hm
      refine cSi (As := [.long a3.toInt64, .long (0 : Int64), .long (59 : Int64)]) X hH kl_X11_93 ks_X11_in (mt_X11_in hq) rfl (by decide) hl.1 rfl (Nat.le_of_ble_eq_true rfl) dX11_out_26 (fun H locs hH => ?_)
      refine lv_if_ne hx hb dX11_out_29 (tgt := 34) (by decide) (fun hc => ?_) (fun hc => ?_)
      · rw [if_neg hc] at hm
        refine lv_aload_n hx hb dX11_out_34 rfl (lv_at hl 0 rfl) ?_
        obtain ⟨h4, hq, hm⟩ := bdh_some hm
        refine cVv X hH kl_X11_168 kv_X11_note (mt_X11_note hq) lM_0 rfl rfl (by decide) hl.1 rfl (Nat.le_of_ble_eq_true rfl) dX11_out_35 (fun H locs hH => ?_)
        refine lv_aload_n hx hb dX11_out_38 rfl (lv_at hl 0 rfl) ?_
        refine gR X hH fl_X11_52 lM_0 rfl dX11_out_39 ?_
        refine lv_bipush (v := 24) hx hb dX11_out_42 (by decide) ?_
        refine lv_iconst (v := 2) hx hb dX11_out_44 (by decide) ?_
        refine lv_iload_n hx hb dX11_out_45 rfl (lv_at hl 1 rfl) ?_
        refine lv_imul hx hb dX11_out_46 ?_
        refine lv_iadd hx hb dX11_out_47 ?_
        refine lv_iload_n hx hb dX11_out_48 rfl (lv_at hl 2 rfl) ?_
        refine lv_iload_n hx hb dX11_out_49 rfl (lv_at hl 3 rfl) ?_
        refine lv_icmp_le hx hb dX11_out_50 (tgt := 57) (by decide) (fun hc => ?_) (fun hc => ?_)
        · rw [if_pos hc] at hm
          refine lv_iload_n hx hb dX11_out_57 rfl (lv_at hl 2 rfl) ?_
          exact wX11_out_58 X a1 a2 a3 a2 ((24 : Int32) + ((2 : Int32) * a1)) h4 _ _ _ hm hH (lv_sub hl [0, 1, 2, 3] rfl)
        · rw [if_neg hc] at hm
          refine lv_iconst (v := 1) hx hb dX11_out_53 (by decide) ?_
          refine lv_goto hx hb dX11_out_54 (tgt := 58) (by decide) ?_
          exact wX11_out_58 X a1 a2 a3 (1 : Int32) ((24 : Int32) + ((2 : Int32) * a1)) h4 _ _ _ hm hH (lv_sub hl [0, 1, 2, 3] rfl)
      · rw [if_pos hc] at hm
        refine lv_iconst (v := (-1)) hx hb dX11_out_32 (by decide) ?_
        cases hm
        exact retI X hH dX11_out_33
/-! X11_over -/
def mX11_over (h : Mm) (a1 : Int32) : Option (Int32 × Mm) := gIn (0 : Int32) 3 (bd1 (mX11_in h a1.toInt64 (0 : Int64) ((h 5 (0 : Int32).toNatClampNeg) - (1 : Int32)).toInt64) (fun v2 => if v2 = 0 then (some ((-1 : Int32), h)) else (bdh (mX11_fills_0_15 h) (fun h3 => bdh (mX11_flows h3 a1 (59 : Int32)) (fun h4 => gIn (3 : Int32) 4 (some ((h4 23 (3 : Int32).toNatClampNeg), h4)))))))
set_option maxRecDepth 4000 in
theorem mt_X11_over {l : Launch} {D : va_G} {ad : Nat → Nat} {ac : Nat → ClassId} {h : Mm} {a1 : Int32} {r : Int32} {h' : Mm} (hm : mX11_over h a1 = some (r, h')) : Mt l D ad ac LM [] yX11_over cX11_over 2 (some .int) 3 [.ref (ad 0), .int a1] h (some (.int r)) h' := by
  refine Mt.of (own := RX11) (by decide) rfl (Nat.le_of_ble_eq_true rfl) ?_
  intro p e s m below meth c ls X hH hl
  obtain ⟨hx, hb, hml, hown, hts, hr, hlk, hC, hI, hR⟩ := id X
  have hl : lv_has ls 2 [(0, .ref (ad 0)), (1, .int a1)] := hl
  rw [mX11_over] at hm
  refine lv_iload_n hx hb dX11_over_0 rfl (lv_at hl 1 rfl) ?_
  refine lv_i2l hx hb dX11_over_1 rfl ?_
  refine lv_lconst (v := 0) hx hb dX11_over_2 (by decide) ?_
  refine lv_aload_n hx hb dX11_over_3 rfl (lv_at hl 0 rfl) ?_
  refine gR X hH fl_X11_22 lM_0 rfl dX11_over_4 ?_
  refine lv_iconst (v := 0) hx hb dX11_over_7 (by decide) ?_
  obtain ⟨hin1, hm⟩ := gIn_some hm
  refine ild X hH lM_5 hin1 dX11_over_8 ?_
  refine lv_iconst (v := 1) hx hb dX11_over_9 (by decide) ?_
  refine lv_isub hx hb dX11_over_10 ?_
  refine lv_i2l hx hb dX11_over_11 rfl ?_
  obtain ⟨v2, hq, hm⟩ := bd1_some hm
  refine cSi (As := [.long a1.toInt64, .long (0 : Int64), .long ((h 5 (0 : Int32).toNatClampNeg) - (1 : Int32)).toInt64]) X hH kl_X11_93 ks_X11_in (mt_X11_in hq) rfl (by decide) hl.1 rfl (Nat.le_of_ble_eq_true rfl) dX11_over_12 (fun H locs hH => ?_)
  refine lv_if_ne hx hb dX11_over_15 (tgt := 20) (by decide) (fun hc => ?_) (fun hc => ?_)
  · rw [if_neg hc] at hm
    refine lv_aload_n hx hb dX11_over_20 rfl (lv_at hl 0 rfl) ?_
    refine lv_aload_n hx hb dX11_over_21 rfl (lv_at hl 0 rfl) ?_
    refine gR X hH fl_X11_52 lM_0 rfl dX11_over_22 ?_
    obtain ⟨h3, hq, hm⟩ := bdh_some hm
    refine cVv X hH kl_X11_181 kv_X11_fills (mt_X11_fills_0_15 hq) lM_0 rfl rfl (by decide) hl.1 rfl (Nat.le_of_ble_eq_true rfl) dX11_over_25 (fun H locs hH => ?_)
    refine lv_aload_n hx hb dX11_over_28 rfl (lv_at hl 0 rfl) ?_
    refine lv_iload_n hx hb dX11_over_29 rfl (lv_at hl 1 rfl) ?_
    refine lv_bipush (v := 59) hx hb dX11_over_30 (by decide) ?_
    obtain ⟨h4, hq, hm⟩ := bdh_some hm
    refine cVv X hH kl_X11_185 kv_X11_flows (mt_X11_flows hq) lM_0 rfl rfl (by decide) hl.1 rfl (Nat.le_of_ble_eq_true rfl) dX11_over_32 (fun H locs hH => ?_)
    refine lv_aload_n hx hb dX11_over_35 rfl (lv_at hl 0 rfl) ?_
    refine gR X hH fl_X11_76 lM_0 rfl dX11_over_36 ?_
    refine lv_iconst (v := 3) hx hb dX11_over_39 (by decide) ?_
    obtain ⟨hin5, hm⟩ := gIn_some hm
    refine ild X hH lM_23 hin5 dX11_over_40 ?_
    cases hm
    exact retI X hH dX11_over_41
  · rw [if_pos hc] at hm
    refine lv_iconst (v := (-1)) hx hb dX11_over_18 (by decide) ?_
    cases hm
    exact retI X hH dX11_over_19
/-! X11_pass -/
def mX11_pass_57 (h : Mm) (k27 : Int32 → Int32 → Int32 → Int32 → Option Int32) (x1 : Int32) (x2 : Int32) (x4 : Int32) (t0 : Int32) (t1 : Int32) : Option Int32 := mlet (t1 ||| t0) (fun u1 => k27 x1 x2 u1 (x4 + 1))
set_option maxRecDepth 4000 in
theorem wX11_pass_57 {p : Program} {l : Launch} {e : Env} {s : State} {m : MethodId} {args : Array Value} {below : List Frame} {meth : Method} {c : Code} {D : va_G} {ad : Nat → Nat} {ac : Nat → ClassId} {h : Mm} {r : Int32} (X : Fx p s m args meth c cX11_pass 5 RX11 (some .int) D ad ac LM []) {k27 : Int32 → Int32 → Int32 → Int32 → Option Int32} (ih27 : ∀ (x1 : Int32) (x2 : Int32) (x3 : Int32) (x4 : Int32) (H : Heap) (locs : List Loc) (ls : Array Slot), k27 x1 x2 x3 x4 = some r → Hp D ad ac LM h s H locs → lv_has ls 5 [(0, .ref (ad 0)), (1, .int x1), (2, .int x2), (3, .int x3), (4, .int x4)] → W p l e (rmD 2) s m args below meth c H locs 0 0 (MQ below (QU D ad ac LM (some (.int r)) h s.heap.size) args s 0 0 (Aa ad LM.length s.heap.size)) (F0 m 27 ls [])) : ∀ (x1 : Int32) (x2 : Int32) (x4 : Int32) (t0 : Int32) (t1 : Int32) (H : Heap) (locs : List Loc) (ls : Array Slot), mX11_pass_57 h k27 x1 x2 x4 t0 t1 = some r → Hp D ad ac LM h s H locs → lv_has ls 5 [(0, .ref (ad 0)), (1, .int x1), (2, .int x2), (4, .int x4)] → W p l e (rmD 2) s m args below meth c H locs 0 0 (MQ below (QU D ad ac LM (some (.int r)) h s.heap.size) args s 0 0 (Aa ad LM.length s.heap.size)) (F0 m 57 ls [.int t0, .int t1]) := by
  obtain ⟨hx, hb, hml, hown, hts, hr, hlk, hC, hI, hR⟩ := id X
  intro x1 x2 x4 t0 t1 H locs ls hm hH hl
  rw [mX11_pass_57] at hm
  refine lv_ior hx hb dX11_pass_57 ?_
  obtain ⟨u1, eu1, hm⟩ := mlet_some hm
  refine W.eq (g2 := F0 m 58 ls (.int u1 :: [])) (by rw [eu1]) ?_
  refine lv_istore_n (lv' := [(3, .int u1), (0, .ref (ad 0)), (1, .int x1), (2, .int x2), (4, .int x4)]) hx hb dX11_pass_58 rfl hl (by decide) rfl (fun ls hl => ?_)
  refine lv_iinc (k := 4) (v := (x4 + 1)) (lv' := [(4, .int (x4 + 1)), (3, .int u1), (0, .ref (ad 0)), (1, .int x1), (2, .int x2)]) hx hb dX11_pass_59 hl rfl rfl (by decide) rfl (fun ls hl => ?_)
  refine lv_goto hx hb dX11_pass_62 (tgt := 27) (by decide) ?_
  exact ih27 x1 x2 u1 (x4 + 1) _ _ _ hm hH (lv_sub hl [2, 3, 4, 1, 0] rfl)
def mX11_pass_27 (h : Mm) : Nat → Int32 → Int32 → Int32 → Int32 → Option Int32
  | 0, _, _, _, _ => none
  | n + 1, x1, x2, x3, x4 => gIn (2 : Int32) 3 (if (h 5 (2 : Int32).toNatClampNeg) ≤ x4 then (if x2 = (0 : Int32) then (gIn x1 24 (some (h 10 x1.toNatClampNeg))) else (if x2 = (1 : Int32) then (gIn x1 24 (some (h 11 x1.toNatClampNeg))) else (if x2 = (2 : Int32) then (gIn x1 24 (some (h 12 x1.toNatClampNeg))) else (if x2 = (3 : Int32) then (gIn x1 24 (some (h 13 x1.toNatClampNeg))) else (if x2 = (4 : Int32) then (gIn x1 24 (some (h 14 x1.toNatClampNeg))) else (if x2 = (5 : Int32) then (gIn x1 32 (some (h 15 x1.toNatClampNeg))) else (some x3))))))) else (bd1 (mX11_fits h x1 x4) (fun v8 => if v8 = 0 then (mX11_pass_57 h (mX11_pass_27 h n) x1 x2 x4 (0 : Int32) x3) else (mX11_pass_57 h (mX11_pass_27 h n) x1 x2 x4 ((1 : Int32) <<< (x4 &&& 31)) x3))))
set_option maxRecDepth 4000 in
theorem wX11_pass_27 {p : Program} {l : Launch} {e : Env} {s : State} {m : MethodId} {args : Array Value} {below : List Frame} {meth : Method} {c : Code} {D : va_G} {ad : Nat → Nat} {ac : Nat → ClassId} {h : Mm} {r : Int32} (X : Fx p s m args meth c cX11_pass 5 RX11 (some .int) D ad ac LM []) : ∀ (n : Nat) (x1 : Int32) (x2 : Int32) (x3 : Int32) (x4 : Int32) (H : Heap) (locs : List Loc) (ls : Array Slot), mX11_pass_27 h n x1 x2 x3 x4 = some r → Hp D ad ac LM h s H locs → lv_has ls 5 [(0, .ref (ad 0)), (1, .int x1), (2, .int x2), (3, .int x3), (4, .int x4)] → W p l e (rmD 2) s m args below meth c H locs 0 0 (MQ below (QU D ad ac LM (some (.int r)) h s.heap.size) args s 0 0 (Aa ad LM.length s.heap.size)) (F0 m 27 ls []) := by
  obtain ⟨hx, hb, hml, hown, hts, hr, hlk, hC, hI, hR⟩ := id X
  intro n
  induction n with
  | zero => intro x1 x2 x3 x4 H locs ls hm; rw [mX11_pass_27] at hm; cases hm
  | succ n ih =>
    intro x1 x2 x3 x4 H locs ls hm hH hl
    rw [mX11_pass_27] at hm
    refine lv_iload hx hb dX11_pass_27 (lv_at hl 4 rfl) ?_
    refine lv_aload_n hx hb dX11_pass_29 rfl (lv_at hl 0 rfl) ?_
    refine gR X hH fl_X11_22 lM_0 rfl dX11_pass_30 ?_
    refine lv_iconst (v := 2) hx hb dX11_pass_33 (by decide) ?_
    obtain ⟨hin1, hm⟩ := gIn_some hm
    refine ild X hH lM_5 hin1 dX11_pass_34 ?_
    refine lv_icmp_ge hx hb dX11_pass_35 (tgt := 65) (by decide) (fun hc => ?_) (fun hc => ?_)
    · rw [if_pos hc] at hm
      refine lv_iload_n hx hb dX11_pass_65 rfl (lv_at hl 2 rfl) ?_
      by_cases hc0 : x2 = (0 : Int32)
      · rw [if_pos hc0] at hm
        refine lv_tableIn hx hb dX11_pass_66 (by rw [hc0]; decide) (by rw [hc0]; decide) (off := 38) (by rw [hc0]; rfl) (tgt := 104) (by decide) ?_
        refine lv_aload_n hx hb dX11_pass_104 rfl (lv_at hl 0 rfl) ?_
        refine gR X hH fl_X11_37 lM_0 rfl dX11_pass_105 ?_
        refine lv_iload_n hx hb dX11_pass_108 rfl (lv_at hl 1 rfl) ?_
        obtain ⟨hin2, hm⟩ := gIn_some hm
        refine ild X hH lM_10 hin2 dX11_pass_109 ?_
        cases hm
        exact retI X hH dX11_pass_110
      · rw [if_neg hc0] at hm
        by_cases hc1 : x2 = (1 : Int32)
        · rw [if_pos hc1] at hm
          refine lv_tableIn hx hb dX11_pass_66 (by rw [hc1]; decide) (by rw [hc1]; decide) (off := 45) (by rw [hc1]; rfl) (tgt := 111) (by decide) ?_
          refine lv_aload_n hx hb dX11_pass_111 rfl (lv_at hl 0 rfl) ?_
          refine gR X hH fl_X11_40 lM_0 rfl dX11_pass_112 ?_
          refine lv_iload_n hx hb dX11_pass_115 rfl (lv_at hl 1 rfl) ?_
          obtain ⟨hin3, hm⟩ := gIn_some hm
          refine ild X hH lM_11 hin3 dX11_pass_116 ?_
          cases hm
          exact retI X hH dX11_pass_117
        · rw [if_neg hc1] at hm
          by_cases hc2 : x2 = (2 : Int32)
          · rw [if_pos hc2] at hm
            refine lv_tableIn hx hb dX11_pass_66 (by rw [hc2]; decide) (by rw [hc2]; decide) (off := 52) (by rw [hc2]; rfl) (tgt := 118) (by decide) ?_
            refine lv_aload_n hx hb dX11_pass_118 rfl (lv_at hl 0 rfl) ?_
            refine gR X hH fl_X11_43 lM_0 rfl dX11_pass_119 ?_
            refine lv_iload_n hx hb dX11_pass_122 rfl (lv_at hl 1 rfl) ?_
            obtain ⟨hin4, hm⟩ := gIn_some hm
            refine ild X hH lM_12 hin4 dX11_pass_123 ?_
            cases hm
            exact retI X hH dX11_pass_124
          · rw [if_neg hc2] at hm
            by_cases hc3 : x2 = (3 : Int32)
            · rw [if_pos hc3] at hm
              refine lv_tableIn hx hb dX11_pass_66 (by rw [hc3]; decide) (by rw [hc3]; decide) (off := 59) (by rw [hc3]; rfl) (tgt := 125) (by decide) ?_
              refine lv_aload_n hx hb dX11_pass_125 rfl (lv_at hl 0 rfl) ?_
              refine gR X hH fl_X11_46 lM_0 rfl dX11_pass_126 ?_
              refine lv_iload_n hx hb dX11_pass_129 rfl (lv_at hl 1 rfl) ?_
              obtain ⟨hin5, hm⟩ := gIn_some hm
              refine ild X hH lM_13 hin5 dX11_pass_130 ?_
              cases hm
              exact retI X hH dX11_pass_131
            · rw [if_neg hc3] at hm
              by_cases hc4 : x2 = (4 : Int32)
              · rw [if_pos hc4] at hm
                refine lv_tableIn hx hb dX11_pass_66 (by rw [hc4]; decide) (by rw [hc4]; decide) (off := 66) (by rw [hc4]; rfl) (tgt := 132) (by decide) ?_
                refine lv_aload_n hx hb dX11_pass_132 rfl (lv_at hl 0 rfl) ?_
                refine gR X hH fl_X11_49 lM_0 rfl dX11_pass_133 ?_
                refine lv_iload_n hx hb dX11_pass_136 rfl (lv_at hl 1 rfl) ?_
                obtain ⟨hin6, hm⟩ := gIn_some hm
                refine ild X hH lM_14 hin6 dX11_pass_137 ?_
                cases hm
                exact retI X hH dX11_pass_138
              · rw [if_neg hc4] at hm
                by_cases hc5 : x2 = (5 : Int32)
                · rw [if_pos hc5] at hm
                  refine lv_tableIn hx hb dX11_pass_66 (by rw [hc5]; decide) (by rw [hc5]; decide) (off := 73) (by rw [hc5]; rfl) (tgt := 139) (by decide) ?_
                  refine lv_aload_n hx hb dX11_pass_139 rfl (lv_at hl 0 rfl) ?_
                  refine gR X hH fl_X11_52 lM_0 rfl dX11_pass_140 ?_
                  refine lv_iload_n hx hb dX11_pass_143 rfl (lv_at hl 1 rfl) ?_
                  obtain ⟨hin7, hm⟩ := gIn_some hm
                  refine ild X hH lM_15 hin7 dX11_pass_144 ?_
                  cases hm
                  exact retI X hH dX11_pass_145
                · rw [if_neg hc5] at hm
                  have q0 := lv_neT (a := 0) hc0 (by decide)
                  have q1 := lv_neT (a := 1) hc1 (by decide)
                  have q2 := lv_neT (a := 2) hc2 (by decide)
                  have q3 := lv_neT (a := 3) hc3 (by decide)
                  have q4 := lv_neT (a := 4) hc4 (by decide)
                  have q5 := lv_neT (a := 5) hc5 (by decide)
                  refine lv_tableOut hx hb dX11_pass_66 (by omega) (tgt := 146) (by decide) ?_
                  refine lv_iload_n hx hb dX11_pass_146 rfl (lv_at hl 3 rfl) ?_
                  cases hm
                  exact retI X hH dX11_pass_147
    · rw [if_neg hc] at hm
      refine lv_iload_n hx hb dX11_pass_38 rfl (lv_at hl 3 rfl) ?_
      refine lv_aload_n hx hb dX11_pass_39 rfl (lv_at hl 0 rfl) ?_
      refine lv_iload_n hx hb dX11_pass_40 rfl (lv_at hl 1 rfl) ?_
      refine lv_iload hx hb dX11_pass_41 (lv_at hl 4 rfl) ?_
      obtain ⟨v8, hq, hm⟩ := bd1_some hm
      refine cVi X hH kl_X11_152 kv_X11_fits (mt_X11_fits hq) lM_0 rfl rfl (by decide) hl.1 rfl (Nat.le_of_ble_eq_true rfl) dX11_pass_43 (fun H locs hH => ?_)
      refine lv_if_eq hx hb dX11_pass_46 (tgt := 56) (by decide) (fun hc => ?_) (fun hc => ?_)
      · rw [if_pos hc] at hm
        refine lv_iconst (v := 0) hx hb dX11_pass_56 (by decide) ?_
        exact wX11_pass_57 X ih x1 x2 x4 (0 : Int32) x3 _ _ _ hm hH (lv_sub hl [0, 1, 2, 4] rfl)
      · rw [if_neg hc] at hm
        refine lv_iconst (v := 1) hx hb dX11_pass_49 (by decide) ?_
        refine lv_iload hx hb dX11_pass_50 (lv_at hl 4 rfl) ?_
        refine lv_ishl hx hb dX11_pass_52 ?_
        refine lv_goto hx hb dX11_pass_53 (tgt := 57) (by decide) ?_
        exact wX11_pass_57 X ih x1 x2 x4 ((1 : Int32) <<< (x4 &&& 31)) x3 _ _ _ hm hH (lv_sub hl [0, 1, 2, 4] rfl)
def mX11_pass (h : Mm) (a1 : Int32) (a2 : Int32) : Option Int32 := bd1 (mX11_isPass h a1) (fun v1 => if v1 = 0 then (some (-1 : Int32)) else (bd1 (mX11_in h a2.toInt64 (0 : Int64) (6 : Int64)) (fun v2 => if v2 = 0 then (some (-1 : Int32)) else (mX11_pass_27 h FU a1 a2 (0 : Int32) (0 : Int32)))))
set_option maxRecDepth 4000 in
theorem mt_X11_pass {l : Launch} {D : va_G} {ad : Nat → Nat} {ac : Nat → ClassId} {h : Mm} {a1 : Int32} {a2 : Int32} {r : Int32} (hm : mX11_pass h a1 a2 = some r) : Mt l D ad ac LM [] yX11_pass cX11_pass 5 (some .int) 2 [.ref (ad 0), .int a1, .int a2] h (some (.int r)) h := by
  refine Mt.of (own := RX11) (by decide) rfl (Nat.le_of_ble_eq_true rfl) ?_
  intro p e s m below meth c ls X hH hl
  obtain ⟨hx, hb, hml, hown, hts, hr, hlk, hC, hI, hR⟩ := id X
  have hl : lv_has ls 5 [(0, .ref (ad 0)), (1, .int a1), (2, .int a2)] := hl
  rw [mX11_pass] at hm
  refine lv_aload_n hx hb dX11_pass_0 rfl (lv_at hl 0 rfl) ?_
  refine lv_iload_n hx hb dX11_pass_1 rfl (lv_at hl 1 rfl) ?_
  obtain ⟨v1, hq, hm⟩ := bd1_some hm
  refine cVi X hH kl_X11_149 kv_X11_isPass (mt_X11_isPass hq) lM_0 rfl rfl (by decide) hl.1 rfl (Nat.le_of_ble_eq_true rfl) dX11_pass_2 (fun H locs hH => ?_)
  refine lv_if_eq hx hb dX11_pass_5 (tgt := 20) (by decide) (fun hc => ?_) (fun hc => ?_)
  · rw [if_pos hc] at hm
    refine lv_iconst (v := (-1)) hx hb dX11_pass_20 (by decide) ?_
    cases hm
    exact retI X hH dX11_pass_21
  · rw [if_neg hc] at hm
    refine lv_iload_n hx hb dX11_pass_8 rfl (lv_at hl 2 rfl) ?_
    refine lv_i2l hx hb dX11_pass_9 rfl ?_
    refine lv_lconst (v := 0) hx hb dX11_pass_10 (by decide) ?_
    refine lv_ldc2 hx hb hown (hts _ kc_X11_138) dX11_pass_11 ?_
    obtain ⟨v2, hq, hm⟩ := bd1_some hm
    refine cSi (As := [.long a2.toInt64, .long (0 : Int64), .long (6 : Int64)]) X hH kl_X11_93 ks_X11_in (mt_X11_in hq) rfl (by decide) hl.1 rfl (Nat.le_of_ble_eq_true rfl) dX11_pass_14 (fun H locs hH => ?_)
    refine lv_if_ne hx hb dX11_pass_17 (tgt := 22) (by decide) (fun hc => ?_) (fun hc => ?_)
    · rw [if_neg hc] at hm
      refine lv_iconst (v := 0) hx hb dX11_pass_22 (by decide) ?_
      refine lv_istore_n (lv' := [(3, .int (0 : Int32)), (0, .ref (ad 0)), (1, .int a1), (2, .int a2)]) hx hb dX11_pass_23 rfl hl (by decide) rfl (fun ls hl => ?_)
      refine lv_iconst (v := 0) hx hb dX11_pass_24 (by decide) ?_
      refine lv_istore (lv' := [(4, .int (0 : Int32)), (3, .int (0 : Int32)), (0, .ref (ad 0)), (1, .int a1), (2, .int a2)]) hx hb dX11_pass_25 hl (by decide) rfl (fun ls hl => ?_)
      exact wX11_pass_27 X FU a1 a2 (0 : Int32) (0 : Int32) _ _ _ hm hH (lv_sub hl [2, 3, 4, 1, 0] rfl)
    · rw [if_pos hc] at hm
      refine lv_iconst (v := (-1)) hx hb dX11_pass_20 (by decide) ?_
      cases hm
      exact retI X hH dX11_pass_21
/-! X11_plan -/
def mX11_plan (h : Mm) (a1 : Int32) (a2 : Int32) (a3 : Int32) (a4 : Int32) : Option (Int32 × Mm) := bd1 (mX11_in h a1.toInt64 (0 : Int64) (1 : Int64)) (fun v1 => if v1 = 0 then (some ((-1 : Int32), h)) else (bd1 (mX11_isPass h a2) (fun v2 => if v2 = 0 then (some ((-1 : Int32), h)) else (bd1 (mX11_in h a3.toInt64 (0 : Int64) (6 : Int64)) (fun v3 => if v3 = 0 then (some ((-1 : Int32), h)) else (bd1 (mX11_wide h a2) (fun v4 => bd1 (mX11_in h a4.toInt64 (-4 : Int64) (v4 - (1 : Int32)).toInt64) (fun v5 => if v5 = 0 then (some ((-1 : Int32), h)) else (bdh (mX11_plans h a1 a2 a3) (fun h6 => if a4 = (-4 : Int32) then (gIn (2 : Int32) 4 (some ((h6 22 (2 : Int32).toNatClampNeg), h6))) else (if a4 = (-3 : Int32) then (gIn (1 : Int32) 4 (some ((h6 22 (1 : Int32).toNatClampNeg), h6))) else (if a4 = (-2 : Int32) then (bd2 (mX11_lost_0_20 h6) (fun v11 h10 => some (v11, h10))) else (if a4 = (-1 : Int32) then (bd1 (mX11_wide h6 a2) (fun v12 => bd1 (mX11_volumeOf_0_20 h6 a2 (a2 + v12)) (fun v13 => some (v13, h6)))) else (gIn a4 6 (some ((h6 21 a4.toNatClampNeg), h6))))))))))))))))
set_option maxRecDepth 4000 in
theorem mt_X11_plan {l : Launch} {D : va_G} {ad : Nat → Nat} {ac : Nat → ClassId} {h : Mm} {a1 : Int32} {a2 : Int32} {a3 : Int32} {a4 : Int32} {r : Int32} {h' : Mm} (hm : mX11_plan h a1 a2 a3 a4 = some (r, h')) : Mt l D ad ac LM [] yX11_plan cX11_plan 5 (some .int) 5 [.ref (ad 0), .int a1, .int a2, .int a3, .int a4] h (some (.int r)) h' := by
  refine Mt.of (own := RX11) (by decide) rfl (Nat.le_of_ble_eq_true rfl) ?_
  intro p e s m below meth c ls X hH hl
  obtain ⟨hx, hb, hml, hown, hts, hr, hlk, hC, hI, hR⟩ := id X
  have hl : lv_has ls 5 [(0, .ref (ad 0)), (1, .int a1), (2, .int a2), (3, .int a3), (4, .int a4)] := hl
  rw [mX11_plan] at hm
  refine lv_iload_n hx hb dX11_plan_0 rfl (lv_at hl 1 rfl) ?_
  refine lv_i2l hx hb dX11_plan_1 rfl ?_
  refine lv_lconst (v := 0) hx hb dX11_plan_2 (by decide) ?_
  refine lv_lconst (v := 1) hx hb dX11_plan_3 (by decide) ?_
  obtain ⟨v1, hq, hm⟩ := bd1_some hm
  refine cSi (As := [.long a1.toInt64, .long (0 : Int64), .long (1 : Int64)]) X hH kl_X11_93 ks_X11_in (mt_X11_in hq) rfl (by decide) hl.1 rfl (Nat.le_of_ble_eq_true rfl) dX11_plan_4 (fun H locs hH => ?_)
  refine lv_if_eq hx hb dX11_plan_7 (tgt := 50) (by decide) (fun hc => ?_) (fun hc => ?_)
  · rw [if_pos hc] at hm
    refine lv_iconst (v := (-1)) hx hb dX11_plan_50 (by decide) ?_
    cases hm
    exact retI X hH dX11_plan_51
  · rw [if_neg hc] at hm
    refine lv_aload_n hx hb dX11_plan_10 rfl (lv_at hl 0 rfl) ?_
    refine lv_iload_n hx hb dX11_plan_11 rfl (lv_at hl 2 rfl) ?_
    obtain ⟨v2, hq, hm⟩ := bd1_some hm
    refine cVi X hH kl_X11_149 kv_X11_isPass (mt_X11_isPass hq) lM_0 rfl rfl (by decide) hl.1 rfl (Nat.le_of_ble_eq_true rfl) dX11_plan_12 (fun H locs hH => ?_)
    refine lv_if_eq hx hb dX11_plan_15 (tgt := 50) (by decide) (fun hc => ?_) (fun hc => ?_)
    · rw [if_pos hc] at hm
      refine lv_iconst (v := (-1)) hx hb dX11_plan_50 (by decide) ?_
      cases hm
      exact retI X hH dX11_plan_51
    · rw [if_neg hc] at hm
      refine lv_iload_n hx hb dX11_plan_18 rfl (lv_at hl 3 rfl) ?_
      refine lv_i2l hx hb dX11_plan_19 rfl ?_
      refine lv_lconst (v := 0) hx hb dX11_plan_20 (by decide) ?_
      refine lv_ldc2 hx hb hown (hts _ kc_X11_138) dX11_plan_21 ?_
      obtain ⟨v3, hq, hm⟩ := bd1_some hm
      refine cSi (As := [.long a3.toInt64, .long (0 : Int64), .long (6 : Int64)]) X hH kl_X11_93 ks_X11_in (mt_X11_in hq) rfl (by decide) hl.1 rfl (Nat.le_of_ble_eq_true rfl) dX11_plan_24 (fun H locs hH => ?_)
      refine lv_if_eq hx hb dX11_plan_27 (tgt := 50) (by decide) (fun hc => ?_) (fun hc => ?_)
      · rw [if_pos hc] at hm
        refine lv_iconst (v := (-1)) hx hb dX11_plan_50 (by decide) ?_
        cases hm
        exact retI X hH dX11_plan_51
      · rw [if_neg hc] at hm
        refine lv_iload hx hb dX11_plan_30 (lv_at hl 4 rfl) ?_
        refine lv_i2l hx hb dX11_plan_32 rfl ?_
        refine lv_ldc2 hx hb hown (hts _ kc_X11_207) dX11_plan_33 ?_
        refine lv_aload_n hx hb dX11_plan_36 rfl (lv_at hl 0 rfl) ?_
        refine lv_iload_n hx hb dX11_plan_37 rfl (lv_at hl 2 rfl) ?_
        obtain ⟨v4, hq, hm⟩ := bd1_some hm
        refine cVi X hH kl_X11_189 kv_X11_wide (mt_X11_wide hq) lM_0 rfl rfl (by decide) hl.1 rfl (Nat.le_of_ble_eq_true rfl) dX11_plan_38 (fun H locs hH => ?_)
        refine lv_iconst (v := 1) hx hb dX11_plan_41 (by decide) ?_
        refine lv_isub hx hb dX11_plan_42 ?_
        refine lv_i2l hx hb dX11_plan_43 rfl ?_
        obtain ⟨v5, hq, hm⟩ := bd1_some hm
        refine cSi (As := [.long a4.toInt64, .long (-4 : Int64), .long (v4 - (1 : Int32)).toInt64]) X hH kl_X11_93 ks_X11_in (mt_X11_in hq) rfl (by decide) hl.1 rfl (Nat.le_of_ble_eq_true rfl) dX11_plan_44 (fun H locs hH => ?_)
        refine lv_if_ne hx hb dX11_plan_47 (tgt := 52) (by decide) (fun hc => ?_) (fun hc => ?_)
        · rw [if_neg hc] at hm
          refine lv_aload_n hx hb dX11_plan_52 rfl (lv_at hl 0 rfl) ?_
          refine lv_iload_n hx hb dX11_plan_53 rfl (lv_at hl 1 rfl) ?_
          refine lv_iload_n hx hb dX11_plan_54 rfl (lv_at hl 2 rfl) ?_
          refine lv_iload_n hx hb dX11_plan_55 rfl (lv_at hl 3 rfl) ?_
          obtain ⟨h6, hq, hm⟩ := bdh_some hm
          refine cVv X hH kl_X11_209 kv_X11_plans (mt_X11_plans hq) lM_0 rfl rfl (by decide) hl.1 rfl (Nat.le_of_ble_eq_true rfl) dX11_plan_56 (fun H locs hH => ?_)
          refine lv_iload hx hb dX11_plan_59 (lv_at hl 4 rfl) ?_
          by_cases hc0 : a4 = (-4 : Int32)
          · rw [if_pos hc0] at hm
            refine lv_tableIn hx hb dX11_plan_61 (by rw [hc0]; decide) (by rw [hc0]; decide) (off := 64) (by rw [hc0]; rfl) (tgt := 125) (by decide) ?_
            refine lv_aload_n hx hb dX11_plan_125 rfl (lv_at hl 0 rfl) ?_
            refine gR X hH fl_X11_73 lM_0 rfl dX11_plan_126 ?_
            refine lv_iconst (v := 2) hx hb dX11_plan_129 (by decide) ?_
            obtain ⟨hin8, hm⟩ := gIn_some hm
            refine ild X hH lM_22 hin8 dX11_plan_130 ?_
            cases hm
            exact retI X hH dX11_plan_131
          · rw [if_neg hc0] at hm
            by_cases hc1 : a4 = (-3 : Int32)
            · rw [if_pos hc1] at hm
              refine lv_tableIn hx hb dX11_plan_61 (by rw [hc1]; decide) (by rw [hc1]; decide) (off := 57) (by rw [hc1]; rfl) (tgt := 118) (by decide) ?_
              refine lv_aload_n hx hb dX11_plan_118 rfl (lv_at hl 0 rfl) ?_
              refine gR X hH fl_X11_73 lM_0 rfl dX11_plan_119 ?_
              refine lv_iconst (v := 1) hx hb dX11_plan_122 (by decide) ?_
              obtain ⟨hin9, hm⟩ := gIn_some hm
              refine ild X hH lM_22 hin9 dX11_plan_123 ?_
              cases hm
              exact retI X hH dX11_plan_124
            · rw [if_neg hc1] at hm
              by_cases hc2 : a4 = (-2 : Int32)
              · rw [if_pos hc2] at hm
                refine lv_tableIn hx hb dX11_plan_61 (by rw [hc2]; decide) (by rw [hc2]; decide) (off := 48) (by rw [hc2]; rfl) (tgt := 109) (by decide) ?_
                refine lv_aload_n hx hb dX11_plan_109 rfl (lv_at hl 0 rfl) ?_
                refine lv_aload_n hx hb dX11_plan_110 rfl (lv_at hl 0 rfl) ?_
                refine gR X hH fl_X11_67 lM_0 rfl dX11_plan_111 ?_
                obtain ⟨v11, h10, hq, hm⟩ := bd2_some hm
                refine cVi X hH kl_X11_200 kv_X11_lost (mt_X11_lost_0_20 hq) lM_0 rfl rfl (by decide) hl.1 rfl (Nat.le_of_ble_eq_true rfl) dX11_plan_114 (fun H locs hH => ?_)
                cases hm
                exact retI X hH dX11_plan_117
              · rw [if_neg hc2] at hm
                by_cases hc3 : a4 = (-1 : Int32)
                · rw [if_pos hc3] at hm
                  refine lv_tableIn hx hb dX11_plan_61 (by rw [hc3]; decide) (by rw [hc3]; decide) (off := 31) (by rw [hc3]; rfl) (tgt := 92) (by decide) ?_
                  refine lv_aload_n hx hb dX11_plan_92 rfl (lv_at hl 0 rfl) ?_
                  refine lv_aload_n hx hb dX11_plan_93 rfl (lv_at hl 0 rfl) ?_
                  refine gR X hH fl_X11_67 lM_0 rfl dX11_plan_94 ?_
                  refine lv_iload_n hx hb dX11_plan_97 rfl (lv_at hl 2 rfl) ?_
                  refine lv_iload_n hx hb dX11_plan_98 rfl (lv_at hl 2 rfl) ?_
                  refine lv_aload_n hx hb dX11_plan_99 rfl (lv_at hl 0 rfl) ?_
                  refine lv_iload_n hx hb dX11_plan_100 rfl (lv_at hl 2 rfl) ?_
                  obtain ⟨v12, hq, hm⟩ := bd1_some hm
                  refine cVi X hH kl_X11_189 kv_X11_wide (mt_X11_wide hq) lM_0 rfl rfl (by decide) hl.1 rfl (Nat.le_of_ble_eq_true rfl) dX11_plan_101 (fun H locs hH => ?_)
                  refine lv_iadd hx hb dX11_plan_104 ?_
                  obtain ⟨v13, hq, hm⟩ := bd1_some hm
                  refine cVi X hH kl_X11_196 kv_X11_volumeOf (mt_X11_volumeOf_0_20 hq) lM_0 rfl rfl (by decide) hl.1 rfl (Nat.le_of_ble_eq_true rfl) dX11_plan_105 (fun H locs hH => ?_)
                  cases hm
                  exact retI X hH dX11_plan_108
                · rw [if_neg hc3] at hm
                  have q0 := lv_neT (a := -4) hc0 (by decide)
                  have q1 := lv_neT (a := -3) hc1 (by decide)
                  have q2 := lv_neT (a := -2) hc2 (by decide)
                  have q3 := lv_neT (a := -1) hc3 (by decide)
                  refine lv_tableOut hx hb dX11_plan_61 (by omega) (tgt := 132) (by decide) ?_
                  refine lv_aload_n hx hb dX11_plan_132 rfl (lv_at hl 0 rfl) ?_
                  refine gR X hH fl_X11_70 lM_0 rfl dX11_plan_133 ?_
                  refine lv_iload hx hb dX11_plan_136 (lv_at hl 4 rfl) ?_
                  obtain ⟨hin7, hm⟩ := gIn_some hm
                  refine ild X hH lM_21 hin7 dX11_plan_138 ?_
                  cases hm
                  exact retI X hH dX11_plan_139
        · rw [if_pos hc] at hm
          refine lv_iconst (v := (-1)) hx hb dX11_plan_50 (by decide) ?_
          cases hm
          exact retI X hH dX11_plan_51
/-! X11_rate -/
def mX11_rate (h : Mm) (a1 : Int32) (a2 : Int32) : Option Int32 := bd1 (mX11_isPass h a1) (fun v1 => if v1 = 0 then (some (-1 : Int32)) else (bd1 (mX11_in h a2.toInt64 (0 : Int64) (59 : Int64)) (fun v2 => if v2 = 0 then (some (-1 : Int32)) else (gIn a1 24 (gIn a1 24 (bd1 (mX11_in h a2.toInt64 (h 10 a1.toNatClampNeg).toInt64 (h 11 a1.toNatClampNeg).toInt64) (fun v5 => if v5 = 0 then (some (-4 : Int32)) else (bd1 (mX11_rateAt h a1 a2) (fun v6 => some v6)))))))))
set_option maxRecDepth 4000 in
theorem mt_X11_rate {l : Launch} {D : va_G} {ad : Nat → Nat} {ac : Nat → ClassId} {h : Mm} {a1 : Int32} {a2 : Int32} {r : Int32} (hm : mX11_rate h a1 a2 = some r) : Mt l D ad ac LM [] yX11_rate cX11_rate 3 (some .int) 2 [.ref (ad 0), .int a1, .int a2] h (some (.int r)) h := by
  refine Mt.of (own := RX11) (by decide) rfl (Nat.le_of_ble_eq_true rfl) ?_
  intro p e s m below meth c ls X hH hl
  obtain ⟨hx, hb, hml, hown, hts, hr, hlk, hC, hI, hR⟩ := id X
  have hl : lv_has ls 3 [(0, .ref (ad 0)), (1, .int a1), (2, .int a2)] := hl
  rw [mX11_rate] at hm
  refine lv_aload_n hx hb dX11_rate_0 rfl (lv_at hl 0 rfl) ?_
  refine lv_iload_n hx hb dX11_rate_1 rfl (lv_at hl 1 rfl) ?_
  obtain ⟨v1, hq, hm⟩ := bd1_some hm
  refine cVi X hH kl_X11_149 kv_X11_isPass (mt_X11_isPass hq) lM_0 rfl rfl (by decide) hl.1 rfl (Nat.le_of_ble_eq_true rfl) dX11_rate_2 (fun H locs hH => ?_)
  refine lv_if_eq hx hb dX11_rate_5 (tgt := 20) (by decide) (fun hc => ?_) (fun hc => ?_)
  · rw [if_pos hc] at hm
    refine lv_iconst (v := (-1)) hx hb dX11_rate_20 (by decide) ?_
    cases hm
    exact retI X hH dX11_rate_21
  · rw [if_neg hc] at hm
    refine lv_iload_n hx hb dX11_rate_8 rfl (lv_at hl 2 rfl) ?_
    refine lv_i2l hx hb dX11_rate_9 rfl ?_
    refine lv_lconst (v := 0) hx hb dX11_rate_10 (by decide) ?_
    refine lv_ldc2 hx hb hown (hts _ kc_X11_147) dX11_rate_11 ?_
    obtain ⟨v2, hq, hm⟩ := bd1_some hm
    refine cSi (As := [.long a2.toInt64, .long (0 : Int64), .long (59 : Int64)]) X hH kl_X11_93 ks_X11_in (mt_X11_in hq) rfl (by decide) hl.1 rfl (Nat.le_of_ble_eq_true rfl) dX11_rate_14 (fun H locs hH => ?_)
    refine lv_if_ne hx hb dX11_rate_17 (tgt := 22) (by decide) (fun hc => ?_) (fun hc => ?_)
    · rw [if_neg hc] at hm
      refine lv_iload_n hx hb dX11_rate_22 rfl (lv_at hl 2 rfl) ?_
      refine lv_i2l hx hb dX11_rate_23 rfl ?_
      refine lv_aload_n hx hb dX11_rate_24 rfl (lv_at hl 0 rfl) ?_
      refine gR X hH fl_X11_37 lM_0 rfl dX11_rate_25 ?_
      refine lv_iload_n hx hb dX11_rate_28 rfl (lv_at hl 1 rfl) ?_
      obtain ⟨hin3, hm⟩ := gIn_some hm
      refine ild X hH lM_10 hin3 dX11_rate_29 ?_
      refine lv_i2l hx hb dX11_rate_30 rfl ?_
      refine lv_aload_n hx hb dX11_rate_31 rfl (lv_at hl 0 rfl) ?_
      refine gR X hH fl_X11_40 lM_0 rfl dX11_rate_32 ?_
      refine lv_iload_n hx hb dX11_rate_35 rfl (lv_at hl 1 rfl) ?_
      obtain ⟨hin4, hm⟩ := gIn_some hm
      refine ild X hH lM_11 hin4 dX11_rate_36 ?_
      refine lv_i2l hx hb dX11_rate_37 rfl ?_
      obtain ⟨v5, hq, hm⟩ := bd1_some hm
      refine cSi (As := [.long a2.toInt64, .long (h 10 a1.toNatClampNeg).toInt64, .long (h 11 a1.toNatClampNeg).toInt64]) X hH kl_X11_93 ks_X11_in (mt_X11_in hq) rfl (by decide) hl.1 rfl (Nat.le_of_ble_eq_true rfl) dX11_rate_38 (fun H locs hH => ?_)
      refine lv_if_eq hx hb dX11_rate_41 (tgt := 53) (by decide) (fun hc => ?_) (fun hc => ?_)
      · rw [if_pos hc] at hm
        refine lv_bipush (v := (-4)) hx hb dX11_rate_53 (by decide) ?_
        cases hm
        exact retI X hH dX11_rate_55
      · rw [if_neg hc] at hm
        refine lv_aload_n hx hb dX11_rate_44 rfl (lv_at hl 0 rfl) ?_
        refine lv_iload_n hx hb dX11_rate_45 rfl (lv_at hl 1 rfl) ?_
        refine lv_iload_n hx hb dX11_rate_46 rfl (lv_at hl 2 rfl) ?_
        obtain ⟨v6, hq, hm⟩ := bd1_some hm
        refine cVi X hH kl_X11_156 kv_X11_rateAt (mt_X11_rateAt hq) lM_0 rfl rfl (by decide) hl.1 rfl (Nat.le_of_ble_eq_true rfl) dX11_rate_47 (fun H locs hH => ?_)
        refine lv_goto hx hb dX11_rate_50 (tgt := 55) (by decide) ?_
        cases hm
        exact retI X hH dX11_rate_55
    · rw [if_pos hc] at hm
      refine lv_iconst (v := (-1)) hx hb dX11_rate_20 (by decide) ?_
      cases hm
      exact retI X hH dX11_rate_21
/-! X11_sat -/
def mX11_sat (h : Mm) (a1 : Int32) (a2 : Int32) : Option Int32 := gIn (0 : Int32) 3 (bd1 (mX11_in h a1.toInt64 (0 : Int64) ((h 5 (0 : Int32).toNatClampNeg) - (1 : Int32)).toInt64) (fun v2 => if v2 = 0 then (some (-1 : Int32)) else (bd1 (mX11_in h a2.toInt64 (0 : Int64) (6 : Int64)) (fun v3 => if v3 = 0 then (some (-1 : Int32)) else (if (5 : Int32) ≤ a2 then (bd1 (mX11_sumOf h (a2 - (5 : Int32)) a1) (fun v4 => some v4)) else (gIn (((5 : Int32) * a1) + a2) 20 (some (h 2 (((5 : Int32) * a1) + a2).toNatClampNeg))))))))
set_option maxRecDepth 4000 in
theorem mt_X11_sat {l : Launch} {D : va_G} {ad : Nat → Nat} {ac : Nat → ClassId} {h : Mm} {a1 : Int32} {a2 : Int32} {r : Int32} (hm : mX11_sat h a1 a2 = some r) : Mt l D ad ac LM [] yX11_sat cX11_sat 3 (some .int) 1 [.ref (ad 0), .int a1, .int a2] h (some (.int r)) h := by
  refine Mt.of (own := RX11) (by decide) rfl (Nat.le_of_ble_eq_true rfl) ?_
  intro p e s m below meth c ls X hH hl
  obtain ⟨hx, hb, hml, hown, hts, hr, hlk, hC, hI, hR⟩ := id X
  have hl : lv_has ls 3 [(0, .ref (ad 0)), (1, .int a1), (2, .int a2)] := hl
  rw [mX11_sat] at hm
  refine lv_iload_n hx hb dX11_sat_0 rfl (lv_at hl 1 rfl) ?_
  refine lv_i2l hx hb dX11_sat_1 rfl ?_
  refine lv_lconst (v := 0) hx hb dX11_sat_2 (by decide) ?_
  refine lv_aload_n hx hb dX11_sat_3 rfl (lv_at hl 0 rfl) ?_
  refine gR X hH fl_X11_22 lM_0 rfl dX11_sat_4 ?_
  refine lv_iconst (v := 0) hx hb dX11_sat_7 (by decide) ?_
  obtain ⟨hin1, hm⟩ := gIn_some hm
  refine ild X hH lM_5 hin1 dX11_sat_8 ?_
  refine lv_iconst (v := 1) hx hb dX11_sat_9 (by decide) ?_
  refine lv_isub hx hb dX11_sat_10 ?_
  refine lv_i2l hx hb dX11_sat_11 rfl ?_
  obtain ⟨v2, hq, hm⟩ := bd1_some hm
  refine cSi (As := [.long a1.toInt64, .long (0 : Int64), .long ((h 5 (0 : Int32).toNatClampNeg) - (1 : Int32)).toInt64]) X hH kl_X11_93 ks_X11_in (mt_X11_in hq) rfl (by decide) hl.1 rfl (Nat.le_of_ble_eq_true rfl) dX11_sat_12 (fun H locs hH => ?_)
  refine lv_if_eq hx hb dX11_sat_15 (tgt := 30) (by decide) (fun hc => ?_) (fun hc => ?_)
  · rw [if_pos hc] at hm
    refine lv_iconst (v := (-1)) hx hb dX11_sat_30 (by decide) ?_
    cases hm
    exact retI X hH dX11_sat_31
  · rw [if_neg hc] at hm
    refine lv_iload_n hx hb dX11_sat_18 rfl (lv_at hl 2 rfl) ?_
    refine lv_i2l hx hb dX11_sat_19 rfl ?_
    refine lv_lconst (v := 0) hx hb dX11_sat_20 (by decide) ?_
    refine lv_ldc2 hx hb hown (hts _ kc_X11_138) dX11_sat_21 ?_
    obtain ⟨v3, hq, hm⟩ := bd1_some hm
    refine cSi (As := [.long a2.toInt64, .long (0 : Int64), .long (6 : Int64)]) X hH kl_X11_93 ks_X11_in (mt_X11_in hq) rfl (by decide) hl.1 rfl (Nat.le_of_ble_eq_true rfl) dX11_sat_24 (fun H locs hH => ?_)
    refine lv_if_ne hx hb dX11_sat_27 (tgt := 32) (by decide) (fun hc => ?_) (fun hc => ?_)
    · rw [if_neg hc] at hm
      refine lv_iload_n hx hb dX11_sat_32 rfl (lv_at hl 2 rfl) ?_
      refine lv_iconst (v := 5) hx hb dX11_sat_33 (by decide) ?_
      refine lv_icmp_ge hx hb dX11_sat_34 (tgt := 50) (by decide) (fun hc => ?_) (fun hc => ?_)
      · rw [if_pos hc] at hm
        refine lv_aload_n hx hb dX11_sat_50 rfl (lv_at hl 0 rfl) ?_
        refine lv_iload_n hx hb dX11_sat_51 rfl (lv_at hl 2 rfl) ?_
        refine lv_iconst (v := 5) hx hb dX11_sat_52 (by decide) ?_
        refine lv_isub hx hb dX11_sat_53 ?_
        refine lv_iload_n hx hb dX11_sat_54 rfl (lv_at hl 1 rfl) ?_
        obtain ⟨v4, hq, hm⟩ := bd1_some hm
        refine cVi X hH kl_X11_140 kv_X11_sumOf (mt_X11_sumOf hq) lM_0 rfl rfl (by decide) hl.1 rfl (Nat.le_of_ble_eq_true rfl) dX11_sat_55 (fun H locs hH => ?_)
        cases hm
        exact retI X hH dX11_sat_58
      · rw [if_neg hc] at hm
        refine lv_aload_n hx hb dX11_sat_37 rfl (lv_at hl 0 rfl) ?_
        refine gR X hH fl_X11_13 lM_0 rfl dX11_sat_38 ?_
        refine lv_iconst (v := 5) hx hb dX11_sat_41 (by decide) ?_
        refine lv_iload_n hx hb dX11_sat_42 rfl (lv_at hl 1 rfl) ?_
        refine lv_imul hx hb dX11_sat_43 ?_
        refine lv_iload_n hx hb dX11_sat_44 rfl (lv_at hl 2 rfl) ?_
        refine lv_iadd hx hb dX11_sat_45 ?_
        obtain ⟨hin5, hm⟩ := gIn_some hm
        refine ild X hH lM_2 hin5 dX11_sat_46 ?_
        refine lv_goto hx hb dX11_sat_47 (tgt := 58) (by decide) ?_
        cases hm
        exact retI X hH dX11_sat_58
    · rw [if_pos hc] at hm
      refine lv_iconst (v := (-1)) hx hb dX11_sat_30 (by decide) ?_
      cases hm
      exact retI X hH dX11_sat_31
/-! X11_satNow -/
def mX11_satNow (h : Mm) (a1 : Int32) (a2 : Int32) (a3 : Int32) (a4 : Int32) (a5 : Int32) (a6 : Int32) : Option Mm := gIn ((5 : Int32) * a1) 20 (mlet (wr h 2 ((5 : Int32) * a1).toNatClampNeg a2) (fun h1 => gIn (((5 : Int32) * a1) + (1 : Int32)) 20 (mlet (wr h1 2 (((5 : Int32) * a1) + (1 : Int32)).toNatClampNeg a3) (fun h3 => gIn (((5 : Int32) * a1) + (2 : Int32)) 20 (mlet (wr h3 2 (((5 : Int32) * a1) + (2 : Int32)).toNatClampNeg a4) (fun h5 => gIn (((5 : Int32) * a1) + (3 : Int32)) 20 (mlet (wr h5 2 (((5 : Int32) * a1) + (3 : Int32)).toNatClampNeg a5) (fun h7 => gIn (((5 : Int32) * a1) + (4 : Int32)) 20 (mlet (wr h7 2 (((5 : Int32) * a1) + (4 : Int32)).toNatClampNeg a6) (fun h9 => some h9))))))))))
set_option maxRecDepth 4000 in
theorem mt_X11_satNow {l : Launch} {D : va_G} {ad : Nat → Nat} {ac : Nat → ClassId} {h : Mm} {a1 : Int32} {a2 : Int32} {a3 : Int32} {a4 : Int32} {a5 : Int32} {a6 : Int32} {h' : Mm} (hm : mX11_satNow h a1 a2 a3 a4 a5 a6 = some h') : Mt l D ad ac LM [] yX11_satNow cX11_satNow 7 none 0 [.ref (ad 0), .int a1, .int a2, .int a3, .int a4, .int a5, .int a6] h none h' := by
  refine Mt.of (own := RX11) (by decide) rfl (Nat.le_of_ble_eq_true rfl) ?_
  intro p e s m below meth c ls X hH hl
  obtain ⟨hx, hb, hml, hown, hts, hr, hlk, hC, hI, hR⟩ := id X
  have hl : lv_has ls 7 [(0, .ref (ad 0)), (1, .int a1), (2, .int a2), (3, .int a3), (4, .int a4), (5, .int a5), (6, .int a6)] := hl
  rw [mX11_satNow] at hm
  refine lv_aload_n hx hb dX11_satNow_0 rfl (lv_at hl 0 rfl) ?_
  refine gR X hH fl_X11_13 lM_0 rfl dX11_satNow_1 ?_
  refine lv_iconst (v := 5) hx hb dX11_satNow_4 (by decide) ?_
  refine lv_iload_n hx hb dX11_satNow_5 rfl (lv_at hl 1 rfl) ?_
  refine lv_imul hx hb dX11_satNow_6 ?_
  refine lv_iload_n hx hb dX11_satNow_7 rfl (lv_at hl 2 rfl) ?_
  obtain ⟨hin2, hm⟩ := gIn_some hm
  obtain ⟨h1, eh1, hm⟩ := mlet_some hm
  refine ist X hH lM_2 hin2 dX11_satNow_8 (fun H locs hH => ?_)
  rw [← eh1] at hH
  refine lv_aload_n hx hb dX11_satNow_9 rfl (lv_at hl 0 rfl) ?_
  refine gR X hH fl_X11_13 lM_0 rfl dX11_satNow_10 ?_
  refine lv_iconst (v := 5) hx hb dX11_satNow_13 (by decide) ?_
  refine lv_iload_n hx hb dX11_satNow_14 rfl (lv_at hl 1 rfl) ?_
  refine lv_imul hx hb dX11_satNow_15 ?_
  refine lv_iconst (v := 1) hx hb dX11_satNow_16 (by decide) ?_
  refine lv_iadd hx hb dX11_satNow_17 ?_
  refine lv_iload_n hx hb dX11_satNow_18 rfl (lv_at hl 3 rfl) ?_
  obtain ⟨hin4, hm⟩ := gIn_some hm
  obtain ⟨h3, eh3, hm⟩ := mlet_some hm
  refine ist X hH lM_2 hin4 dX11_satNow_19 (fun H locs hH => ?_)
  rw [← eh3] at hH
  refine lv_aload_n hx hb dX11_satNow_20 rfl (lv_at hl 0 rfl) ?_
  refine gR X hH fl_X11_13 lM_0 rfl dX11_satNow_21 ?_
  refine lv_iconst (v := 5) hx hb dX11_satNow_24 (by decide) ?_
  refine lv_iload_n hx hb dX11_satNow_25 rfl (lv_at hl 1 rfl) ?_
  refine lv_imul hx hb dX11_satNow_26 ?_
  refine lv_iconst (v := 2) hx hb dX11_satNow_27 (by decide) ?_
  refine lv_iadd hx hb dX11_satNow_28 ?_
  refine lv_iload hx hb dX11_satNow_29 (lv_at hl 4 rfl) ?_
  obtain ⟨hin6, hm⟩ := gIn_some hm
  obtain ⟨h5, eh5, hm⟩ := mlet_some hm
  refine ist X hH lM_2 hin6 dX11_satNow_31 (fun H locs hH => ?_)
  rw [← eh5] at hH
  refine lv_aload_n hx hb dX11_satNow_32 rfl (lv_at hl 0 rfl) ?_
  refine gR X hH fl_X11_13 lM_0 rfl dX11_satNow_33 ?_
  refine lv_iconst (v := 5) hx hb dX11_satNow_36 (by decide) ?_
  refine lv_iload_n hx hb dX11_satNow_37 rfl (lv_at hl 1 rfl) ?_
  refine lv_imul hx hb dX11_satNow_38 ?_
  refine lv_iconst (v := 3) hx hb dX11_satNow_39 (by decide) ?_
  refine lv_iadd hx hb dX11_satNow_40 ?_
  refine lv_iload hx hb dX11_satNow_41 (lv_at hl 5 rfl) ?_
  obtain ⟨hin8, hm⟩ := gIn_some hm
  obtain ⟨h7, eh7, hm⟩ := mlet_some hm
  refine ist X hH lM_2 hin8 dX11_satNow_43 (fun H locs hH => ?_)
  rw [← eh7] at hH
  refine lv_aload_n hx hb dX11_satNow_44 rfl (lv_at hl 0 rfl) ?_
  refine gR X hH fl_X11_13 lM_0 rfl dX11_satNow_45 ?_
  refine lv_iconst (v := 5) hx hb dX11_satNow_48 (by decide) ?_
  refine lv_iload_n hx hb dX11_satNow_49 rfl (lv_at hl 1 rfl) ?_
  refine lv_imul hx hb dX11_satNow_50 ?_
  refine lv_iconst (v := 4) hx hb dX11_satNow_51 (by decide) ?_
  refine lv_iadd hx hb dX11_satNow_52 ?_
  refine lv_iload hx hb dX11_satNow_53 (lv_at hl 6 rfl) ?_
  obtain ⟨hin10, hm⟩ := gIn_some hm
  obtain ⟨h9, eh9, hm⟩ := mlet_some hm
  refine ist X hH lM_2 hin10 dX11_satNow_55 (fun H locs hH => ?_)
  rw [← eh9] at hH
  cases hm
  exact retV X hH dX11_satNow_56
