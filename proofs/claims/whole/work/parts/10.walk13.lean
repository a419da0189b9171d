/-! X11_number_0_6 -/
def mX11_number_0_6_96 (x2 : Int32) (x3 : Int32) (x5 : Int32) (x6 : Int32) (x7 : Int32) (h : Mm) : Option (Int32 × Mm) := gIn x5 20 (mlet (wr h 6 x5.toNatClampNeg x6) (fun h1 => if x7 ≤ 0 then (some ((0 : Int32), h1)) else (bd1 (mX11_in h1 x6.toInt64 x2.toInt64 x3.toInt64) (fun v3 => if v3 = 0 then (some ((0 : Int32), h1)) else (some ((1 : Int32), h1))))))
set_option maxRecDepth 4000 in
theorem wX11_number_0_6_96 {p : Program} {l : Launch} {e : Env} {s : State} {m : MethodId} {args : Array Value} {below : List Frame} {meth : Method} {c : Code} {D : va_G} {ad : Nat → Nat} {ac : Nat → ClassId} {r : Int32} {h' : Mm} (X : Fx p s m args meth c cX11_number 8 RX11 (some .boolean) D ad ac LM []) : ∀ (x2 : Int32) (x3 : Int32) (x5 : Int32) (x6 : Int32) (x7 : Int32) (h : Mm) (H : Heap) (locs : List Loc) (ls : Array Slot), mX11_number_0_6_96 x2 x3 x5 x6 x7 h = some (r, h') → Hp D ad ac LM h s H locs → lv_has ls 8 [(2, .int x2), (3, .int x3), (4, .ref (ad 6)), (5, .int x5), (6, .int x6), (7, .int x7)] → W p l e (rmD 1) s m args below meth c H locs 0 0 (MQ below (QU D ad ac LM (some (.int r)) h' s.heap.size) args s 0 0 (Aa ad LM.length s.heap.size)) (F0 m 96 ls []) := by
  obtain ⟨hx, hb, hml, hown, hts, hr, hlk, hC, hI, hR⟩ := id X
  intro x2 x3 x5 x6 x7 h H locs ls hm hH hl
  rw [mX11_number_0_6_96] at hm
  refine lv_aload hx hb dX11_number_96 (lv_at hl 2 rfl) ?_
  refine lv_iload hx hb dX11_number_98 (lv_at hl 3 rfl) ?_
  refine lv_iload hx hb dX11_number_100 (lv_at hl 4 rfl) ?_
  obtain ⟨hin2, hm⟩ := gIn_some hm
  obtain ⟨h1, eh1, hm⟩ := mlet_some hm
  refine ist X hH lM_6 hin2 dX11_number_102 (fun H locs hH => ?_)
  rw [← eh1] at hH
  refine lv_iload hx hb dX11_number_103 (lv_at hl 5 rfl) ?_
  refine lv_if_le hx hb dX11_number_105 (tgt := 125) (by decide) (fun hc => ?_) (fun hc => ?_)
  · rw [if_pos hc] at hm
    refine lv_iconst (v := 0) hx hb dX11_number_125 (by decide) ?_
    cases hm
    exact retZ X hH rfl dX11_number_126
  · rw [if_neg hc] at hm
    refine lv_iload hx hb dX11_number_108 (lv_at hl 4 rfl) ?_
    refine lv_i2l hx hb dX11_number_110 rfl ?_
    refine lv_iload_n hx hb dX11_number_111 rfl (lv_at hl 0 rfl) ?_
    refine lv_i2l hx hb dX11_number_112 rfl ?_
    refine lv_iload_n hx hb dX11_number_113 rfl (lv_at hl 1 rfl) ?_
    refine lv_i2l hx hb dX11_number_114 rfl ?_
    obtain ⟨v3, hq, hm⟩ := bd1_some hm
    refine cSi (As := [.long x6.toInt64, .long x2.toInt64, .long x3.toInt64]) X hH kl_X11_93 ks_X11_in (mt_X11_in hq) rfl (by decide) hl.1 rfl (Nat.le_of_ble_eq_true rfl) dX11_number_115 (fun H locs hH => ?_)
    refine lv_if_eq hx hb dX11_number_118 (tgt := 125) (by decide) (fun hc => ?_) (fun hc => ?_)
    · rw [if_pos hc] at hm
      refine lv_iconst (v := 0) hx hb dX11_number_125 (by decide) ?_
      cases hm
      exact retZ X hH rfl dX11_number_126
    · rw [if_neg hc] at hm
      refine lv_iconst (v := 1) hx hb dX11_number_121 (by decide) ?_
      refine lv_goto hx hb dX11_number_122 (tgt := 126) (by decide) ?_
      cases hm
      exact retZ X hH rfl dX11_number_126
def mX11_number_0_6_34 : Nat → Int32 → Int32 → Int32 → Int32 → Int32 → Mm → Option (Int32 × Mm)
  | 0, _, _, _, _, _, _ => none
  | n + 1, x2, x3, x5, x6, x7, h => if (2 : Int32) ≤ x7 then (mX11_number_0_6_96 x2 x3 x5 x6 x7 h) else (bd1 (mX11_byteAt h (h 0 2)) (fun v1 => bd1 (mX11_in h v1.toInt64 (48 : Int64) (57 : Int64)) (fun v2 => if v2 = 0 then (mX11_number_0_6_96 x2 x3 x5 x6 x7 h) else (bd1 (mX11_byteAt h (h 0 2)) (fun v3 => mlet ((((10 : Int32) * x6) + v3) - (48 : Int32)) (fun u4 => mlet (wr h 0 2 ((h 0 2) + (1 : Int32))) (fun h5 => mX11_number_0_6_34 n x2 x3 x5 u4 (x7 + 1) h5)))))))
set_option maxRecDepth 4000 in
theorem wX11_number_0_6_34 {p : Program} {l : Launch} {e : Env} {s : State} {m : MethodId} {args : Array Value} {below : List Frame} {meth : Method} {c : Code} {D : va_G} {ad : Nat → Nat} {ac : Nat → ClassId} {r : Int32} {h' : Mm} (X : Fx p s m args meth c cX11_number 8 RX11 (some .boolean) D ad ac LM []) : ∀ (n : Nat) (x2 : Int32) (x3 : Int32) (x5 : Int32) (x6 : Int32) (x7 : Int32) (h : Mm) (H : Heap) (locs : List Loc) (ls : Array Slot), mX11_number_0_6_34 n x2 x3 x5 x6 x7 h = some (r, h') → Hp D ad ac LM h s H locs → lv_has ls 8 [(0, .ref (ad 0)), (2, .int x2), (3, .int x3), (4, .ref (ad 6)), (5, .int x5), (6, .int x6), (7, .int x7)] → W p l e (rmD 1) s m args below meth c H locs 0 0 (MQ below (QU D ad ac LM (some (.int r)) h' s.heap.size) args s 0 0 (Aa ad LM.length s.heap.size)) (F0 m 34 ls []) := by
  obtain ⟨hx, hb, hml, hown, hts, hr, hlk, hC, hI, hR⟩ := id X
  intro n
  induction n with
  | zero => intro x2 x3 x5 x6 x7 h H locs ls hm; rw [mX11_number_0_6_34] at hm; cases hm
  | succ n ih =>
    intro x2 x3 x5 x6 x7 h H locs ls hm hH hl
    rw [mX11_number_0_6_34] at hm
    refine lv_iload hx hb dX11_number_34 (lv_at hl 6 rfl) ?_
    refine lv_iconst (v := 2) hx hb dX11_number_36 (by decide) ?_
    refine lv_icmp_ge hx hb dX11_number_37 (tgt := 96) (by decide) (fun hc => ?_) (fun hc => ?_)
    · rw [if_pos hc] at hm
      exact wX11_number_0_6_96 X x2 x3 x5 x6 x7 h _ _ _ hm hH (lv_sub hl [1, 2, 3, 4, 5, 6] rfl)
    · rw [if_neg hc] at hm
      refine lv_aload_n hx hb dX11_number_40 rfl (lv_at hl 0 rfl) ?_
      refine lv_aload_n hx hb dX11_number_41 rfl (lv_at hl 0 rfl) ?_
      refine gI X hH fl_X11_101 lM_0 rfl dX11_number_42 ?_
      obtain ⟨v1, hq, hm⟩ := bd1_some hm
      refine cVi X hH kl_X11_104 kv_X11_byteAt (mt_X11_byteAt hq) lM_0 rfl rfl (by decide) hl.1 rfl (Nat.le_of_ble_eq_true rfl) dX11_number_45 (fun H locs hH => ?_)
      refine lv_i2l hx hb dX11_number_48 rfl ?_
      refine lv_ldc2 hx hb hown (hts _ kc_X11_108) dX11_number_49 ?_
      refine lv_ldc2 hx hb hown (hts _ kc_X11_110) dX11_number_52 ?_
      obtain ⟨v2, hq, hm⟩ := bd1_some hm
      refine cSi (As := [.long v1.toInt64, .long (48 : Int64), .long (57 : Int64)]) X hH kl_X11_93 ks_X11_in (mt_X11_in hq) rfl (by decide) hl.1 rfl (Nat.le_of_ble_eq_true rfl) dX11_number_55 (fun H locs hH => ?_)
      refine lv_if_eq hx hb dX11_number_58 (tgt := 96) (by decide) (fun hc => ?_) (fun hc => ?_)
      · rw [if_pos hc] at hm
        exact wX11_number_0_6_96 X x2 x3 x5 x6 x7 h _ _ _ hm hH (lv_sub hl [1, 2, 3, 4, 5, 6] rfl)
      · rw [if_neg hc] at hm
        refine lv_bipush (v := 10) hx hb dX11_number_61 (by decide) ?_
        refine lv_iload hx hb dX11_number_63 (lv_at hl 5 rfl) ?_
        refine lv_imul hx hb dX11_number_65 ?_
        refine lv_aload_n hx hb dX11_number_66 rfl (lv_at hl 0 rfl) ?_
        refine lv_aload_n hx hb dX11_number_67 rfl (lv_at hl 0 rfl) ?_
        refine gI X hH fl_X11_101 lM_0 rfl dX11_number_68 ?_
        obtain ⟨v3, hq, hm⟩ := bd1_some hm
        refine cVi X hH kl_X11_104 kv_X11_byteAt (mt_X11_byteAt hq) lM_0 rfl rfl (by decide) hl.1 rfl (Nat.le_of_ble_eq_true rfl) dX11_number_71 (fun H locs hH => ?_)
        refine lv_iadd hx hb dX11_number_74 ?_
        refine lv_bipush (v := 48) hx hb dX11_number_75 (by decide) ?_
        refine lv_isub hx hb dX11_number_77 ?_
        obtain ⟨u4, eu4, hm⟩ := mlet_some hm
        refine W.eq (g2 := F0 m 78 ls (.int u4 :: [])) (by rw [eu4]) ?_
        refine lv_istore (lv' := [(6, .int u4), (0, .ref (ad 0)), (2, .int x2), (3, .int x3), (4, .ref (ad 6)), (5, .int x5), (7, .int x7)]) hx hb dX11_number_78 hl (by decide) rfl (fun ls hl => ?_)
        refine lv_aload_n hx hb dX11_number_80 rfl (lv_at hl 1 rfl) ?_
        refine lv_dup hx hb dX11_number_81 rfl ?_
        refine gI X hH fl_X11_101 lM_0 rfl dX11_number_82 ?_
        refine lv_iconst (v := 1) hx hb dX11_number_85 (by decide) ?_
        refine lv_iadd hx hb dX11_number_86 ?_
        obtain ⟨h5, eh5, hm⟩ := mlet_some hm
        refine pI X hH fl_X11_101 fw_11_2 lM_0 rfl dX11_number_87 (fun H locs hH => ?_)
        rw [← eh5] at hH
        refine lv_iinc (k := 6) (v := (x7 + 1)) (lv' := [(7, .int (x7 + 1)), (6, .int u4), (0, .ref (ad 0)), (2, .int x2), (3, .int x3), (4, .ref (ad 6)), (5, .int x5)]) hx hb dX11_number_90 hl rfl rfl (by decide) rfl (fun ls hl => ?_)
        refine lv_goto hx hb dX11_number_93 (tgt := 34) (by decide) ?_
        exact ih x2 x3 x5 u4 (x7 + 1) h5 _ _ _ hm hH (lv_sub hl [2, 3, 4, 5, 6, 1, 0] rfl)
def mX11_number_0_6_28 (x2 : Int32) (x3 : Int32) (x5 : Int32) (h : Mm) : Option (Int32 × Mm) := mX11_number_0_6_34 FU x2 x3 x5 (0 : Int32) (0 : Int32) h
set_option maxRecDepth 4000 in
theorem wX11_number_0_6_28 {p : Program} {l : Launch} {e : Env} {s : State} {m : MethodId} {args : Array Value} {below : List Frame} {meth : Method} {c : Code} {D : va_G} {ad : Nat → Nat} {ac : Nat → ClassId} {r : Int32} {h' : Mm} (X : Fx p s m args meth c cX11_number 8 RX11 (some .boolean) D ad ac LM []) : ∀ (x2 : Int32) (x3 : Int32) (x5 : Int32) (h : Mm) (H : Heap) (locs : List Loc) (ls : Array Slot), mX11_number_0_6_28 x2 x3 x5 h = some (r, h') → Hp D ad ac LM h s H locs → lv_has ls 8 [(0, .ref (ad 0)), (2, .int x2), (3, .int x3), (4, .ref (ad 6)), (5, .int x5)] → W p l e (rmD 1) s m args below meth c H locs 0 0 (MQ below (QU D ad ac LM (some (.int r)) h' s.heap.size) args s 0 0 (Aa ad LM.length s.heap.size)) (F0 m 28 ls []) := by
  obtain ⟨hx, hb, hml, hown, hts, hr, hlk, hC, hI, hR⟩ := id X
  intro x2 x3 x5 h H locs ls hm hH hl
  rw [mX11_number_0_6_28] at hm
  refine lv_iconst (v := 0) hx hb dX11_number_28 (by decide) ?_
  refine lv_istore (lv' := [(6, .int (0 : Int32)), (0, .ref (ad 0)), (2, .int x2), (3, .int x3), (4, .ref (ad 6)), (5, .int x5)]) hx hb dX11_number_29 hl (by decide) rfl (fun ls hl => ?_)
  refine lv_iconst (v := 0) hx hb dX11_number_31 (by decide) ?_
  refine lv_istore (lv' := [(7, .int (0 : Int32)), (6, .int (0 : Int32)), (0, .ref (ad 0)), (2, .int x2), (3, .int x3), (4, .ref (ad 6)), (5, .int x5)]) hx hb dX11_number_32 hl (by decide) rfl (fun ls hl => ?_)
  exact wX11_number_0_6_34 X FU x2 x3 x5 (0 : Int32) (0 : Int32) h _ _ _ hm hH (lv_sub hl [2, 3, 4, 5, 6, 1, 0] rfl)
def mX11_number_0_6 (h : Mm) (a1 : Int32) (a2 : Int32) (a3 : Int32) (a5 : Int32) : Option (Int32 × Mm) := if a1 ≤ 0 then (mX11_number_0_6_28 a2 a3 a5 h) else (bd1 (mX11_byteAt h (h 0 2)) (fun v1 => if v1 = a1 then (mlet (wr h 0 2 ((h 0 2) + (1 : Int32))) (fun h2 => mX11_number_0_6_28 a2 a3 a5 h2)) else (some ((0 : Int32), h))))
set_option maxRecDepth 4000 in
theorem mt_X11_number_0_6 {l : Launch} {D : va_G} {ad : Nat → Nat} {ac : Nat → ClassId} {h : Mm} {a1 : Int32} {a2 : Int32} {a3 : Int32} {a5 : Int32} {r : Int32} {h' : Mm} (hm : mX11_number_0_6 h a1 a2 a3 a5 = some (r, h')) : Mt l D ad ac LM [] yX11_number cX11_number 8 (some .boolean) 1 [.ref (ad 0), .int a1, .int a2, .int a3, .ref (ad 6), .int a5] h (some (.int r)) h' := by
  refine Mt.of (own := RX11) (by decide) rfl (Nat.le_of_ble_eq_true rfl) ?_
  intro p e s m below meth c ls X hH hl
  obtain ⟨hx, hb, hml, hown, hts, hr, hlk, hC, hI, hR⟩ := id X
  have hl : lv_has ls 8 [(0, .ref (ad 0)), (1, .int a1), (2, .int a2), (3, .int a3), (4, .ref (ad 6)), (5, .int a5)] := hl
  rw [mX11_number_0_6] at hm
  refine lv_iload_n hx hb dX11_number_0 rfl (lv_at hl 1 rfl) ?_
  refine lv_if_le hx hb dX11_number_1 (tgt := 28) (by decide) (fun hc => ?_) (fun hc => ?_)
  · rw [if_pos hc] at hm
    exact wX11_number_0_6_28 X a2 a3 a5 h _ _ _ hm hH (lv_sub hl [0, 2, 3, 4, 5] rfl)
  · rw [if_neg hc] at hm
    refine lv_aload_n hx hb dX11_number_4 rfl (lv_at hl 0 rfl) ?_
    refine lv_aload_n hx hb dX11_number_5 rfl (lv_at hl 0 rfl) ?_
    refine gI X hH fl_X11_101 lM_0 rfl dX11_number_6 ?_
    obtain ⟨v1, hq, hm⟩ := bd1_some hm
    refine cVi X hH kl_X11_104 kv_X11_byteAt (mt_X11_byteAt hq) lM_0 rfl rfl (by decide) hl.1 rfl (Nat.le_of_ble_eq_true rfl) dX11_number_9 (fun H locs hH => ?_)
    refine lv_iload_n hx hb dX11_number_12 rfl (lv_at hl 1 rfl) ?_
    refine lv_icmp_eq hx hb dX11_number_13 (tgt := 18) (by decide) (fun hc => ?_) (fun hc => ?_)
    · rw [if_pos hc] at hm
      refine lv_aload_n hx hb dX11_number_18 rfl (lv_at hl 0 rfl) ?_
      refine lv_dup hx hb dX11_number_19 rfl ?_
      refine gI X hH fl_X11_101 lM_0 rfl dX11_number_20 ?_
      refine lv_iconst (v := 1) hx hb dX11_number_23 (by decide) ?_
      refine lv_iadd hx hb dX11_number_24 ?_
      obtain ⟨h2, eh2, hm⟩ := mlet_some hm
      refine pI X hH fl_X11_101 fw_11_2 lM_0 rfl dX11_number_25 (fun H locs hH => ?_)
      rw [← eh2] at hH
      exact wX11_number_0_6_28 X a2 a3 a5 h2 _ _ _ hm hH (lv_sub hl [0, 2, 3, 4, 5] rfl)
    · rw [if_neg hc] at hm
      refine lv_iconst (v := 0) hx hb dX11_number_16 (by decide) ?_
      cases hm
      exact retZ X hH rfl dX11_number_17
/-! X11_number_0_7 -/
def mX11_number_0_7_96 (x2 : Int32) (x3 : Int32) (x5 : Int32) (x6 : Int32) (x7 : Int32) (h : Mm) : Option (Int32 × Mm) := gIn x5 6 (mlet (wr h 7 x5.toNatClampNeg x6) (fun h1 => if x7 ≤ 0 then (some ((0 : Int32), h1)) else (bd1 (mX11_in h1 x6.toInt64 x2.toInt64 x3.toInt64) (fun v3 => if v3 = 0 then (some ((0 : Int32), h1)) else (some ((1 : Int32), h1))))))
set_option maxRecDepth 4000 in
theorem wX11_number_0_7_96 {p : Program} {l : Launch} {e : Env} {s : State} {m : MethodId} {args : Array Value} {below : List Frame} {meth : Method} {c : Code} {D : va_G} {ad : Nat → Nat} {ac : Nat → ClassId} {r : Int32} {h' : Mm} (X : Fx p s m args meth c cX11_number 8 RX11 (some .boolean) D ad ac LM []) : ∀ (x2 : Int32) (x3 : Int32) (x5 : Int32) (x6 : Int32) (x7 : Int32) (h : Mm) (H : Heap) (locs : List Loc) (ls : Array Slot), mX11_number_0_7_96 x2 x3 x5 x6 x7 h = some (r, h') → Hp D ad ac LM h s H locs → lv_has ls 8 [(2, .int x2), (3, .int x3), (4, .ref (ad 7)), (5, .int x5), (6, .int x6), (7, .int x7)] → W p l e (rmD 1) s m args below meth c H locs 0 0 (MQ below (QU D ad ac LM (some (.int r)) h' s.heap.size) args s 0 0 (Aa ad LM.length s.heap.size)) (F0 m 96 ls []) := by
  obtain ⟨hx, hb, hml, hown, hts, hr, hlk, hC, hI, hR⟩ := id X
  intro x2 x3 x5 x6 x7 h H locs ls hm hH hl
  rw [mX11_number_0_7_96] at hm
  refine lv_aload hx hb dX11_number_96 (lv_at hl 2 rfl) ?_
  refine lv_iload hx hb dX11_number_98 (lv_at hl 3 rfl) ?_
  refine lv_iload hx hb dX11_number_100 (lv_at hl 4 rfl) ?_
  obtain ⟨hin2, hm⟩ := gIn_some hm
  obtain ⟨h1, eh1, hm⟩ := mlet_some hm
  refine ist X hH lM_7 hin2 dX11_number_102 (fun H locs hH => ?_)
  rw [← eh1] at hH
  refine lv_iload hx hb dX11_number_103 (lv_at hl 5 rfl) ?_
  refine lv_if_le hx hb dX11_number_105 (tgt := 125) (by decide) (fun hc => ?_) (fun hc => ?_)
  · rw [if_pos hc] at hm
    refine lv_iconst (v := 0) hx hb dX11_number_125 (by decide) ?_
    cases hm
    exact retZ X hH rfl dX11_number_126
  · rw [if_neg hc] at hm
    refine lv_iload hx hb dX11_number_108 (lv_at hl 4 rfl) ?_
    refine lv_i2l hx hb dX11_number_110 rfl ?_
    refine lv_iload_n hx hb dX11_number_111 rfl (lv_at hl 0 rfl) ?_
    refine lv_i2l hx hb dX11_number_112 rfl ?_
    refine lv_iload_n hx hb dX11_number_113 rfl (lv_at hl 1 rfl) ?_
    refine lv_i2l hx hb dX11_number_114 rfl ?_
    obtain ⟨v3, hq, hm⟩ := bd1_some hm
    refine cSi (As := [.long x6.toInt64, .long x2.toInt64, .long x3.toInt64]) X hH kl_X11_93 ks_X11_in (mt_X11_in hq) rfl (by decide) hl.1 rfl (Nat.le_of_ble_eq_true rfl) dX11_number_115 (fun H locs hH => ?_)
    refine lv_if_eq hx hb dX11_number_118 (tgt := 125) (by decide) (fun hc => ?_) (fun hc => ?_)
    · rw [if_pos hc] at hm
      refine lv_iconst (v := 0) hx hb dX11_number_125 (by decide) ?_
      cases hm
      exact retZ X hH rfl dX11_number_126
    · rw [if_neg hc] at hm
      refine lv_iconst (v := 1) hx hb dX11_number_121 (by decide) ?_
      refine lv_goto hx hb dX11_number_122 (tgt := 126) (by decide) ?_
      cases hm
      exact retZ X hH rfl dX11_number_126
def mX11_number_0_7_34 : Nat → Int32 → Int32 → Int32 → Int32 → Int32 → Mm → Option (Int32 × Mm)
  | 0, _, _, _, _, _, _ => none
  | n + 1, x2, x3, x5, x6, x7, h => if (2 : Int32) ≤ x7 then (mX11_number_0_7_96 x2 x3 x5 x6 x7 h) else (bd1 (mX11_byteAt h (h 0 2)) (fun v1 => bd1 (mX11_in h v1.toInt64 (48 : Int64) (57 : Int64)) (fun v2 => if v2 = 0 then (mX11_number_0_7_96 x2 x3 x5 x6 x7 h) else (bd1 (mX11_byteAt h (h 0 2)) (fun v3 => mlet ((((10 : Int32) * x6) + v3) - (48 : Int32)) (fun u4 => mlet (wr h 0 2 ((h 0 2) + (1 : Int32))) (fun h5 => mX11_number_0_7_34 n x2 x3 x5 u4 (x7 + 1) h5)))))))
set_option maxRecDepth 4000 in
theorem wX11_number_0_7_34 {p : Program} {l : Launch} {e : Env} {s : State} {m : MethodId} {args : Array Value} {below : List Frame} {meth : Method} {c : Code} {D : va_G} {ad : Nat → Nat} {ac : Nat → ClassId} {r : Int32} {h' : Mm} (X : Fx p s m args meth c cX11_number 8 RX11 (some .boolean) D ad ac LM []) : ∀ (n : Nat) (x2 : Int32) (x3 : Int32) (x5 : Int32) (x6 : Int32) (x7 : Int32) (h : Mm) (H : Heap) (locs : List Loc) (ls : Array Slot), mX11_number_0_7_34 n x2 x3 x5 x6 x7 h = some (r, h') → Hp D ad ac LM h s H locs → lv_has ls 8 [(0, .ref (ad 0)), (2, .int x2), (3, .int x3), (4, .ref (ad 7)), (5, .int x5), (6, .int x6), (7, .int x7)] → W p l e (rmD 1) s m args below meth c H locs 0 0 (MQ below (QU D ad ac LM (some (.int r)) h' s.heap.size) args s 0 0 (Aa ad LM.length s.heap.size)) (F0 m 34 ls []) := by
  obtain ⟨hx, hb, hml, hown, hts, hr, hlk, hC, hI, hR⟩ := id X
  intro n
  induction n with
  | zero => intro x2 x3 x5 x6 x7 h H locs ls hm; rw [mX11_number_0_7_34] at hm; cases hm
  | succ n ih =>
    intro x2 x3 x5 x6 x7 h H locs ls hm hH hl
    rw [mX11_number_0_7_34] at hm
    refine lv_iload hx hb dX11_number_34 (lv_at hl 6 rfl) ?_
    refine lv_iconst (v := 2) hx hb dX11_number_36 (by decide) ?_
    refine lv_icmp_ge hx hb dX11_number_37 (tgt := 96) (by decide) (fun hc => ?_) (fun hc => ?_)
    · rw [if_pos hc] at hm
      exact wX11_number_0_7_96 X x2 x3 x5 x6 x7 h _ _ _ hm hH (lv_sub hl [1, 2, 3, 4, 5, 6] rfl)
    · rw [if_neg hc] at hm
      refine lv_aload_n hx hb dX11_number_40 rfl (lv_at hl 0 rfl) ?_
      refine lv_aload_n hx hb dX11_number_41 rfl (lv_at hl 0 rfl) ?_
      refine gI X hH fl_X11_101 lM_0 rfl dX11_number_42 ?_
      obtain ⟨v1, hq, hm⟩ := bd1_some hm
      refine cVi X hH kl_X11_104 kv_X11_byteAt (mt_X11_byteAt hq) lM_0 rfl rfl (by decide) hl.1 rfl (Nat.le_of_ble_eq_true rfl) dX11_number_45 (fun H locs hH => ?_)
      refine lv_i2l hx hb dX11_number_48 rfl ?_
      refine lv_ldc2 hx hb hown (hts _ kc_X11_108) dX11_number_49 ?_
      refine lv_ldc2 hx hb hown (hts _ kc_X11_110) dX11_number_52 ?_
      obtain ⟨v2, hq, hm⟩ := bd1_some hm
      refine cSi (As := [.long v1.toInt64, .long (48 : Int64), .long (57 : Int64)]) X hH kl_X11_93 ks_X11_in (mt_X11_in hq) rfl (by decide) hl.1 rfl (Nat.le_of_ble_eq_true rfl) dX11_number_55 (fun H locs hH => ?_)
      refine lv_if_eq hx hb dX11_number_58 (tgt := 96) (by decide) (fun hc => ?_) (fun hc => ?_)
      · rw [if_pos hc] at hm
        exact wX11_number_0_7_96 X x2 x3 x5 x6 x7 h _ _ _ hm hH (lv_sub hl [1, 2, 3, 4, 5, 6] rfl)
      · rw [if_neg hc] at hm
        refine lv_bipush (v := 10) hx hb dX11_number_61 (by decide) ?_
        refine lv_iload hx hb dX11_number_63 (lv_at hl 5 rfl) ?_
        refine lv_imul hx hb dX11_number_65 ?_
        refine lv_aload_n hx hb dX11_number_66 rfl (lv_at hl 0 rfl) ?_
        refine lv_aload_n hx hb dX11_number_67 rfl (lv_at hl 0 rfl) ?_
        refine gI X hH fl_X11_101 lM_0 rfl dX11_number_68 ?_
        obtain ⟨v3, hq, hm⟩ := bd1_some hm
        refine cVi X hH kl_X11_104 kv_X11_byteAt (mt_X11_byteAt hq) lM_0 rfl rfl (by decide) hl.1 rfl (Nat.le_of_ble_eq_true rfl) dX11_number_71 (fun H locs hH => ?_)
        refine lv_iadd hx hb dX11_number_74 ?_
        refine lv_bipush (v := 48) hx hb dX11_number_75 (by decide) ?_
        refine lv_isub hx hb dX11_number_77 ?_
        obtain ⟨u4, eu4, hm⟩ := mlet_some hm
        refine W.eq (g2 := F0 m 78 ls (.int u4 :: [])) (by rw [eu4]) ?_
        refine lv_istore (lv' := [(6, .int u4), (0, .ref (ad 0)), (2, .int x2), (3, .int x3), (4, .ref (ad 7)), (5, .int x5), (7, .int x7)]) hx hb dX11_number_78 hl (by decide) rfl (fun ls hl => ?_)
        refine lv_aload_n hx hb dX11_number_80 rfl (lv_at hl 1 rfl) ?_
        refine lv_dup hx hb dX11_number_81 rfl ?_
        refine gI X hH fl_X11_101 lM_0 rfl dX11_number_82 ?_
        refine lv_iconst (v := 1) hx hb dX11_number_85 (by decide) ?_
        refine lv_iadd hx hb dX11_number_86 ?_
        obtain ⟨h5, eh5, hm⟩ := mlet_some hm
        refine pI X hH fl_X11_101 fw_11_2 lM_0 rfl dX11_number_87 (fun H locs hH => ?_)
        rw [← eh5] at hH
        refine lv_iinc (k := 6) (v := (x7 + 1)) (lv' := [(7, .int (x7 + 1)), (6, .int u4), (0, .ref (ad 0)), (2, .int x2), (3, .int x3), (4, .ref (ad 7)), (5, .int x5)]) hx hb dX11_number_90 hl rfl rfl (by decide) rfl (fun ls hl => ?_)
        refine lv_goto hx hb dX11_number_93 (tgt := 34) (by decide) ?_
        exact ih x2 x3 x5 u4 (x7 + 1) h5 _ _ _ hm hH (lv_sub hl [2, 3, 4, 5, 6, 1, 0] rfl)
def mX11_number_0_7_28 (x2 : Int32) (x3 : Int32) (x5 : Int32) (h : Mm) : Option (Int32 × Mm) := mX11_number_0_7_34 FU x2 x3 x5 (0 : Int32) (0 : Int32) h
set_option maxRecDepth 4000 in
theorem wX11_number_0_7_28 {p : Program} {l : Launch} {e : Env} {s : State} {m : MethodId} {args : Array Value} {below : List Frame} {meth : Method} {c : Code} {D : va_G} {ad : Nat → Nat} {ac : Nat → ClassId} {r : Int32} {h' : Mm} (X : Fx p s m args meth c cX11_number 8 RX11 (some .boolean) D ad ac LM []) : ∀ (x2 : Int32) (x3 : Int32) (x5 : Int32) (h : Mm) (H : Heap) (locs : List Loc) (ls : Array Slot), mX11_number_0_7_28 x2 x3 x5 h = some (r, h') → Hp D ad ac LM h s H locs → lv_has ls 8 [(0, .ref (ad 0)), (2, .int x2), (3, .int x3), (4, .ref (ad 7)), (5, .int x5)] → W p l e (rmD 1) s m args below meth c H locs 0 0 (MQ below (QU D ad ac LM (some (.int r)) h' s.heap.size) args s 0 0 (Aa ad LM.length s.heap.size)) (F0 m 28 ls []) := by
  obtain ⟨hx, hb, hml, hown, hts, hr, hlk, hC, hI, hR⟩ := id X
  intro x2 x3 x5 h H locs ls hm hH hl
  rw [mX11_number_0_7_28] at hm
  refine lv_iconst (v := 0) hx hb dX11_number_28 (by decide) ?_
  refine lv_istore (lv' := [(6, .int (0 : Int32)), (0, .ref (ad 0)), (2, .int x2), (3, .int x3), (4, .ref (ad 7)), (5, .int x5)]) hx hb dX11_number_29 hl (by decide) rfl (fun ls hl => ?_)
  refine lv_iconst (v := 0) hx hb dX11_number_31 (by decide) ?_
  refine lv_istore (lv' := [(7, .int (0 : Int32)), (6, .int (0 : Int32)), (0, .ref (ad 0)), (2, .int x2), (3, .int x3), (4, .ref (ad 7)), (5, .int x5)]) hx hb dX11_number_32 hl (by decide) rfl (fun ls hl => ?_)
  exact wX11_number_0_7_34 X FU x2 x3 x5 (0 : Int32) (0 : Int32) h _ _ _ hm hH (lv_sub hl [2, 3, 4, 5, 6, 1, 0] rfl)
def mX11_number_0_7 (h : Mm) (a1 : Int32) (a2 : Int32) (a3 : Int32) (a5 : Int32) : Option (Int32 × Mm) := if a1 ≤ 0 then (mX11_number_0_7_28 a2 a3 a5 h) else (bd1 (mX11_byteAt h (h 0 2)) (fun v1 => if v1 = a1 then (mlet (wr h 0 2 ((h 0 2) + (1 : Int32))) (fun h2 => mX11_number_0_7_28 a2 a3 a5 h2)) else (some ((0 : Int32), h))))
set_option maxRecDepth 4000 in
theorem mt_X11_number_0_7 {l : Launch} {D : va_G} {ad : Nat → Nat} {ac : Nat → ClassId} {h : Mm} {a1 : Int32} {a2 : Int32} {a3 : Int32} {a5 : Int32} {r : Int32} {h' : Mm} (hm : mX11_number_0_7 h a1 a2 a3 a5 = some (r, h')) : Mt l D ad ac LM [] yX11_number cX11_number 8 (some .boolean) 1 [.ref (ad 0), .int a1, .int a2, .int a3, .ref (ad 7), .int a5] h (some (.int r)) h' := by
  refine Mt.of (own := RX11) (by decide) rfl (Nat.le_of_ble_eq_true rfl) ?_
  intro p e s m below meth c ls X hH hl
  obtain ⟨hx, hb, hml, hown, hts, hr, hlk, hC, hI, hR⟩ := id X
  have hl : lv_has ls 8 [(0, .ref (ad 0)), (1, .int a1), (2, .int a2), (3, .int a3), (4, .ref (ad 7)), (5, .int a5)] := hl
  rw [mX11_number_0_7] at hm
  refine lv_iload_n hx hb dX11_number_0 rfl (lv_at hl 1 rfl) ?_
  refine lv_if_le hx hb dX11_number_1 (tgt := 28) (by decide) (fun hc => ?_) (fun hc => ?_)
  · rw [if_pos hc] at hm
    exact wX11_number_0_7_28 X a2 a3 a5 h _ _ _ hm hH (lv_sub hl [0, 2, 3, 4, 5] rfl)
  · rw [if_neg hc] at hm
    refine lv_aload_n hx hb dX11_number_4 rfl (lv_at hl 0 rfl) ?_
    refine lv_aload_n hx hb dX11_number_5 rfl (lv_at hl 0 rfl) ?_
    refine gI X hH fl_X11_101 lM_0 rfl dX11_number_6 ?_
    obtain ⟨v1, hq, hm⟩ := bd1_some hm
    refine cVi X hH kl_X11_104 kv_X11_byteAt (mt_X11_byteAt hq) lM_0 rfl rfl (by decide) hl.1 rfl (Nat.le_of_ble_eq_true rfl) dX11_number_9 (fun H locs hH => ?_)
    refine lv_iload_n hx hb dX11_number_12 rfl (lv_at hl 1 rfl) ?_
    refine lv_icmp_eq hx hb dX11_number_13 (tgt := 18) (by decide) (fun hc => ?_) (fun hc => ?_)
    · rw [if_pos hc] at hm
      refine lv_aload_n hx hb dX11_number_18 rfl (lv_at hl 0 rfl) ?_
      refine lv_dup hx hb dX11_number_19 rfl ?_
      refine gI X hH fl_X11_101 lM_0 rfl dX11_number_20 ?_
      refine lv_iconst (v := 1) hx hb dX11_number_23 (by decide) ?_
      refine lv_iadd hx hb dX11_number_24 ?_
      obtain ⟨h2, eh2, hm⟩ := mlet_some hm
      refine pI X hH fl_X11_101 fw_11_2 lM_0 rfl dX11_number_25 (fun H locs hH => ?_)
      rw [← eh2] at hH
      exact wX11_number_0_7_28 X a2 a3 a5 h2 _ _ _ hm hH (lv_sub hl [0, 2, 3, 4, 5] rfl)
    · rw [if_neg hc] at hm
      refine lv_iconst (v := 0) hx hb dX11_number_16 (by decide) ?_
      cases hm
      exact retZ X hH rfl dX11_number_17
/-! X11_item -/
def mX11_item_53 (x2 : Int32) (t0 : Int32) (t1 : Int32) (h : Mm) : Option (Int32 × Mm) := if t1 = t0 then (some ((0 : Int32), h)) else (gIn x2 3 (mlet (h 9 x2.toNatClampNeg) (fun u2 => gIn x2 3 (gIn x2 3 (mlet (wr h 9 x2.toNatClampNeg ((h 9 x2.toNatClampNeg) + (1 : Int32))) (fun h4 => if x2 = (0 : Int32) then (bd2 (mX11_number_0_6 h4 (0 : Int32) (0 : Int32) (59 : Int32) ((5 : Int32) * u2)) (fun v14 h13 => if v14 = 0 then (some ((0 : Int32), h13)) else (bd2 (mX11_number_0_6 h13 (44 : Int32) (6 : Int32) (60 : Int32) (((5 : Int32) * u2) + (1 : Int32))) (fun v16 h15 => if v16 = 0 then (some ((0 : Int32), h15)) else (bd2 (mX11_number_0_6 h15 (44 : Int32) (0 : Int32) (1 : Int32) (((5 : Int32) * u2) + (2 : Int32))) (fun v18 h17 => if v18 = 0 then (some ((0 : Int32), h17)) else (bd2 (mX11_number_0_6 h17 (44 : Int32) (1 : Int32) (99 : Int32) (((5 : Int32) * u2) + (3 : Int32))) (fun v20 h19 => if v20 = 0 then (some ((0 : Int32), h19)) else (bd2 (mX11_number_0_6 h19 (44 : Int32) (0 : Int32) (9 : Int32) (((5 : Int32) * u2) + (4 : Int32))) (fun v22 h21 => if v22 = 0 then (some ((0 : Int32), h21)) else (some ((1 : Int32), h21)))))))))))) else (if x2 = (1 : Int32) then (bd2 (mX11_number_0_7 h4 (0 : Int32) (0 : Int32) (59 : Int32) ((2 : Int32) * u2)) (fun v24 h23 => if v24 = 0 then (some ((0 : Int32), h23)) else (bd2 (mX11_number_0_7 h23 (44 : Int32) (1 : Int32) (9 : Int32) (((2 : Int32) * u2) + (1 : Int32))) (fun v26 h25 => if v26 = 0 then (some ((0 : Int32), h25)) else (some ((1 : Int32), h25)))))) else (gIn (1 : Int32) 3 (bd2 (mX11_number_0_8 h4 (0 : Int32) (0 : Int32) ((h4 9 (1 : Int32).toNatClampNeg) - (1 : Int32)) ((3 : Int32) * u2)) (fun v8 h7 => if v8 = 0 then (some ((0 : Int32), h7)) else (bd2 (mX11_number_0_8 h7 (44 : Int32) (0 : Int32) (2 : Int32) (((3 : Int32) * u2) + (1 : Int32))) (fun v10 h9 => if v10 = 0 then (some ((0 : Int32), h9)) else (bd2 (mX11_number_0_8 h9 (44 : Int32) (0 : Int32) (5 : Int32) (((3 : Int32) * u2) + (2 : Int32))) (fun v12 h11 => if v12 = 0 then (some ((0 : Int32), h11)) else (some ((1 : Int32), h11))))))))))))))))
set_option maxRecDepth 4000 in
theorem wX11_item_53 {p : Program} {l : Launch} {e : Env} {s : State} {m : MethodId} {args : Array Value} {below : List Frame} {meth : Method} {c : Code} {D : va_G} {ad : Nat → Nat} {ac : Nat → ClassId} {r : Int32} {h' : Mm} (X : Fx p s m args meth c cX11_item 4 RX11 (some .boolean) D ad ac LM []) : ∀ (x2 : Int32) (t0 : Int32) (t1 : Int32) (h : Mm) (H : Heap) (locs : List Loc) (ls : Array Slot), mX11_item_53 x2 t0 t1 h = some (r, h') → Hp D ad ac LM h s H locs → lv_has ls 4 [(0, .ref (ad 0)), (2, .int x2)] → W p l e (rmD 2) s m args below meth c H locs 0 0 (MQ below (QU D ad ac LM (some (.int r)) h' s.heap.size) args s 0 0 (Aa ad LM.length s.heap.size)) (F0 m 53 ls [.int t0, .int t1]) := by
  obtain ⟨hx, hb, hml, hown, hts, hr, hlk, hC, hI, hR⟩ := id X
  intro x2 t0 t1 h H locs ls hm hH hl
  rw [mX11_item_53] at hm
  refine lv_icmp_ne hx hb dX11_item_53 (tgt := 58) (by decide) (fun hc => ?_) (fun hc => ?_)
  · rw [if_neg hc] at hm
    refine lv_aload_n hx hb dX11_item_58 rfl (lv_at hl 0 rfl) ?_
    refine gR X hH fl_X11_34 lM_0 rfl dX11_item_59 ?_
    refine lv_iload_n hx hb dX11_item_62 rfl (lv_at hl 1 rfl) ?_
    obtain ⟨hin1, hm⟩ := gIn_some hm
    refine ild X hH lM_9 hin1 dX11_item_63 ?_
    obtain ⟨u2, eu2, hm⟩ := mlet_some hm
    refine W.eq (g2 := F0 m 64 ls (.int u2 :: [])) (by rw [eu2]) ?_
    refine lv_istore_n (lv' := [(3, .int u2), (0, .ref (ad 0)), (2, .int x2)]) hx hb dX11_item_64 rfl hl (by decide) rfl (fun ls hl => ?_)
    refine lv_aload_n hx hb dX11_item_65 rfl (lv_at hl 1 rfl) ?_
    refine gR X hH fl_X11_34 lM_0 rfl dX11_item_66 ?_
    refine lv_iload_n hx hb dX11_item_69 rfl (lv_at hl 2 rfl) ?_
    refine lv_dup2_11 hx hb dX11_item_70 rfl rfl ?_
    obtain ⟨hin3, hm⟩ := gIn_some hm
    refine ild X hH lM_9 hin3 dX11_item_71 ?_
    refine lv_iconst (v := 1) hx hb dX11_item_72 (by decide) ?_
    refine lv_iadd hx hb dX11_item_73 ?_
    obtain ⟨hin5, hm⟩ := gIn_some hm
    obtain ⟨h4, eh4, hm⟩ := mlet_some hm
    refine ist X hH lM_9 hin5 dX11_item_74 (fun H locs hH => ?_)
    rw [← eh4] at hH
    refine lv_iload_n hx hb dX11_item_75 rfl (lv_at hl 2 rfl) ?_
    by_cases hc0 : x2 = (0 : Int32)
    · rw [if_pos hc0] at hm
      refine lv_lookup hx hb dX11_item_76 (by decide) (off := 28) (by rw [hc0]; rfl) (tgt := 104) (by decide) ?_
      refine lv_aload_n hx hb dX11_item_104 rfl (lv_at hl 1 rfl) ?_
      refine lv_iconst (v := 0) hx hb dX11_item_105 (by decide) ?_
      refine lv_iconst (v := 0) hx hb dX11_item_106 (by decide) ?_
      refine lv_bipush (v := 59) hx hb dX11_item_107 (by decide) ?_
      refine lv_aload_n hx hb dX11_item_109 rfl (lv_at hl 1 rfl) ?_
      refine gR X hH fl_X11_25 lM_0 rfl dX11_item_110 ?_
      refine lv_iconst (v := 5) hx hb dX11_item_113 (by decide) ?_
      refine lv_iload_n hx hb dX11_item_114 rfl (lv_at hl 0 rfl) ?_
      refine lv_imul hx hb dX11_item_115 ?_
      obtain ⟨v14, h13, hq, hm⟩ := bd2_some hm
      refine cVi X hH kl_X11_112 kv_X11_number (mt_X11_number_0_6 hq) lM_0 rfl rfl (by decide) hl.1 rfl (Nat.le_of_ble_eq_true rfl) dX11_item_116 (fun H locs hH => ?_)
      refine lv_if_eq hx hb dX11_item_119 (tgt := 210) (by decide) (fun hc => ?_) (fun hc => ?_)
      · rw [if_pos hc] at hm
        refine lv_iconst (v := 0) hx hb dX11_item_210 (by decide) ?_
        cases hm
        exact retZ X hH rfl dX11_item_211
      · rw [if_neg hc] at hm
        refine lv_aload_n hx hb dX11_item_122 rfl (lv_at hl 1 rfl) ?_
        refine lv_bipush (v := 44) hx hb dX11_item_123 (by decide) ?_
        refine lv_bipush (v := 6) hx hb dX11_item_125 (by decide) ?_
        refine lv_bipush (v := 60) hx hb dX11_item_127 (by decide) ?_
        refine lv_aload_n hx hb dX11_item_129 rfl (lv_at hl 1 rfl) ?_
        refine gR X hH fl_X11_25 lM_0 rfl dX11_item_130 ?_
        refine lv_iconst (v := 5) hx hb dX11_item_133 (by decide) ?_
        refine lv_iload_n hx hb dX11_item_134 rfl (lv_at hl 0 rfl) ?_
        refine lv_imul hx hb dX11_item_135 ?_
        refine lv_iconst (v := 1) hx hb dX11_item_136 (by decide) ?_
        refine lv_iadd hx hb dX11_item_137 ?_
        obtain ⟨v16, h15, hq, hm⟩ := bd2_some hm
        refine cVi X hH kl_X11_112 kv_X11_number (mt_X11_number_0_6 hq) lM_0 rfl rfl (by decide) hl.1 rfl (Nat.le_of_ble_eq_true rfl) dX11_item_138 (fun H locs hH => ?_)
        refine lv_if_eq hx hb dX11_item_141 (tgt := 210) (by decide) (fun hc => ?_) (fun hc => ?_)
        · rw [if_pos hc] at hm
          refine lv_iconst (v := 0) hx hb dX11_item_210 (by decide) ?_
          cases hm
          exact retZ X hH rfl dX11_item_211
        · rw [if_neg hc] at hm
          refine lv_aload_n hx hb dX11_item_144 rfl (lv_at hl 1 rfl) ?_
          refine lv_bipush (v := 44) hx hb dX11_item_145 (by decide) ?_
          refine lv_iconst (v := 0) hx hb dX11_item_147 (by decide) ?_
          refine lv_iconst (v := 1) hx hb dX11_item_148 (by decide) ?_
          refine lv_aload_n hx hb dX11_item_149 rfl (lv_at hl 1 rfl) ?_
          refine gR X hH fl_X11_25 lM_0 rfl dX11_item_150 ?_
          refine lv_iconst (v := 5) hx hb dX11_item_153 (by decide) ?_
          refine lv_iload_n hx hb dX11_item_154 rfl (lv_at hl 0 rfl) ?_
          refine lv_imul hx hb dX11_item_155 ?_
          refine lv_iconst (v := 2) hx hb dX11_item_156 (by decide) ?_
          refine lv_iadd hx hb dX11_item_157 ?_
          obtain ⟨v18, h17, hq, hm⟩ := bd2_some hm
          refine cVi X hH kl_X11_112 kv_X11_number (mt_X11_number_0_6 hq) lM_0 rfl rfl (by decide) hl.1 rfl (Nat.le_of_ble_eq_true rfl) dX11_item_158 (fun H locs hH => ?_)
          refine lv_if_eq hx hb dX11_item_161 (tgt := 210) (by decide) (fun hc => ?_) (fun hc => ?_)
          · rw [if_pos hc] at hm
            refine lv_iconst (v := 0) hx hb dX11_item_210 (by decide) ?_
            cases hm
            exact retZ X hH rfl dX11_item_211
          · rw [if_neg hc] at hm
            refine lv_aload_n hx hb dX11_item_164 rfl (lv_at hl 1 rfl) ?_
            refine lv_bipush (v := 44) hx hb dX11_item_165 (by decide) ?_
            refine lv_iconst (v := 1) hx hb dX11_item_167 (by decide) ?_
            refine lv_bipush (v := 99) hx hb dX11_item_168 (by decide) ?_
            refine lv_aload_n hx hb dX11_item_170 rfl (lv_at hl 1 rfl) ?_
            refine gR X hH fl_X11_25 lM_0 rfl dX11_item_171 ?_
            refine lv_iconst (v := 5) hx hb dX11_item_174 (by decide) ?_
            refine lv_iload_n hx hb dX11_item_175 rfl (lv_at hl 0 rfl) ?_
            refine lv_imul hx hb dX11_item_176 ?_
            refine lv_iconst (v := 3) hx hb dX11_item_177 (by decide) ?_
            refine lv_iadd hx hb dX11_item_178 ?_
            obtain ⟨v20, h19, hq, hm⟩ := bd2_some hm
            refine cVi X hH kl_X11_112 kv_X11_number (mt_X11_number_0_6 hq) lM_0 rfl rfl (by decide) hl.1 rfl (Nat.le_of_ble_eq_true rfl) dX11_item_179 (fun H locs hH => ?_)
            refine lv_if_eq hx hb dX11_item_182 (tgt := 210) (by decide) (fun hc => ?_) (fun hc => ?_)
            · rw [if_pos hc] at hm
              refine lv_iconst (v := 0) hx hb dX11_item_210 (by decide) ?_
              cases hm
              exact retZ X hH rfl dX11_item_211
            · rw [if_neg hc] at hm
              refine lv_aload_n hx hb dX11_item_185 rfl (lv_at hl 1 rfl) ?_
              refine lv_bipush (v := 44) hx hb dX11_item_186 (by decide) ?_
              refine lv_iconst (v := 0) hx hb dX11_item_188 (by decide) ?_
              refine lv_bipush (v := 9) hx hb dX11_item_189 (by decide) ?_
              refine lv_aload_n hx hb dX11_item_191 rfl (lv_at hl 1 rfl) ?_
              refine gR X hH fl_X11_25 lM_0 rfl dX11_item_192 ?_
              refine lv_iconst (v := 5) hx hb dX11_item_195 (by decide) ?_
              refine lv_iload_n hx hb dX11_item_196 rfl (lv_at hl 0 rfl) ?_
              refine lv_imul hx hb dX11_item_197 ?_
              refine lv_iconst (v := 4) hx hb dX11_item_198 (by decide) ?_
              refine lv_iadd hx hb dX11_item_199 ?_
              obtain ⟨v22, h21, hq, hm⟩ := bd2_some hm
              refine cVi X hH kl_X11_112 kv_X11_number (mt_X11_number_0_6 hq) lM_0 rfl rfl (by decide) hl.1 rfl (Nat.le_of_ble_eq_true rfl) dX11_item_200 (fun H locs hH => ?_)
              refine lv_if_eq hx hb dX11_item_203 (tgt := 210) (by decide) (fun hc => ?_) (fun hc => ?_)
              · rw [if_pos hc] at hm
                refine lv_iconst (v := 0) hx hb dX11_item_210 (by decide) ?_
                cases hm
                exact retZ X hH rfl dX11_item_211
              · rw [if_neg hc] at hm
                refine lv_iconst (v := 1) hx hb dX11_item_206 (by decide) ?_
                refine lv_goto hx hb dX11_item_207 (tgt := 211) (by decide) ?_
                cases hm
                exact retZ X hH rfl dX11_item_211
    · rw [if_neg hc0] at hm
      by_cases hc1 : x2 = (1 : Int32)
      · rw [if_pos hc1] at hm
        refine lv_lookup hx hb dX11_item_76 (by decide) (off := 136) (by rw [hc1]; rfl) (tgt := 212) (by decide) ?_
        refine lv_aload_n hx hb dX11_item_212 rfl (lv_at hl 1 rfl) ?_
        refine lv_iconst (v := 0) hx hb dX11_item_213 (by decide) ?_
        refine lv_iconst (v := 0) hx hb dX11_item_214 (by decide) ?_
        refine lv_bipush (v := 59) hx hb dX11_item_215 (by decide) ?_
        refine lv_aload_n hx hb dX11_item_217 rfl (lv_at hl 1 rfl) ?_
        refine gR X hH fl_X11_28 lM_0 rfl dX11_item_218 ?_
        refine lv_iconst (v := 2) hx hb dX11_item_221 (by decide) ?_
        refine lv_iload_n hx hb dX11_item_222 rfl (lv_at hl 0 rfl) ?_
        refine lv_imul hx hb dX11_item_223 ?_
        obtain ⟨v24, h23, hq, hm⟩ := bd2_some hm
        refine cVi X hH kl_X11_112 kv_X11_number (mt_X11_number_0_7 hq) lM_0 rfl rfl (by decide) hl.1 rfl (Nat.le_of_ble_eq_true rfl) dX11_item_224 (fun H locs hH => ?_)
        refine lv_if_eq hx hb dX11_item_227 (tgt := 255) (by decide) (fun hc => ?_) (fun hc => ?_)
        · rw [if_pos hc] at hm
          refine lv_iconst (v := 0) hx hb dX11_item_255 (by decide) ?_
          cases hm
          exact retZ X hH rfl dX11_item_256
        · rw [if_neg hc] at hm
          refine lv_aload_n hx hb dX11_item_230 rfl (lv_at hl 1 rfl) ?_
          refine lv_bipush (v := 44) hx hb dX11_item_231 (by decide) ?_
          refine lv_iconst (v := 1) hx hb dX11_item_233 (by decide) ?_
          refine lv_bipush (v := 9) hx hb dX11_item_234 (by decide) ?_
          refine lv_aload_n hx hb dX11_item_236 rfl (lv_at hl 1 rfl) ?_
          refine gR X hH fl_X11_28 lM_0 rfl dX11_item_237 ?_
          refine lv_iconst (v := 2) hx hb dX11_item_240 (by decide) ?_
          refine lv_iload_n hx hb dX11_item_241 rfl (lv_at hl 0 rfl) ?_
          refine lv_imul hx hb dX11_item_242 ?_
          refine lv_iconst (v := 1) hx hb dX11_item_243 (by decide) ?_
          refine lv_iadd hx hb dX11_item_244 ?_
          obtain ⟨v26, h25, hq, hm⟩ := bd2_some hm
          refine cVi X hH kl_X11_112 kv_X11_number (mt_X11_number_0_7 hq) lM_0 rfl rfl (by decide) hl.1 rfl (Nat.le_of_ble_eq_true rfl) dX11_item_245 (fun H locs hH => ?_)
          refine lv_if_eq hx hb dX11_item_248 (tgt := 255) (by decide) (fun hc => ?_) (fun hc => ?_)
          · rw [if_pos hc] at hm
            refine lv_iconst (v := 0) hx hb dX11_item_255 (by decide) ?_
            cases hm
            exact retZ X hH rfl dX11_item_256
          · rw [if_neg hc] at hm
            refine lv_iconst (v := 1) hx hb dX11_item_251 (by decide) ?_
            refine lv_goto hx hb dX11_item_252 (tgt := 256) (by decide) ?_
            cases hm
            exact retZ X hH rfl dX11_item_256
      · rw [if_neg hc1] at hm
        refine lv_lookup hx hb dX11_item_76 (by decide) (off := 181) (by refine (lv_osw hc0 (by decide)).trans ?_; refine (lv_osw hc1 (by decide)).trans ?_; rfl) (tgt := 257) (by decide) ?_
        refine lv_aload_n hx hb dX11_item_257 rfl (lv_at hl 1 rfl) ?_
        refine lv_iconst (v := 0) hx hb dX11_item_258 (by decide) ?_
        refine lv_iconst (v := 0) hx hb dX11_item_259 (by decide) ?_
        refine lv_aload_n hx hb dX11_item_260 rfl (lv_at hl 1 rfl) ?_
        refine gR X hH fl_X11_34 lM_0 rfl dX11_item_261 ?_
        refine lv_iconst (v := 1) hx hb dX11_item_264 (by decide) ?_
        obtain ⟨hin6, hm⟩ := gIn_some hm
        refine ild X hH lM_9 hin6 dX11_item_265 ?_
        refine lv_iconst (v := 1) hx hb dX11_item_266 (by decide) ?_
        refine lv_isub hx hb dX11_item_267 ?_
        refine lv_aload_n hx hb dX11_item_268 rfl (lv_at hl 1 rfl) ?_
        refine gR X hH fl_X11_31 lM_0 rfl dX11_item_269 ?_
        refine lv_iconst (v := 3) hx hb dX11_item_272 (by decide) ?_
        refine lv_iload_n hx hb dX11_item_273 rfl (lv_at hl 0 rfl) ?_
        refine lv_imul hx hb dX11_item_274 ?_
        obtain ⟨v8, h7, hq, hm⟩ := bd2_some hm
        refine cVi X hH kl_X11_112 kv_X11_number (mt_X11_number_0_8 hq) lM_0 rfl rfl (by decide) hl.1 rfl (Nat.le_of_ble_eq_true rfl) dX11_item_275 (fun H locs hH => ?_)
        refine lv_if_eq hx hb dX11_item_278 (tgt := 325) (by decide) (fun hc => ?_) (fun hc => ?_)
        · rw [if_pos hc] at hm
          refine lv_iconst (v := 0) hx hb dX11_item_325 (by decide) ?_
          cases hm
          exact retZ X hH rfl dX11_item_326
        · rw [if_neg hc] at hm
          refine lv_aload_n hx hb dX11_item_281 rfl (lv_at hl 1 rfl) ?_
          refine lv_bipush (v := 44) hx hb dX11_item_282 (by decide) ?_
          refine lv_iconst (v := 0) hx hb dX11_item_284 (by decide) ?_
          refine lv_iconst (v := 2) hx hb dX11_item_285 (by decide) ?_
          refine lv_aload_n hx hb dX11_item_286 rfl (lv_at hl 1 rfl) ?_
          refine gR X hH fl_X11_31 lM_0 rfl dX11_item_287 ?_
          refine lv_iconst (v := 3) hx hb dX11_item_290 (by decide) ?_
          refine lv_iload_n hx hb dX11_item_291 rfl (lv_at hl 0 rfl) ?_
          refine lv_imul hx hb dX11_item_292 ?_
          refine lv_iconst (v := 1) hx hb dX11_item_293 (by decide) ?_
          refine lv_iadd hx hb dX11_item_294 ?_
          obtain ⟨v10, h9, hq, hm⟩ := bd2_some hm
          refine cVi X hH kl_X11_112 kv_X11_number (mt_X11_number_0_8 hq) lM_0 rfl rfl (by decide) hl.1 rfl (Nat.le_of_ble_eq_true rfl) dX11_item_295 (fun H locs hH => ?_)
          refine lv_if_eq hx hb dX11_item_298 (tgt := 325) (by decide) (fun hc => ?_) (fun hc => ?_)
          · rw [if_pos hc] at hm
            refine lv_iconst (v := 0) hx hb dX11_item_325 (by decide) ?_
            cases hm
            exact retZ X hH rfl dX11_item_326
          · rw [if_neg hc] at hm
            refine lv_aload_n hx hb dX11_item_301 rfl (lv_at hl 1 rfl) ?_
            refine lv_bipush (v := 44) hx hb dX11_item_302 (by decide) ?_
            refine lv_iconst (v := 0) hx hb dX11_item_304 (by decide) ?_
            refine lv_iconst (v := 5) hx hb dX11_item_305 (by decide) ?_
            refine lv_aload_n hx hb dX11_item_306 rfl (lv_at hl 1 rfl) ?_
            refine gR X hH fl_X11_31 lM_0 rfl dX11_item_307 ?_
            refine lv_iconst (v := 3) hx hb dX11_item_310 (by decide) ?_
            refine lv_iload_n hx hb dX11_item_311 rfl (lv_at hl 0 rfl) ?_
            refine lv_imul hx hb dX11_item_312 ?_
            refine lv_iconst (v := 2) hx hb dX11_item_313 (by decide) ?_
            refine lv_iadd hx hb dX11_item_314 ?_
            obtain ⟨v12, h11, hq, hm⟩ := bd2_some hm
            refine cVi X hH kl_X11_112 kv_X11_number (mt_X11_number_0_8 hq) lM_0 rfl rfl (by decide) hl.1 rfl (Nat.le_of_ble_eq_true rfl) dX11_item_315 (fun H locs hH => ?_)
            refine lv_if_eq hx hb dX11_item_318 (tgt := 325) (by decide) (fun hc => ?_) (fun hc => ?_)
            · rw [if_pos hc] at hm
              refine lv_iconst (v := 0) hx hb dX11_item_325 (by decide) ?_
              cases hm
              exact retZ X hH rfl dX11_item_326
            · rw [if_neg hc] at hm
              refine lv_iconst (v := 1) hx hb dX11_item_321 (by decide) ?_
              refine lv_goto hx hb dX11_item_322 (tgt := 326) (by decide) ?_
              cases hm
              exact retZ X hH rfl dX11_item_326
  · rw [if_pos hc] at hm
    refine lv_iconst (v := 0) hx hb dX11_item_56 (by decide) ?_
    cases hm
    exact retZ X hH rfl dX11_item_57
def mX11_item_31 (t0 : Int32) (h : Mm) : Option (Int32 × Mm) := if t0 = (3 : Int32) then (some ((0 : Int32), h)) else (gIn t0 3 (if t0 = (1 : Int32) then (mX11_item_53 t0 (3 : Int32) (h 9 t0.toNatClampNeg) h) else (mX11_item_53 t0 (4 : Int32) (h 9 t0.toNatClampNeg) h)))
set_option maxRecDepth 4000 in
theorem wX11_item_31 {p : Program} {l : Launch} {e : Env} {s : State} {m : MethodId} {args : Array Value} {below : List Frame} {meth : Method} {c : Code} {D : va_G} {ad : Nat → Nat} {ac : Nat → ClassId} {r : Int32} {h' : Mm} (X : Fx p s m args meth c cX11_item 4 RX11 (some .boolean) D ad ac LM []) : ∀ (t0 : Int32) (h : Mm) (H : Heap) (locs : List Loc) (ls : Array Slot), mX11_item_31 t0 h = some (r, h') → Hp D ad ac LM h s H locs → lv_has ls 4 [(0, .ref (ad 0))] → W p l e (rmD 2) s m args below meth c H locs 0 0 (MQ below (QU D ad ac LM (some (.int r)) h' s.heap.size) args s 0 0 (Aa ad LM.length s.heap.size)) (F0 m 31 ls [.int t0]) := by
  obtain ⟨hx, hb, hml, hown, hts, hr, hlk, hC, hI, hR⟩ := id X
  intro t0 h H locs ls hm hH hl
  rw [mX11_item_31] at hm
  refine lv_istore_n (lv' := [(2, .int t0), (0, .ref (ad 0))]) hx hb dX11_item_31 rfl hl (by decide) rfl (fun ls hl => ?_)
  refine lv_iload_n hx hb dX11_item_32 rfl (lv_at hl 0 rfl) ?_
  refine lv_iconst (v := 3) hx hb dX11_item_33 (by decide) ?_
  refine lv_icmp_eq hx hb dX11_item_34 (tgt := 56) (by decide) (fun hc => ?_) (fun hc => ?_)
  · rw [if_pos hc] at hm
    refine lv_iconst (v := 0) hx hb dX11_item_56 (by decide) ?_
    cases hm
    exact retZ X hH rfl dX11_item_57
  · rw [if_neg hc] at hm
    refine lv_aload_n hx hb dX11_item_37 rfl (lv_at hl 1 rfl) ?_
    refine gR X hH fl_X11_34 lM_0 rfl dX11_item_38 ?_
    refine lv_iload_n hx hb dX11_item_41 rfl (lv_at hl 0 rfl) ?_
    obtain ⟨hin1, hm⟩ := gIn_some hm
    refine ild X hH lM_9 hin1 dX11_item_42 ?_
    refine lv_iload_n hx hb dX11_item_43 rfl (lv_at hl 0 rfl) ?_
    refine lv_iconst (v := 1) hx hb dX11_item_44 (by decide) ?_
    refine lv_icmp_ne hx hb dX11_item_45 (tgt := 52) (by decide) (fun hc => ?_) (fun hc => ?_)
    · rw [if_neg hc] at hm
      refine lv_iconst (v := 4) hx hb dX11_item_52 (by decide) ?_
      exact wX11_item_53 X t0 (4 : Int32) (h 9 t0.toNatClampNeg) h _ _ _ hm hH (lv_sub hl [1, 0] rfl)
    · rw [if_pos hc] at hm
      refine lv_iconst (v := 3) hx hb dX11_item_48 (by decide) ?_
      refine lv_goto hx hb dX11_item_49 (tgt := 53) (by decide) ?_
      exact wX11_item_53 X t0 (3 : Int32) (h 9 t0.toNatClampNeg) h _ _ _ hm hH (lv_sub hl [1, 0] rfl)
def mX11_item (h : Mm) (a1 : Int32) : Option (Int32 × Mm) := if a1 = (115 : Int32) then (mX11_item_31 (0 : Int32) h) else (if a1 = (103 : Int32) then (mX11_item_31 (1 : Int32) h) else (if a1 = (97 : Int32) then (mX11_item_31 (2 : Int32) h) else (mX11_item_31 (3 : Int32) h)))
set_option maxRecDepth 4000 in
theorem mt_X11_item {l : Launch} {D : va_G} {ad : Nat → Nat} {ac : Nat → ClassId} {h : Mm} {a1 : Int32} {r : Int32} {h' : Mm} (hm : mX11_item h a1 = some (r, h')) : Mt l D ad ac LM [] yX11_item cX11_item 4 (some .boolean) 2 [.ref (ad 0), .int a1] h (some (.int r)) h' := by
  refine Mt.of (own := RX11) (by decide) rfl (Nat.le_of_ble_eq_true rfl) ?_
  intro p e s m below meth c ls X hH hl
  obtain ⟨hx, hb, hml, hown, hts, hr, hlk, hC, hI, hR⟩ := id X
  have hl : lv_has ls 4 [(0, .ref (ad 0)), (1, .int a1)] := hl
  rw [mX11_item] at hm
  refine lv_iload_n hx hb dX11_item_0 rfl (lv_at hl 1 rfl) ?_
  refine lv_bipush (v := 115) hx hb dX11_item_1 (by decide) ?_
  refine lv_icmp_ne hx hb dX11_item_3 (tgt := 10) (by decide) (fun hc => ?_) (fun hc => ?_)
  · rw [if_neg hc] at hm
    refine lv_iload_n hx hb dX11_item_10 rfl (lv_at hl 1 rfl) ?_
    refine lv_bipush (v := 103) hx hb dX11_item_11 (by decide) ?_
    refine lv_icmp_ne hx hb dX11_item_13 (tgt := 20) (by decide) (fun hc => ?_) (fun hc => ?_)
    · rw [if_neg hc] at hm
      refine lv_iload_n hx hb dX11_item_20 rfl (lv_at hl 1 rfl) ?_
      refine lv_bipush (v := 97) hx hb dX11_item_21 (by decide) ?_
      refine lv_icmp_ne hx hb dX11_item_23 (tgt := 30) (by decide) (fun hc => ?_) (fun hc => ?_)
      · rw [if_neg hc] at hm
        refine lv_iconst (v := 3) hx hb dX11_item_30 (by decide) ?_
        exact wX11_item_31 X (3 : Int32) h _ _ _ hm hH (lv_sub hl [0] rfl)
      · rw [if_pos hc] at hm
        refine lv_iconst (v := 2) hx hb dX11_item_26 (by decide) ?_
        refine lv_goto hx hb dX11_item_27 (tgt := 31) (by decide) ?_
        exact wX11_item_31 X (2 : Int32) h _ _ _ hm hH (lv_sub hl [0] rfl)
    · rw [if_pos hc] at hm
      refine lv_iconst (v := 1) hx hb dX11_item_16 (by decide) ?_
      refine lv_goto hx hb dX11_item_17 (tgt := 31) (by decide) ?_
      exact wX11_item_31 X (1 : Int32) h _ _ _ hm hH (lv_sub hl [0] rfl)
  · rw [if_pos hc] at hm
    refine lv_iconst (v := 0) hx hb dX11_item_6 (by decide) ?_
    refine lv_goto hx hb dX11_item_7 (tgt := 31) (by decide) ?_
    exact wX11_item_31 X (0 : Int32) h _ _ _ hm hH (lv_sub hl [0] rfl)
