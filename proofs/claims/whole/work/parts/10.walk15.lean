/-! X11_number_0_8 -/
def mX11_number_0_8_96 (x2 : Int32) (x3 : Int32) (x5 : Int32) (x6 : Int32) (x7 : Int32) (h : Mm) : Option (Int32 × Mm) := gIn x5 12 (mlet (wr h 8 x5.toNatClampNeg x6) (fun h1 => if x7 ≤ 0 then (some ((0 : Int32), h1)) else (bd1 (mX11_in h1 x6.toInt64 x2.toInt64 x3.toInt64) (fun v3 => if v3 = 0 then (some ((0 : Int32), h1)) else (some ((1 : Int32), h1))))))
set_option maxRecDepth 4000 in
theorem wX11_number_0_8_96 {p : Program} {l : Launch} {e : Env} {s : State} {m : MethodId} {args : Array Value} {below : List Frame} {meth : Method} {c : Code} {D : va_G} {ad : Nat → Nat} {ac : Nat → ClassId} {r : Int32} {h' : Mm} (X : Fx p s m args meth c cX11_number 8 RX11 (some .boolean) D ad ac LM []) : ∀ (x2 : Int32) (x3 : Int32) (x5 : Int32) (x6 : Int32) (x7 : Int32) (h : Mm) (H : Heap) (locs : List Loc) (ls : Array Slot), mX11_number_0_8_96 x2 x3 x5 x6 x7 h = some (r, h') → Hp D ad ac LM h s H locs → lv_has ls 8 [(2, .int x2), (3, .int x3), (4, .ref (ad 8)), (5, .int x5), (6, .int x6), (7, .int x7)] → W p l e (rmD 1) s m args below meth c H locs 0 0 (MQ below (QU D ad ac LM (some (.int r)) h' s.heap.size) args s 0 0 (Aa ad LM.length s.heap.size)) (F0 m 96 ls []) := by
  obtain ⟨hx, hb, hml, hown, hts, hr, hlk, hC, hI, hR⟩ := id X
  intro x2 x3 x5 x6 x7 h H locs ls hm hH hl
  rw [mX11_number_0_8_96] at hm
  refine lv_aload hx hb dX11_number_96 (lv_at hl 2 rfl) ?_
  refine lv_iload hx hb dX11_number_98 (lv_at hl 3 rfl) ?_
  refine lv_iload hx hb dX11_number_100 (lv_at hl 4 rfl) ?_
  obtain ⟨hin2, hm⟩ := gIn_some hm
  obtain ⟨h1, eh1, hm⟩ := mlet_some hm
  refine ist X hH lM_8 hin2 dX11_number_102 (fun H locs hH => ?_)
  rw [← eh1] at hH
  refine lv_iload hx hb dX11_number_103 (lv_at hl 5 rfl) ?_
  refine lv_if_le hx hb dX11_number_105 (tgt := 125) (by decide) (fun hc => ?_) (fun hc => ?_)
  · rw [if_pos hc] at hm
    refine lv_iconst (v := 0) hx hb dX11_number_125 (by decide) ?_
    cases hm
    exact retZ X hH rfl dX11_number_126
  · rw [if_neg hc] at hm
    refine lv_iload hx hb dX11_number_108 (lv_at hl 4 rfl) ?_
    refine lv_i2l hx hb dX11_number_110 rfl ?_
    refine lv_iload_n hx hb dX11_number_111 rfl (lv_at hl 0 rfl) ?_
    refine lv_i2l hx hb dX11_number_112 rfl ?_
    refine lv_iload_n hx hb dX11_number_113 rfl (lv_at hl 1 rfl) ?_
    refine lv_i2l hx hb dX11_number_114 rfl ?_
    obtain ⟨v3, hq, hm⟩ := bd1_some hm
    refine cSi (As := [.long x6.toInt64, .long x2.toInt64, .long x3.toInt64]) X hH kl_X11_93 ks_X11_in (mt_X11_in hq) rfl (by decide) hl.1 rfl (Nat.le_of_ble_eq_true rfl) dX11_number_115 (fun H locs hH => ?_)
    refine lv_if_eq hx hb dX11_number_118 (tgt := 125) (by decide) (fun hc => ?_) (fun hc => ?_)
    · rw [if_pos hc] at hm
      refine lv_iconst (v := 0) hx hb dX11_number_125 (by decide) ?_
      cases hm
      exact retZ X hH rfl dX11_number_126
    · rw [if_neg hc] at hm
      refine lv_iconst (v := 1) hx hb dX11_number_121 (by decide) ?_
      refine lv_goto hx hb dX11_number_122 (tgt := 126) (by decide) ?_
      cases hm
      exact retZ X hH rfl dX11_number_126
def mX11_number_0_8_34 : Nat → Int32 → Int32 → Int32 → Int32 → Int32 → Mm → Option (Int32 × Mm)
  | 0, _, _, _, _, _, _ => none
  | n + 1, x2, x3, x5, x6, x7, h => if (2 : Int32) ≤ x7 then (mX11_number_0_8_96 x2 x3 x5 x6 x7 h) else (bd1 (mX11_byteAt h (h 0 2)) (fun v1 => bd1 (mX11_in h v1.toInt64 (48 : Int64) (57 : Int64)) (fun v2 => if v2 = 0 then (mX11_number_0_8_96 x2 x3 x5 x6 x7 h) else (bd1 (mX11_byteAt h (h 0 2)) (fun v3 => mlet ((((10 : Int32) * x6) + v3) - (48 : Int32)) (fun u4 => mlet (wr h 0 2 ((h 0 2) + (1 : Int32))) (fun h5 => mX11_number_0_8_34 n x2 x3 x5 u4 (x7 + 1) h5)))))))
set_option maxRecDepth 4000 in
theorem wX11_number_0_8_34 {p : Program} {l : Launch} {e : Env} {s : State} {m : MethodId} {args : Array Value} {below : List Frame} {meth : Method} {c : Code} {D : va_G} {ad : Nat → Nat} {ac : Nat → ClassId} {r : Int32} {h' : Mm} (X : Fx p s m args meth c cX11_number 8 RX11 (some .boolean) D ad ac LM []) : ∀ (n : Nat) (x2 : Int32) (x3 : Int32) (x5 : Int32) (x6 : Int32) (x7 : Int32) (h : Mm) (H : Heap) (locs : List Loc) (ls : Array Slot), mX11_number_0_8_34 n x2 x3 x5 x6 x7 h = some (r, h') → Hp D ad ac LM h s H locs → lv_has ls 8 [(0, .ref (ad 0)), (2, .int x2), (3, .int x3), (4, .ref (ad 8)), (5, .int x5), (6, .int x6), (7, .int x7)] → W p l e (rmD 1) s m args below meth c H locs 0 0 (MQ below (QU D ad ac LM (some (.int r)) h' s.heap.size) args s 0 0 (Aa ad LM.length s.heap.size)) (F0 m 34 ls []) := by
  obtain ⟨hx, hb, hml, hown, hts, hr, hlk, hC, hI, hR⟩ := id X
  intro n
  induction n with
  | zero => intro x2 x3 x5 x6 x7 h H locs ls hm; rw [mX11_number_0_8_34] at hm; cases hm
  | succ n ih =>
    intro x2 x3 x5 x6 x7 h H locs ls hm hH hl
    rw [mX11_number_0_8_34] at hm
    refine lv_iload hx hb dX11_number_34 (lv_at hl 6 rfl) ?_
    refine lv_iconst (v := 2) hx hb dX11_number_36 (by decide) ?_
    refine lv_icmp_ge hx hb dX11_number_37 (tgt := 96) (by decide) (fun hc => ?_) (fun hc => ?_)
    · rw [if_pos hc] at hm
      exact wX11_number_0_8_96 X x2 x3 x5 x6 x7 h _ _ _ hm hH (lv_sub hl [1, 2, 3, 4, 5, 6] rfl)
    · rw [if_neg hc] at hm
      refine lv_aload_n hx hb dX11_number_40 rfl (lv_at hl 0 rfl) ?_
      refine lv_aload_n hx hb dX11_number_41 rfl (lv_at hl 0 rfl) ?_
      refine gI X hH fl_X11_101 lM_0 rfl dX11_number_42 ?_
      obtain ⟨v1, hq, hm⟩ := bd1_some hm
      refine cVi X hH kl_X11_104 kv_X11_byteAt (mt_X11_byteAt hq) lM_0 rfl rfl (by decide) hl.1 rfl (Nat.le_of_ble_eq_true rfl) dX11_number_45 (fun H locs hH => ?_)
      refine lv_i2l hx hb dX11_number_48 rfl ?_
      refine lv_ldc2 hx hb hown (hts _ kc_X11_108) dX11_number_49 ?_
      refine lv_ldc2 hx hb hown (hts _ kc_X11_110) dX11_number_52 ?_
      obtain ⟨v2, hq, hm⟩ := bd1_some hm
      refine cSi (As := [.long v1.toInt64, .long (48 : Int64), .long (57 : Int64)]) X hH kl_X11_93 ks_X11_in (mt_X11_in hq) rfl (by decide) hl.1 rfl (Nat.le_of_ble_eq_true rfl) dX11_number_55 (fun H locs hH => ?_)
      refine lv_if_eq hx hb dX11_number_58 (tgt := 96) (by decide) (fun hc => ?_) (fun hc => ?_)
      · rw [if_pos hc] at hm
        exact wX11_number_0_8_96 X x2 x3 x5 x6 x7 h _ _ _ hm hH (lv_sub hl [1, 2, 3, 4, 5, 6] rfl)
      · rw [if_neg hc] at hm
        refine lv_bipush (v := 10) hx hb dX11_number_61 (by decide) ?_
        refine lv_iload hx hb dX11_number_63 (lv_at hl 5 rfl) ?_
        refine lv_imul hx hb dX11_number_65 ?_
        refine lv_aload_n hx hb dX11_number_66 rfl (lv_at hl 0 rfl) ?_
        refine lv_aload_n hx hb dX11_number_67 rfl (lv_at hl 0 rfl) ?_
        refine gI X hH fl_X11_101 lM_0 rfl dX11_number_68 ?_
        obtain ⟨v3, hq, hm⟩ := bd1_some hm
        refine cVi X hH kl_X11_104 kv_X11_byteAt (mt_X11_byteAt hq) lM_0 rfl rfl (by decide) hl.1 rfl (Nat.le_of_ble_eq_true rfl) dX11_number_71 (fun H locs hH => ?_)
        refine lv_iadd hx hb dX11_number_74 ?_
        refine lv_bipush (v := 48) hx hb dX11_number_75 (by decide) ?_
        refine lv_isub hx hb dX11_number_77 ?_
        obtain ⟨u4, eu4, hm⟩ := mlet_some hm
        refine W.eq (g2 := F0 m 78 ls (.int u4 :: [])) (by rw [eu4]) ?_
        refine lv_istore (lv' := [(6, .int u4), (0, .ref (ad 0)), (2, .int x2), (3, .int x3), (4, .ref (ad 8)), (5, .int x5), (7, .int x7)]) hx hb dX11_number_78 hl (by decide) rfl (fun ls hl => ?_)
        refine lv_aload_n hx hb dX11_number_80 rfl (lv_at hl 1 rfl) ?_
        refine lv_dup hx hb dX11_number_81 rfl ?_
        refine gI X hH fl_X11_101 lM_0 rfl dX11_number_82 ?_
        refine lv_iconst (v := 1) hx hb dX11_number_85 (by decide) ?_
        refine lv_iadd hx hb dX11_number_86 ?_
        obtain ⟨h5, eh5, hm⟩ := mlet_some hm
        refine pI X hH fl_X11_101 fw_11_2 lM_0 rfl dX11_number_87 (fun H locs hH => ?_)
        rw [← eh5] at hH
        refine lv_iinc (k := 6) (v := (x7 + 1)) (lv' := [(7, .int (x7 + 1)), (6, .int u4), (0, .ref (ad 0)), (2, .int x2), (3, .int x3), (4, .ref (ad 8)), (5, .int x5)]) hx hb dX11_number_90 hl rfl rfl (by decide) rfl (fun ls hl => ?_)
        refine lv_goto hx hb dX11_number_93 (tgt := 34) (by decide) ?_
        exact ih x2 x3 x5 u4 (x7 + 1) h5 _ _ _ hm hH (lv_sub hl [2, 3, 4, 5, 6, 1, 0] rfl)
def mX11_number_0_8_28 (x2 : Int32) (x3 : Int32) (x5 : Int32) (h : Mm) : Option (Int32 × Mm) := mX11_number_0_8_34 FU x2 x3 x5 (0 : Int32) (0 : Int32) h
set_option maxRecDepth 4000 in
theorem wX11_number_0_8_28 {p : Program} {l : Launch} {e : Env} {s : State} {m : MethodId} {args : Array Value} {below : List Frame} {meth : Method} {c : Code} {D : va_G} {ad : Nat → Nat} {ac : Nat → ClassId} {r : Int32} {h' : Mm} (X : Fx p s m args meth c cX11_number 8 RX11 (some .boolean) D ad ac LM []) : ∀ (x2 : Int32) (x3 : Int32) (x5 : Int32) (h : Mm) (H : Heap) (locs : List Loc) (ls : Array Slot), mX11_number_0_8_28 x2 x3 x5 h = some (r, h') → Hp D ad ac LM h s H locs → lv_has ls 8 [(0, .ref (ad 0)), (2, .int x2), (3, .int x3), (4, .ref (ad 8)), (5, .int x5)] → W p l e (rmD 1) s m args below meth c H locs 0 0 (MQ below (QU D ad ac LM (some (.int r)) h' s.heap.size) args s 0 0 (Aa ad LM.length s.heap.size)) (F0 m 28 ls []) := by
  obtain ⟨hx, hb, hml, hown, hts, hr, hlk, hC, hI, hR⟩ := id X
  intro x2 x3 x5 h H locs ls hm hH hl
  rw [mX11_number_0_8_28] at hm
  refine lv_iconst (v := 0) hx hb dX11_number_28 (by decide) ?_
  refine lv_istore (lv' := [(6, .int (0 : Int32)), (0, .ref (ad 0)), (2, .int x2), (3, .int x3), (4, .ref (ad 8)), (5, .int x5)]) hx hb dX11_number_29 hl (by decide) rfl (fun ls hl => ?_)
  refine lv_iconst (v := 0) hx hb dX11_number_31 (by decide) ?_
  refine lv_istore (lv' := [(7, .int (0 : Int32)), (6, .int (0 : Int32)), (0, .ref (ad 0)), (2, .int x2), (3, .int x3), (4, .ref (ad 8)), (5, .int x5)]) hx hb dX11_number_32 hl (by decide) rfl (fun ls hl => ?_)
  exact wX11_number_0_8_34 X FU x2 x3 x5 (0 : Int32) (0 : Int32) h _ _ _ hm hH (lv_sub hl [2, 3, 4, 5, 6, 1, 0] rfl)
def mX11_number_0_8 (h : Mm) (a1 : Int32) (a2 : Int32) (a3 : Int32) (a5 : Int32) : Option (Int32 × Mm) := if a1 ≤ 0 then (mX11_number_0_8_28 a2 a3 a5 h) else (bd1 (mX11_byteAt h (h 0 2)) (fun v1 => if v1 = a1 then (mlet (wr h 0 2 ((h 0 2) + (1 : Int32))) (fun h2 => mX11_number_0_8_28 a2 a3 a5 h2)) else (some ((0 : Int32), h))))
set_option maxRecDepth 4000 in
theorem mt_X11_number_0_8 {l : Launch} {D : va_G} {ad : Nat → Nat} {ac : Nat → ClassId} {h : Mm} {a1 : Int32} {a2 : Int32} {a3 : Int32} {a5 : Int32} {r : Int32} {h' : Mm} (hm : mX11_number_0_8 h a1 a2 a3 a5 = some (r, h')) : Mt l D ad ac LM [] yX11_number cX11_number 8 (some .boolean) 1 [.ref (ad 0), .int a1, .int a2, .int a3, .ref (ad 8), .int a5] h (some (.int r)) h' := by
  refine Mt.of (own := RX11) (by decide) rfl (Nat.le_of_ble_eq_true rfl) ?_
  intro p e s m below meth c ls X hH hl
  obtain ⟨hx, hb, hml, hown, hts, hr, hlk, hC, hI, hR⟩ := id X
  have hl : lv_has ls 8 [(0, .ref (ad 0)), (1, .int a1), (2, .int a2), (3, .int a3), (4, .ref (ad 8)), (5, .int a5)] := hl
  rw [mX11_number_0_8] at hm
  refine lv_iload_n hx hb dX11_number_0 rfl (lv_at hl 1 rfl) ?_
  refine lv_if_le hx hb dX11_number_1 (tgt := 28) (by decide) (fun hc => ?_) (fun hc => ?_)
  · rw [if_pos hc] at hm
    exact wX11_number_0_8_28 X a2 a3 a5 h _ _ _ hm hH (lv_sub hl [0, 2, 3, 4, 5] rfl)
  · rw [if_neg hc] at hm
    refine lv_aload_n hx hb dX11_number_4 rfl (lv_at hl 0 rfl) ?_
    refine lv_aload_n hx hb dX11_number_5 rfl (lv_at hl 0 rfl) ?_
    refine gI X hH fl_X11_101 lM_0 rfl dX11_number_6 ?_
    obtain ⟨v1, hq, hm⟩ := bd1_some hm
    refine cVi X hH kl_X11_104 kv_X11_byteAt (mt_X11_byteAt hq) lM_0 rfl rfl (by decide) hl.1 rfl (Nat.le_of_ble_eq_true rfl) dX11_number_9 (fun H locs hH => ?_)
    refine lv_iload_n hx hb dX11_number_12 rfl (lv_at hl 1 rfl) ?_
    refine lv_icmp_eq hx hb dX11_number_13 (tgt := 18) (by decide) (fun hc => ?_) (fun hc => ?_)
    · rw [if_pos hc] at hm
      refine lv_aload_n hx hb dX11_number_18 rfl (lv_at hl 0 rfl) ?_
      refine lv_dup hx hb dX11_number_19 rfl ?_
      refine gI X hH fl_X11_101 lM_0 rfl dX11_number_20 ?_
      refine lv_iconst (v := 1) hx hb dX11_number_23 (by decide) ?_
      refine lv_iadd hx hb dX11_number_24 ?_
      obtain ⟨h2, eh2, hm⟩ := mlet_some hm
      refine pI X hH fl_X11_101 fw_11_2 lM_0 rfl dX11_number_25 (fun H locs hH => ?_)
      rw [← eh2] at hH
      exact wX11_number_0_8_28 X a2 a3 a5 h2 _ _ _ hm hH (lv_sub hl [0, 2, 3, 4, 5] rfl)
    · rw [if_neg hc] at hm
      refine lv_iconst (v := 0) hx hb dX11_number_16 (by decide) ?_
      cases hm
      exact retZ X hH rfl dX11_number_17
/-! X11_number_0_6 -/
def mX11_number_0_6_96 (x2 : Int32) (x3 : Int32) (x5 : Int32) (x6 : Int32) (x7 : Int32) (h : Mm) : Option (Int32 × Mm) := gIn x5 20 (mlet (wr h 6 x5.toNatClampNeg x6) (fun h1 => if x7 ≤ 0 then (some ((0 : Int32), h1)) else (bd1 (mX11_in h1 x6.toInt64 x2.toInt64 x3.toInt64) (fun v3 => if v3 = 0 then (some ((0 : Int32), h1)) else (some ((1 : Int32), h1))))))
set_option maxRecDepth 4000 in
theorem wX11_number_0_6_96 {p : Program} {l : Launch} {e : Env} {s : State} {m : MethodId} {args : Array Value} {below : List Frame} {meth : Method} {c : Code} {D : va_G} {ad : Nat → Nat} {ac : Nat → ClassId} {r : Int32} {h' : Mm} (X : Fx p s m args meth c cX11_number 8 RX11 (some .boolean) D ad ac LM []) : ∀ (x2 : Int32) (x3 : Int32) (x5 : Int32) (x6 : Int32) (x7 : Int32) (h : Mm) (H : Heap) (locs : List Loc) (ls : Array Slot), mX11_number_0_6_96 x2 x3 x5 x6 x7 h = some (r, h') → Hp D ad ac LM h s H locs → lv_has ls 8 [(2, .int x2), (3, .int x3), (4, .ref (ad 6)), (5, .int x5), (6, .int x6), (7, .int x7)] → W p l e (rmD 1) s m args below meth c H locs 0 0 (MQ below (QU D ad ac LM (some (.int r)) h' s.heap.size) args s 0 0 (Aa ad LM.length s.heap.size)) (F0 m 96 ls []) := by
  obtain ⟨hx, hb, hml, hown, hts, hr, hlk, hC, hI, hR⟩ := id X
  intro x2 x3 x5 x6 x7 h H locs ls hm hH hl
  rw [mX11_number_0_6_96] at hm
  refine lv_aload hx hb dX11_number_96 (lv_at hl 2 rfl) ?_
  refine lv_iload hx hb dX11_number_98 (lv_at hl 3 rfl) ?_
  refine lv_iload hx hb dX11_number_100 (lv_at hl 4 rfl) ?_
  obtain ⟨hin2, hm⟩ := gIn_some hm
  obtain ⟨h1, eh1, hm⟩ := mlet_some hm
  refine ist X hH lM_6 hin2 dX11_number_102 (fun H locs hH => ?_)
  rw [← eh1] at hH
  refine lv_iload hx hb dX11_number_103 (lv_at hl 5 rfl) ?_
  refine lv_if_le hx hb dX11_number_105 (tgt := 125) (by decide) (fun hc => ?_) (fun hc => ?_)
  · rw [if_pos hc] at hm
    refine lv_iconst (v := 0) hx hb dX11_number_125 (by decide) ?_
    cases hm
    exact retZ X hH rfl dX11_number_126
  · rw [if_neg hc] at hm
    refine lv_iload hx hb dX11_number_108 (lv_at hl 4 rfl) ?_
    refine lv_i2l hx hb dX11_number_110 rfl ?_
    refine lv_iload_n hx hb dX11_number_111 rfl (lv_at hl 0 rfl) ?_
    refine lv_i2l hx hb dX11_number_112 rfl ?_
    refine lv_iload_n hx hb dX11_number_113 rfl (lv_at hl 1 rfl) ?_
    refine lv_i2l hx hb dX11_number_114 rfl ?_
    obtain ⟨v3, hq, hm⟩ := bd1_some hm
    refine cSi (As := [.long x6.toInt64, .long x2.toInt64, .long x3.toInt64]) X hH kl_X11_93 ks_X11_in (mt_X11_in hq) rfl (by decide) hl.1 rfl (Nat.le_of_ble_eq_true rfl) dX11_number_115 (fun H locs hH => ?_)
    refine lv_if_eq hx hb dX11_number_118 (tgt := 125) (by decide) (fun hc => ?_) (fun hc => ?_)
    · rw [if_pos hc] at hm
      refine lv_iconst (v := 0) hx hb dX11_number_125 (by decide) ?_
      cases hm
      exact retZ X hH rfl dX11_number_126
    · rw [if_neg hc] at hm
      refine lv_iconst (v := 1) hx hb dX11_number_121 (by decide) ?_
      refine lv_goto hx hb dX11_number_122 (tgt := 126) (by decide) ?_
      cases hm
      exact retZ X hH rfl dX11_number_126
def mX11_number_0_6_34 : Nat → Int32 → Int32 → Int32 → Int32 → Int32 → Mm → Option (Int32 × Mm)
  | 0, _, _, _, _, _, _ => none
  | n + 1, x2, x3, x5, x6, x7, h => if (2 : Int32) ≤ x7 then (mX11_number_0_6_96 x2 x3 x5 x6 x7 h) else (bd1 (mX11_byteAt h (h 0 2)) (fun v1 => bd1 (mX11_in h v1.toInt64 (48 : Int64) (57 : Int64)) (fun v2 => if v2 = 0 then (mX11_number_0_6_96 x2 x3 x5 x6 x7 h) else (bd1 (mX11_byteAt h (h 0 2)) (fun v3 => mlet ((((10 : Int32) * x6) + v3) - (48 : Int32)) (fun u4 => mlet (wr h 0 2 ((h 0 2) + (1 : Int32))) (fun h5 => mX11_number_0_6_34 n x2 x3 x5 u4 (x7 + 1) h5)))))))
set_option maxRecDepth 4000 in
theorem wX11_number_0_6_34 {p : Program} {l : Launch} {e : Env} {s : State} {m : MethodId} {args : Array Value} {below : List Frame} {meth : Method} {c : Code} {D : va_G} {ad : Nat → Nat} {ac : Nat → ClassId} {r : Int32} {h' : Mm} (X : Fx p s m args meth c cX11_number 8 RX11 (some .boolean) D ad ac LM []) : ∀ (n : Nat) (x2 : Int32) (x3 : Int32) (x5 : Int32) (x6 : Int32) (x7 : Int32) (h : Mm) (H : Heap) (locs : List Loc) (ls : Array Slot), mX11_number_0_6_34 n x2 x3 x5 x6 x7 h = some (r, h') → Hp D ad ac LM h s H locs → lv_has ls 8 [(0, .ref (ad 0)), (2, .int x2), (3, .int x3), (4, .ref (ad 6)), (5, .int x5), (6, .int x6), (7, .int x7)] → W p l e (rmD 1) s m args below meth c H locs 0 0 (MQ below (QU D ad ac LM (some (.int r)) h' s.heap.size) args s 0 0 (Aa ad LM.length s.heap.size)) (F0 m 34 ls []) := by
  obtain ⟨hx, hb, hml, hown, hts, hr, hlk, hC, hI, hR⟩ := id X
  intro n
  induction n with
  | zero => intro x2 x3 x5 x6 x7 h H locs ls hm; rw [mX11_number_0_6_34] at hm; cases hm
  | succ n ih =>
    intro x2 x3 x5 x6 x7 h H locs ls hm hH hl
    rw [mX11_number_0_6_34] at hm
    refine lv_iload hx hb dX11_number_34 (lv_at hl 6 rfl) ?_
    refine lv_iconst (v := 2) hx hb dX11_number_36 (by decide) ?_
    refine lv_icmp_ge hx hb dX11_number_37 (tgt := 96) (by decide) (fun hc => ?_) (fun hc => ?_)
    · rw [if_pos hc] at hm
      exact wX11_number_0_6_96 X x2 x3 x5 x6 x7 h _ _ _ hm hH (lv_sub hl [1, 2, 3, 4, 5, 6] rfl)
    · rw [if_neg hc] at hm
      refine lv_aload_n hx hb dX11_number_40 rfl (lv_at hl 0 rfl) ?_
      refine lv_aload_n hx hb dX11_number_41 rfl (lv_at hl 0 rfl) ?_
      refine gI X hH fl_X11_101 lM_0 rfl dX11_number_42 ?_
      obtain ⟨v1, hq, hm⟩ := bd1_some hm
      refine cVi X hH kl_X11_104 kv_X11_byteAt (mt_X11_byteAt hq) lM_0 rfl rfl (by decide) hl.1 rfl (Nat.le_of_ble_eq_true rfl) dX11_number_45 (fun H locs hH => ?_)
      refine lv_i2l hx hb dX11_number_48 rfl ?_
      refine lv_ldc2 hx hb hown (hts _ kc_X11_108) dX11_number_49 ?_
      refine lv_ldc2 hx hb hown (hts _ kc_X11_110) dX11_number_52 ?_
      obtain ⟨v2, hq, hm⟩ := bd1_some hm
      refine cSi (As := [.long v1.toInt64, .long (48 : Int64), .long (57 : Int64)]) X hH kl_X11_93 ks_X11_in (mt_X11_in hq) rfl (by decide) hl.1 rfl (Nat.le_of_ble_eq_true rfl) dX11_number_55 (fun H locs hH => ?_)
      refine lv_if_eq hx hb dX11_number_58 (tgt := 96) (by decide) (fun hc => ?_) (fun hc => ?_)
      · rw [if_pos hc] at hm
        exact wX11_number_0_6_96 X x2 x3 x5 x6 x7 h _ _ _ hm hH (lv_sub hl [1, 2, 3, 4, 5, 6] rfl)
      · rw [if_neg hc] at hm
        refine lv_bipush (v := 10) hx hb dX11_number_61 (by decide) ?_
        refine lv_iload hx hb dX11_number_63 (lv_at hl 5 rfl) ?_
        refine lv_imul hx hb dX11_number_65 ?_
        refine lv_aload_n hx hb dX11_number_66 rfl (lv_at hl 0 rfl) ?_
        refine lv_aload_n hx hb dX11_number_67 rfl (lv_at hl 0 rfl) ?_
        refine gI X hH fl_X11_101 lM_0 rfl dX11_number_68 ?_
        obtain ⟨v3, hq, hm⟩ := bd1_some hm
        refine cVi X hH kl_X11_104 kv_X11_byteAt (mt_X11_byteAt hq) lM_0 rfl rfl (by decide) hl.1 rfl (Nat.le_of_ble_eq_true rfl) dX11_number_71 (fun H locs hH => ?_)
        refine lv_iadd hx hb dX11_number_74 ?_
        refine lv_bipush (v := 48) hx hb dX11_number_75 (by decide) ?_
        refine lv_isub hx hb dX11_number_77 ?_
        obtain ⟨u4, eu4, hm⟩ := mlet_some hm
        refine W.eq (g2 := F0 m 78 ls (.int u4 :: [])) (by rw [eu4]) ?_
        refine lv_istore (lv' := [(6, .int u4), (0, .ref (ad 0)), (2, .int x2), (3, .int x3), (4, .ref (ad 6)), (5, .int x5), (7, .int x7)]) hx hb dX11_number_78 hl (by decide) rfl (fun ls hl => ?_)
        refine lv_aload_n hx hb dX11_number_80 rfl (lv_at hl 1 rfl) ?_
        refine lv_dup hx hb dX11_number_81 rfl ?_
        refine gI X hH fl_X11_101 lM_0 rfl dX11_number_82 ?_
        refine lv_iconst (v := 1) hx hb dX11_number_85 (by decide) ?_
        refine lv_iadd hx hb dX11_number_86 ?_
        obtain ⟨h5, eh5, hm⟩ := mlet_some hm
        refine pI X hH fl_X11_101 fw_11_2 lM_0 rfl dX11_number_87 (fun H locs hH => ?_)
        rw [← eh5] at hH
        refine lv_iinc (k := 6) (v := (x7 + 1)) (lv' := [(7, .int (x7 + 1)), (6, .int u4), (0, .ref (ad 0)), (2, .int x2), (3, .int x3), (4, .ref (ad 6)), (5, .int x5)]) hx hb dX11_number_90 hl rfl rfl (by decide) rfl (fun ls hl => ?_)
        refine lv_goto hx hb dX11_number_93 (tgt := 34) (by decide) ?_
        exact ih x2 x3 x5 u4 (x7 + 1) h5 _ _ _ hm hH (lv_sub hl [2, 3, 4, 5, 6, 1, 0] rfl)
def mX11_number_0_6_28 (x2 : Int32) (x3 : Int32) (x5 : Int32) (h : Mm) : Option (Int32 × Mm) := mX11_number_0_6_34 FU x2 x3 x5 (0 : Int32) (0 : Int32) h
set_option maxRecDepth 4000 in
theorem wX11_number_0_6_28 {p : Program} {l : Launch} {e : Env} {s : State} {m : MethodId} {args : Array Value} {below : List Frame} {meth : Method} {c : Code} {D : va_G} {ad : Nat → Nat} {ac : Nat → ClassId} {r : Int32} {h' : Mm} (X : Fx p s m args meth c cX11_number 8 RX11 (some .boolean) D ad ac LM []) : ∀ (x2 : Int32) (x3 : Int32) (x5 : Int32) (h : Mm) (H : Heap) (locs : List Loc) (ls : Array Slot), mX11_number_0_6_28 x2 x3 x5 h = some (r, h') → Hp D ad ac LM h s H locs → lv_has ls 8 [(0, .ref (ad 0)), (2, .int x2), (3, .int x3), (4, .ref (ad 6)), (5, .int x5)] → W p l e (rmD 1) s m args below meth c H locs 0 0 (MQ below (QU D ad ac LM (some (.int r)) h' s.heap.size) args s 0 0 (Aa ad LM.length s.heap.size)) (F0 m 28 ls []) := by
  obtain ⟨hx, hb, hml, hown, hts, hr, hlk, hC, hI, hR⟩ := id X
  intro x2 x3 x5 h H locs ls hm hH hl
  rw [mX11_number_0_6_28] at hm
  refine lv_iconst (v := 0) hx hb dX11_number_28 (by decide) ?_
  refine lv_istore (lv' := [(6, .int (0 : Int32)), (0, .ref (ad 0)), (2, .int x2), (3, .int x3), (4, .ref (ad 6)), (5, .int x5)]) hx hb dX11_number_29 hl (by decide) rfl (fun ls hl => ?_)
  refine lv_iconst (v := 0) hx hb dX11_number_31 (by decide) ?_
  refine lv_istore (lv' := [(7, .int (0 : Int32)), (6, .int (0 : Int32)), (0, .ref (ad 0)), (2, .int x2), (3, .int x3), (4, .ref (ad 6)), (5, .int x5)]) hx hb dX11_number_32 hl (by decide) rfl (fun ls hl => ?_)
  exact wX11_number_0_6_34 X FU x2 x3 x5 (0 : Int32) (0 : Int32) h _ _ _ hm hH (lv_sub hl [2, 3, 4, 5, 6, 1, 0] rfl)
def mX11_number_0_6 (h : Mm) (a1 : Int32) (a2 : Int32) (a3 : Int32) (a5 : Int32) : Option (Int32 × Mm) := if a1 ≤ 0 then (mX11_number_0_6_28 a2 a3 a5 h) else (bd1 (mX11_byteAt h (h 0 2)) (fun v1 => if v1 = a1 then (mlet (wr h 0 2 ((h 0 2) + (1 : Int32))) (fun h2 => mX11_number_0_6_28 a2 a3 a5 h2)) else (some ((0 : Int32), h))))
set_option maxRecDepth 4000 in
theorem mt_X11_number_0_6 {l : Launch} {D : va_G} {ad : Nat → Nat} {ac : Nat → ClassId} {h : Mm} {a1 : Int32} {a2 : Int32} {a3 : Int32} {a5 : Int32} {r : Int32} {h' : Mm} (hm : mX11_number_0_6 h a1 a2 a3 a5 = some (r, h')) : Mt l D ad ac LM [] yX11_number cX11_number 8 (some .boolean) 1 [.ref (ad 0), .int a1, .int a2, .int a3, .ref (ad 6), .int a5] h (some (.int r)) h' := by
  refine Mt.of (own := RX11) (by decide) rfl (Nat.le_of_ble_eq_true rfl) ?_
  intro p e s m below meth c ls X hH hl
  obtain ⟨hx, hb, hml, hown, hts, hr, hlk, hC, hI, hR⟩ := id X
  have hl : lv_has ls 8 [(0, .ref (ad 0)), (1, .int a1), (2, .int a2), (3, .int a3), (4, .ref (ad 6)), (5, .int a5)] := hl
  rw [mX11_number_0_6] at hm
  refine lv_iload_n hx hb dX11_number_0 rfl (lv_at hl 1 rfl) ?_
  refine lv_if_le hx hb dX11_number_1 (tgt := 28) (by decide) (fun hc => ?_) (fun hc => ?_)
  · rw [if_pos hc] at hm
    exact wX11_number_0_6_28 X a2 a3 a5 h _ _ _ hm hH (lv_sub hl [0, 2, 3, 4, 5] rfl)
  · rw [if_neg hc] at hm
    refine lv_aload_n hx hb dX11_number_4 rfl (lv_at hl 0 rfl) ?_
    refine lv_aload_n hx hb dX11_number_5 rfl (lv_at hl 0 rfl) ?_
    refine gI X hH fl_X11_101 lM_0 rfl dX11_number_6 ?_
    obtain ⟨v1, hq, hm⟩ := bd1_some hm
    refine cVi X hH kl_X11_104 kv_X11_byteAt (mt_X11_byteAt hq) lM_0 rfl rfl (by decide) hl.1 rfl (Nat.le_of_ble_eq_true rfl) dX11_number_9 (fun H locs hH => ?_)
    refine lv_iload_n hx hb dX11_number_12 rfl (lv_at hl 1 rfl) ?_
    refine lv_icmp_eq hx hb dX11_number_13 (tgt := 18) (by decide) (fun hc => ?_) (fun hc => ?_)
    · rw [if_pos hc] at hm
      refine lv_aload_n hx hb dX11_number_18 rfl (lv_at hl 0 rfl) ?_
      refine lv_dup hx hb dX11_number_19 rfl ?_
      refine gI X hH fl_X11_101 lM_0 rfl dX11_number_20 ?_
      refine lv_iconst (v := 1) hx hb dX11_number_23 (by decide) ?_
      refine lv_iadd hx hb dX11_number_24 ?_
      obtain ⟨h2, eh2, hm⟩ := mlet_some hm
      refine pI X hH fl_X11_101 fw_11_2 lM_0 rfl dX11_number_25 (fun H locs hH => ?_)
      rw [← eh2] at hH
      exact wX11_number_0_6_28 X a2 a3 a5 h2 _ _ _ hm hH (lv_sub hl [0, 2, 3, 4, 5] rfl)
    · rw [if_neg hc] at hm
      refine lv_iconst (v := 0) hx hb dX11_number_16 (by decide) ?_
      cases hm
      exact retZ X hH rfl dX11_number_17
/-! X11_number_0_7 -/
def mX11_number_0_7_96 (x2 : Int32) (x3 : Int32) (x5 : Int32) (x6 : Int32) (x7 : Int32) (h : Mm) : Option (Int32 × Mm) := gIn x5 6 (mlet (wr h 7 x5.toNatClampNeg x6) (fun h1 => if x7 ≤ 0 then (some ((0 : Int32), h1)) else (bd1 (mX11_in h1 x6.toInt64 x2.toInt64 x3.toInt64) (fun v3 => if v3 = 0 then (some ((0 : Int32), h1)) else (some ((1 : Int32), h1))))))
set_option maxRecDepth 4000 in
theorem wX11_number_0_7_96 {p : Program} {l : Launch} {e : Env} {s : State} {m : MethodId} {args : Array Value} {below : List Frame} {meth : Method} {c : Code} {D : va_G} {ad : Nat → Nat} {ac : Nat → ClassId} {r : Int32} {h' : Mm} (X : Fx p s m args meth c cX11_number 8 RX11 (some .boolean) D ad ac LM []) : ∀ (x2 : Int32) (x3 : Int32) (x5 : Int32) (x6 : Int32) (x7 : Int32) (h : Mm) (H : Heap) (locs : List Loc) (ls : Array Slot), mX11_number_0_7_96 x2 x3 x5 x6 x7 h = some (r, h') → Hp D ad ac LM h s H locs → lv_has ls 8 [(2, .int x2), (3, .int x3), (4, .ref (ad 7)), (5, .int x5), (6, .int x6), (7, .int x7)] → W p l e (rmD 1) s m args below meth c H locs 0 0 (MQ below (QU D ad ac LM (some (.int r)) h' s.heap.size) args s 0 0 (Aa ad LM.length s.heap.size)) (F0 m 96 ls []) := by
  obtain ⟨hx, hb, hml, hown, hts, hr, hlk, hC, hI, hR⟩ := id X
  intro x2 x3 x5 x6 x7 h H locs ls hm hH hl
  rw [mX11_number_0_7_96] at hm
  refine lv_aload hx hb dX11_number_96 (lv_at hl 2 rfl) ?_
  refine lv_iload hx hb dX11_number_98 (lv_at hl 3 rfl) ?_
  refine lv_iload hx hb dX11_number_100 (lv_at hl 4 rfl) ?_
  obtain ⟨hin2, hm⟩ := gIn_some hm
  obtain ⟨h1, eh1, hm⟩ := mlet_some hm
  refine ist X hH lM_7 hin2 dX11_number_102 (fun H locs hH => ?_)
  rw [← eh1] at hH
  refine lv_iload hx hb dX11_number_103 (lv_at hl 5 rfl) ?_
  refine lv_if_le hx hb dX11_number_105 (tgt := 125) (by decide) (fun hc => ?_) (fun hc => ?_)
  · rw [if_pos hc] at hm
    refine lv_iconst (v := 0) hx hb dX11_number_125 (by decide) ?_
    cases hm
    exact retZ X hH rfl dX11_number_126
  · rw [if_neg hc] at hm
    refine lv_iload hx hb dX11_number_108 (lv_at hl 4 rfl) ?_
    refine lv_i2l hx hb dX11_number_110 rfl ?_
    refine lv_iload_n hx hb dX11_number_111 rfl (lv_at hl 0 rfl) ?_
    refine lv_i2l hx hb dX11_number_112 rfl ?_
    refine lv_iload_n hx hb dX11_number_113 rfl (lv_at hl 1 rfl) ?_
    refine lv_i2l hx hb dX11_number_114 rfl ?_
    obtain ⟨v3, hq, hm⟩ := bd1_some hm
    refine cSi (As := [.long x6.toInt64, .long x2.toInt64, .long x3.toInt64]) X hH kl_X11_93 ks_X11_in (mt_X11_in hq) rfl (by decide) hl.1 rfl (Nat.le_of_ble_eq_true rfl) dX11_number_115 (fun H locs hH => ?_)
    refine lv_if_eq hx hb dX11_number_118 (tgt := 125) (by decide) (fun hc => ?_) (fun hc => ?_)
    · rw [if_pos hc] at hm
      refine lv_iconst (v := 0) hx hb dX11_number_125 (by decide) ?_
      cases hm
      exact retZ X hH rfl dX11_number_126
    · rw [if_neg hc] at hm
      refine lv_iconst (v := 1) hx hb dX11_number_121 (by decide) ?_
      refine lv_goto hx hb dX11_number_122 (tgt := 126) (by decide) ?_
      cases hm
      exact retZ X hH rfl dX11_number_126
def mX11_number_0_7_34 : Nat → Int32 → Int32 → Int32 → Int32 → Int32 → Mm → Option (Int32 × Mm)
  | 0, _, _, _, _, _, _ => none
  | n + 1, x2, x3, x5, x6, x7, h => if (2 : Int32) ≤ x7 then (mX11_number_0_7_96 x2 x3 x5 x6 x7 h) else (bd1 (mX11_byteAt h (h 0 2)) (fun v1 => bd1 (mX11_in h v1.toInt64 (48 : Int64) (57 : Int64)) (fun v2 => if v2 = 0 then (mX11_number_0_7_96 x2 x3 x5 x6 x7 h) else (bd1 (mX11_byteAt h (h 0 2)) (fun v3 => mlet ((((10 : Int32) * x6) + v3) - (48 : Int32)) (fun u4 => mlet (wr h 0 2 ((h 0 2) + (1 : Int32))) (fun h5 => mX11_number_0_7_34 n x2 x3 x5 u4 (x7 + 1) h5)))))))
set_option maxRecDepth 4000 in
theorem wX11_number_0_7_34 {p : Program} {l : Launch} {e : Env} {s : State} {m : MethodId} {args : Array Value} {below : List Frame} {meth : Method} {c : Code} {D : va_G} {ad : Nat → Nat} {ac : Nat → ClassId} {r : Int32} {h' : Mm} (X : Fx p s m args meth c cX11_number 8 RX11 (some .boolean) D ad ac LM []) : ∀ (n : Nat) (x2 : Int32) (x3 : Int32) (x5 : Int32) (x6 : Int32) (x7 : Int32) (h : Mm) (H : Heap) (locs : List Loc) (ls : Array Slot), mX11_number_0_7_34 n x2 x3 x5 x6 x7 h = some (r, h') → Hp D ad ac LM h s H locs → lv_has ls 8 [(0, .ref (ad 0)), (2, .int x2), (3, .int x3), (4, .ref (ad 7)), (5, .int x5), (6, .int x6), (7, .int x7)] → W p l e (rmD 1) s m args below meth c H locs 0 0 (MQ below (QU D ad ac LM (some (.int r)) h' s.heap.size) args s 0 0 (Aa ad LM.length s.heap.size)) (F0 m 34 ls []) := by
  obtain ⟨hx, hb, hml, hown, hts, hr, hlk, hC, hI, hR⟩ := id X
  intro n
  induction n with
  | zero => intro x2 x3 x5 x6 x7 h H locs ls hm; rw [mX11_number_0_7_34] at hm; cases hm
  | succ n ih =>
    intro x2 x3 x5 x6 x7 h H locs ls hm hH hl
    rw [mX11_number_0_7_34] at hm
    refine lv_iload hx hb dX11_number_34 (lv_at hl 6 rfl) ?_
    refine lv_iconst (v := 2) hx hb dX11_number_36 (by decide) ?_
    refine lv_icmp_ge hx hb dX11_number_37 (tgt := 96) (by decide) (fun hc => ?_) (fun hc => ?_)
    · rw [if_pos hc] at hm
      exact wX11_number_0_7_96 X x2 x3 x5 x6 x7 h _ _ _ hm hH (lv_sub hl [1, 2, 3, 4, 5, 6] rfl)
    · rw [if_neg hc] at hm
      refine lv_aload_n hx hb dX11_number_40 rfl (lv_at hl 0 rfl) ?_
      refine lv_aload_n hx hb dX11_number_41 rfl (lv_at hl 0 rfl) ?_
      refine gI X hH fl_X11_101 lM_0 rfl dX11_number_42 ?_
      obtain ⟨v1, hq, hm⟩ := bd1_some hm
      refine cVi X hH kl_X11_104 kv_X11_byteAt (mt_X11_byteAt hq) lM_0 rfl rfl (by decide) hl.1 rfl (Nat.le_of_ble_eq_true rfl) dX11_number_45 (fun H locs hH => ?_)
      refine lv_i2l hx hb dX11_number_48 rfl ?_
      refine lv_ldc2 hx hb hown (hts _ kc_X11_108) dX11_number_49 ?_
      refine lv_ldc2 hx hb hown (hts _ kc_X11_110) dX11_number_52 ?_
      obtain ⟨v2, hq, hm⟩ := bd1_some hm
      refine cSi (As := [.long v1.toInt64, .long (48 : Int64), .long (57 : Int64)]) X hH kl_X11_93 ks_X11_in (mt_X11_in hq) rfl (by decide) hl.1 rfl (Nat.le_of_ble_eq_true rfl) dX11_number_55 (fun H locs hH => ?_)
      refine lv_if_eq hx hb dX11_number_58 (tgt := 96) (by decide) (fun hc => ?_) (fun hc => ?_)
      · rw [if_pos hc] at hm
        exact wX11_number_0_7_96 X x2 x3 x5 x6 x7 h _ _ _ hm hH (lv_sub hl [1, 2, 3, 4, 5, 6] rfl)
      · rw [if_neg hc] at hm
        refine lv_bipush (v := 10) hx hb dX11_number_61 (by decide) ?_
        refine lv_iload hx hb dX11_number_63 (lv_at hl 5 rfl) ?_
        refine lv_imul hx hb dX11_number_65 ?_
        refine lv_aload_n hx hb dX11_number_66 rfl (lv_at hl 0 rfl) ?_
        refine lv_aload_n hx hb dX11_number_67 rfl (lv_at hl 0 rfl) ?_
        refine gI X hH fl_X11_101 lM_0 rfl dX11_number_68 ?_
        obtain ⟨v3, hq, hm⟩ := bd1_some hm
        refine cVi X hH kl_X11_104 kv_X11_byteAt (mt_X11_byteAt hq) lM_0 rfl rfl (by decide) hl.1 rfl (Nat.le_of_ble_eq_true rfl) dX11_number_71 (fun H locs hH => ?_)
        refine lv_iadd hx hb dX11_number_74 ?_
        refine lv_bipush (v := 48) hx hb dX11_number_75 (by decide) ?_
        refine lv_isub hx hb dX11_number_77 ?_
        obtain ⟨u4, eu4, hm⟩ := mlet_some hm
        refine W.eq (g2 := F0 m 78 ls (.int u4 :: [])) (by rw [eu4]) ?_
        refine lv_istore (lv' := [(6, .int u4), (0, .ref (ad 0)), (2, .int x2), (3, .int x3), (4, .ref (ad 7)), (5, .int x5), (7, .int x7)]) hx hb dX11_number_78 hl (by decide) rfl (fun ls hl => ?_)
        refine lv_aload_n hx hb dX11_number_80 rfl (lv_at hl 1 rfl) ?_
        refine lv_dup hx hb dX11_number_81 rfl ?_
        refine gI X hH fl_X11_101 lM_0 rfl dX11_number_82 ?_
        refine lv_iconst (v := 1) hx hb dX11_number_85 (by decide) ?_
        refine lv_iadd hx hb dX11_number_86 ?_
        obtain ⟨h5, eh5, hm⟩ := mlet_some hm
        refine pI X hH fl_X11_101 fw_11_2 lM_0 rfl dX11_number_87 (fun H locs hH => ?_)
        rw [← eh5] at hH
        refine lv_iinc (k := 6) (v := (x7 + 1)) (lv' := [(7, .int (x7 + 1)), (6, .int u4), (0, .ref (ad 0)), (2, .int x2), (3, .int x3), (4, .ref (ad 7)), (5, .int x5)]) hx hb dX11_number_90 hl rfl rfl (by decide) rfl (fun ls hl => ?_)
        refine lv_goto hx hb dX11_number_93 (tgt := 34) (by decide) ?_
        exact ih x2 x3 x5 u4 (x7 + 1) h5 _ _ _ hm hH (lv_sub hl [2, 3, 4, 5, 6, 1, 0] rfl)
def mX11_number_0_7_28 (x2 : Int32) (x3 : Int32) (x5 : Int32) (h : Mm) : Option (Int32 × Mm) := mX11_number_0_7_34 FU x2 x3 x5 (0 : Int32) (0 : Int32) h
set_option maxRecDepth 4000 in
theorem wX11_number_0_7_28 {p : Program} {l : Launch} {e : Env} {s : State} {m : MethodId} {args : Array Value} {below : List Frame} {meth : Method} {c : Code} {D : va_G} {ad : Nat → Nat} {ac : Nat → ClassId} {r : Int32} {h' : Mm} (X : Fx p s m args meth c cX11_number 8 RX11 (some .boolean) D ad ac LM []) : ∀ (x2 : Int32) (x3 : Int32) (x5 : Int32) (h : Mm) (H : Heap) (locs : List Loc) (ls : Array Slot), mX11_number_0_7_28 x2 x3 x5 h = some (r, h') → Hp D ad ac LM h s H locs → lv_has ls 8 [(0, .ref (ad 0)), (2, .int x2), (3, .int x3), (4, .ref (ad 7)), (5, .int x5)] → W p l e (rmD 1) s m args below meth c H locs 0 0 (MQ below (QU D ad ac LM (some (.int r)) h' s.heap.size) args s 0 0 (Aa ad LM.length s.heap.size)) (F0 m 28 ls []) := by
  obtain ⟨hx, hb, hml, hown, hts, hr, hlk, hC, hI, hR⟩ := id X
  intro x2 x3 x5 h H locs ls hm hH hl
  rw [mX11_number_0_7_28] at hm
  refine lv_iconst (v := 0) hx hb dX11_number_28 (by decide) ?_
  refine lv_istore (lv' := [(6, .int (0 : Int32)), (0, .ref (ad 0)), (2, .int x2), (3, .int x3), (4, .ref (ad 7)), (5, .int x5)]) hx hb dX11_number_29 hl (by decide) rfl (fun ls hl => ?_)
  refine lv_iconst (v := 0) hx hb dX11_number_31 (by decide) ?_
  refine lv_istore (lv' := [(7, .int (0 : Int32)), (6, .int (0 : Int32)), (0, .ref (ad 0)), (2, .int x2), (3, .int x3), (4, .ref (ad 7)), (5, .int x5)]) hx hb dX11_number_32 hl (by decide) rfl (fun ls hl => ?_)
  exact wX11_number_0_7_34 X FU x2 x3 x5 (0 : Int32) (0 : Int32) h _ _ _ hm hH (lv_sub hl [2, 3, 4, 5, 6, 1, 0] rfl)
def mX11_number_0_7 (h : Mm) (a1 : Int32) (a2 : Int32) (a3 : Int32) (a5 : Int32) : Option (Int32 × Mm) := if a1 ≤ 0 then (mX11_number_0_7_28 a2 a3 a5 h) else (bd1 (mX11_byteAt h (h 0 2)) (fun v1 => if v1 = a1 then (mlet (wr h 0 2 ((h 0 2) + (1 : Int32))) (fun h2 => mX11_number_0_7_28 a2 a3 a5 h2)) else (some ((0 : Int32), h))))
set_option maxRecDepth 4000 in
theorem mt_X11_number_0_7 {l : Launch} {D : va_G} {ad : Nat → Nat} {ac : Nat → ClassId} {h : Mm} {a1 : Int32} {a2 : Int32} {a3 : Int32} {a5 : Int32} {r : Int32} {h' : Mm} (hm : mX11_number_0_7 h a1 a2 a3 a5 = some (r, h')) : Mt l D ad ac LM [] yX11_number cX11_number 8 (some .boolean) 1 [.ref (ad 0), .int a1, .int a2, .int a3, .ref (ad 7), .int a5] h (some (.int r)) h' := by
  refine Mt.of (own := RX11) (by decide) rfl (Nat.le_of_ble_eq_true rfl) ?_
  intro p e s m below meth c ls X hH hl
  obtain ⟨hx, hb, hml, hown, hts, hr, hlk, hC, hI, hR⟩ := id X
  have hl : lv_has ls 8 [(0, .ref (ad 0)), (1, .int a1), (2, .int a2), (3, .int a3), (4, .ref (ad 7)), (5, .int a5)] := hl
  rw [mX11_number_0_7] at hm
  refine lv_iload_n hx hb dX11_number_0 rfl (lv_at hl 1 rfl) ?_
  refine lv_if_le hx hb dX11_number_1 (tgt := 28) (by decide) (fun hc => ?_) (fun hc => ?_)
  · rw [if_pos hc] at hm
    exact wX11_number_0_7_28 X a2 a3 a5 h _ _ _ hm hH (lv_sub hl [0, 2, 3, 4, 5] rfl)
  · rw [if_neg hc] at hm
    refine lv_aload_n hx hb dX11_number_4 rfl (lv_at hl 0 rfl) ?_
    refine lv_aload_n hx hb dX11_number_5 rfl (lv_at hl 0 rfl) ?_
    refine gI X hH fl_X11_101 lM_0 rfl dX11_number_6 ?_
    obtain ⟨v1, hq, hm⟩ := bd1_some hm
    refine cVi X hH kl_X11_104 kv_X11_byteAt (mt_X11_byteAt hq) lM_0 rfl rfl (by decide) hl.1 rfl (Nat.le_of_ble_eq_true rfl) dX11_number_9 (fun H locs hH => ?_)
    refine lv_iload_n hx hb dX11_number_12 rfl (lv_at hl 1 rfl) ?_
    refine lv_icmp_eq hx hb dX11_number_13 (tgt := 18) (by decide) (fun hc => ?_) (fun hc => ?_)
    · rw [if_pos hc] at hm
      refine lv_aload_n hx hb dX11_number_18 rfl (lv_at hl 0 rfl) ?_
      refine lv_dup hx hb dX11_number_19 rfl ?_
      refine gI X hH fl_X11_101 lM_0 rfl dX11_number_20 ?_
      refine lv_iconst (v := 1) hx hb dX11_number_23 (by decide) ?_
      refine lv_iadd hx hb dX11_number_24 ?_
      obtain ⟨h2, eh2, hm⟩ := mlet_some hm
      refine pI X hH fl_X11_101 fw_11_2 lM_0 rfl dX11_number_25 (fun H locs hH => ?_)
      rw [← eh2] at hH
      exact wX11_number_0_7_28 X a2 a3 a5 h2 _ _ _ hm hH (lv_sub hl [0, 2, 3, 4, 5] rfl)
    · rw [if_neg hc] at hm
      refine lv_iconst (v := 0) hx hb dX11_number_16 (by decide) ?_
      cases hm
      exact retZ X hH rfl dX11_number_17
