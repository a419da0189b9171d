/-! X11_fits -/
def mX11_fits_128 (h : Mm) (x4 : Int32) : Option Int32 := if x4 = 0 then (some (1 : Int32)) else (some (0 : Int32))
set_option maxRecDepth 4000 in
theorem wX11_fits_128 {p : Program} {l : Launch} {e : Env} {s : State} {m : MethodId} {args : Array Value} {below : List Frame} {meth : Method} {c : Code} {D : va_G} {ad : Nat → Nat} {ac : Nat → ClassId} {h : Mm} {r : Int32} (X : Fx p s m args meth c cX11_fits 5 RX11 (some .boolean) D ad ac LM []) : ∀ (x4 : Int32) (H : Heap) (locs : List Loc) (ls : Array Slot), mX11_fits_128 h x4 = some r → Hp D ad ac LM h s H locs → lv_has ls 5 [(4, .int x4)] → W p l e (rmD 0) s m args below meth c H locs 0 0 (MQ below (QU D ad ac LM (some (.int r)) h s.heap.size) args s 0 0 (Aa ad LM.length s.heap.size)) (F0 m 128 ls []) := by
  obtain ⟨hx, hb, hml, hown, hts, hr, hlk, hC, hI, hR⟩ := id X
  intro x4 H locs ls hm hH hl
  rw [mX11_fits_128] at hm
  refine lv_iload hx hb dX11_fits_128 (lv_at hl 0 rfl) ?_
  refine lv_if_ne hx hb dX11_fits_130 (tgt := 137) (by decide) (fun hc => ?_) (fun hc => ?_)
  · rw [if_neg hc] at hm
    refine lv_iconst (v := 0) hx hb dX11_fits_137 (by decide) ?_
    cases hm
    exact retZ X hH rfl dX11_fits_138
  · rw [if_pos hc] at hm
    refine lv_iconst (v := 1) hx hb dX11_fits_133 (by decide) ?_
    refine lv_goto hx hb dX11_fits_134 (tgt := 138) (by decide) ?_
    cases hm
    exact retZ X hH rfl dX11_fits_138
def mX11_fits_85 (h : Mm) (x1 : Int32) (x2 : Int32) (x3 : Int32) (t0 : Int32) : Option Int32 := gIn ((3 : Int32) * x2) 12 (gIn x1 24 (if (h 4 ((3 : Int32) * x2).toNatClampNeg) = (h 13 x1.toNatClampNeg) then (if x3 = (2 : Int32) then (mX11_fits_128 h t0) else (gIn x1 24 (gIn (((5 : Int32) * (h 12 x1.toNatClampNeg)) + (2 : Int32)) 20 (if x3 = (h 2 (((5 : Int32) * (h 12 x1.toNatClampNeg)) + (2 : Int32)).toNatClampNeg) then (mX11_fits_128 h t0) else (some (0 : Int32)))))) else (some (0 : Int32))))
set_option maxRecDepth 4000 in
theorem wX11_fits_85 {p : Program} {l : Launch} {e : Env} {s : State} {m : MethodId} {args : Array Value} {below : List Frame} {meth : Method} {c : Code} {D : va_G} {ad : Nat → Nat} {ac : Nat → ClassId} {h : Mm} {r : Int32} (X : Fx p s m args meth c cX11_fits 5 RX11 (some .boolean) D ad ac LM []) : ∀ (x1 : Int32) (x2 : Int32) (x3 : Int32) (t0 : Int32) (H : Heap) (locs : List Loc) (ls : Array Slot), mX11_fits_85 h x1 x2 x3 t0 = some r → Hp D ad ac LM h s H locs → lv_has ls 5 [(0, .ref (ad 0)), (1, .int x1), (2, .int x2), (3, .int x3)] → W p l e (rmD 0) s m args below meth c H locs 0 0 (MQ below (QU D ad ac LM (some (.int r)) h s.heap.size) args s 0 0 (Aa ad LM.length s.heap.size)) (F0 m 85 ls [.int t0]) := by
  obtain ⟨hx, hb, hml, hown, hts, hr, hlk, hC, hI, hR⟩ := id X
  intro x1 x2 x3 t0 H locs ls hm hH hl
  rw [mX11_fits_85] at hm
  refine lv_istore (lv' := [(4, .int t0), (0, .ref (ad 0)), (1, .int x1), (2, .int x2), (3, .int x3)]) hx hb dX11_fits_85 hl (by decide) rfl (fun ls hl => ?_)
  refine lv_aload_n hx hb dX11_fits_87 rfl (lv_at hl 1 rfl) ?_
  refine gR X hH fl_X11_19 lM_0 rfl dX11_fits_88 ?_
  refine lv_iconst (v := 3) hx hb dX11_fits_91 (by decide) ?_
  refine lv_iload_n hx hb dX11_fits_92 rfl (lv_at hl 3 rfl) ?_
  refine lv_imul hx hb dX11_fits_93 ?_
  obtain ⟨hin1, hm⟩ := gIn_some hm
  refine ild X hH lM_4 hin1 dX11_fits_94 ?_
  refine lv_aload_n hx hb dX11_fits_95 rfl (lv_at hl 1 rfl) ?_
  refine gR X hH fl_X11_46 lM_0 rfl dX11_fits_96 ?_
  refine lv_iload_n hx hb dX11_fits_99 rfl (lv_at hl 2 rfl) ?_
  obtain ⟨hin2, hm⟩ := gIn_some hm
  refine ild X hH lM_13 hin2 dX11_fits_100 ?_
  refine lv_icmp_ne hx hb dX11_fits_101 (tgt := 137) (by decide) (fun hc => ?_) (fun hc => ?_)
  · rw [if_neg hc] at hm
    refine lv_iconst (v := 0) hx hb dX11_fits_137 (by decide) ?_
    cases hm
    exact retZ X hH rfl dX11_fits_138
  · rw [if_pos hc] at hm
    refine lv_iload_n hx hb dX11_fits_104 rfl (lv_at hl 4 rfl) ?_
    refine lv_iconst (v := 2) hx hb dX11_fits_105 (by decide) ?_
    refine lv_icmp_eq hx hb dX11_fits_106 (tgt := 128) (by decide) (fun hc => ?_) (fun hc => ?_)
    · rw [if_pos hc] at hm
      exact wX11_fits_128 X t0 _ _ _ hm hH (lv_sub hl [0] rfl)
    · rw [if_neg hc] at hm
      refine lv_iload_n hx hb dX11_fits_109 rfl (lv_at hl 4 rfl) ?_
      refine lv_aload_n hx hb dX11_fits_110 rfl (lv_at hl 1 rfl) ?_
      refine gR X hH fl_X11_13 lM_0 rfl dX11_fits_111 ?_
      refine lv_iconst (v := 5) hx hb dX11_fits_114 (by decide) ?_
      refine lv_aload_n hx hb dX11_fits_115 rfl (lv_at hl 1 rfl) ?_
      refine gR X hH fl_X11_43 lM_0 rfl dX11_fits_116 ?_
      refine lv_iload_n hx hb dX11_fits_119 rfl (lv_at hl 2 rfl) ?_
      obtain ⟨hin3, hm⟩ := gIn_some hm
      refine ild X hH lM_12 hin3 dX11_fits_120 ?_
      refine lv_imul hx hb dX11_fits_121 ?_
      refine lv_iconst (v := 2) hx hb dX11_fits_122 (by decide) ?_
      refine lv_iadd hx hb dX11_fits_123 ?_
      obtain ⟨hin4, hm⟩ := gIn_some hm
      refine ild X hH lM_2 hin4 dX11_fits_124 ?_
      refine lv_icmp_ne hx hb dX11_fits_125 (tgt := 137) (by decide) (fun hc => ?_) (fun hc => ?_)
      · rw [if_neg hc] at hm
        refine lv_iconst (v := 0) hx hb dX11_fits_137 (by decide) ?_
        cases hm
        exact retZ X hH rfl dX11_fits_138
      · rw [if_pos hc] at hm
        exact wX11_fits_128 X t0 _ _ _ hm hH (lv_sub hl [0] rfl)
def mX11_fits_84 (h : Mm) (x1 : Int32) (x2 : Int32) (x3 : Int32) : Option Int32 := mX11_fits_85 h x1 x2 x3 (0 : Int32)
set_option maxRecDepth 4000 in
theorem wX11_fits_84 {p : Program} {l : Launch} {e : Env} {s : State} {m : MethodId} {args : Array Value} {below : List Frame} {meth : Method} {c : Code} {D : va_G} {ad : Nat → Nat} {ac : Nat → ClassId} {h : Mm} {r : Int32} (X : Fx p s m args meth c cX11_fits 5 RX11 (some .boolean) D ad ac LM []) : ∀ (x1 : Int32) (x2 : Int32) (x3 : Int32) (H : Heap) (locs : List Loc) (ls : Array Slot), mX11_fits_84 h x1 x2 x3 = some r → Hp D ad ac LM h s H locs → lv_has ls 5 [(0, .ref (ad 0)), (1, .int x1), (2, .int x2), (3, .int x3)] → W p l e (rmD 0) s m args below meth c H locs 0 0 (MQ below (QU D ad ac LM (some (.int r)) h s.heap.size) args s 0 0 (Aa ad LM.length s.heap.size)) (F0 m 84 ls []) := by
  obtain ⟨hx, hb, hml, hown, hts, hr, hlk, hC, hI, hR⟩ := id X
  intro x1 x2 x3 H locs ls hm hH hl
  rw [mX11_fits_84] at hm
  refine lv_iconst (v := 0) hx hb dX11_fits_84 (by decide) ?_
  exact wX11_fits_85 X x1 x2 x3 (0 : Int32) _ _ _ hm hH (lv_sub hl [0, 1, 2, 3] rfl)
def mX11_fits (h : Mm) (a1 : Int32) (a2 : Int32) : Option Int32 := gIn (((3 : Int32) * a2) + (1 : Int32)) 12 (mlet (h 4 (((3 : Int32) * a2) + (1 : Int32)).toNatClampNeg) (fun u2 => gIn ((24 : Int32) + ((2 : Int32) * a2)) 32 (gIn (((24 : Int32) + ((2 : Int32) * a2)) + (1 : Int32)) 32 (if (h 15 (((24 : Int32) + ((2 : Int32) * a2)) + (1 : Int32)).toNatClampNeg) < (h 15 ((24 : Int32) + ((2 : Int32) * a2)).toNatClampNeg) then (mX11_fits_84 h a1 a2 u2) else (gIn a1 24 (gIn (((24 : Int32) + ((2 : Int32) * a2)) + (1 : Int32)) 32 (if (h 15 (((24 : Int32) + ((2 : Int32) * a2)) + (1 : Int32)).toNatClampNeg) < (h 10 a1.toNatClampNeg) then (mX11_fits_84 h a1 a2 u2) else (gIn a1 24 (gIn ((24 : Int32) + ((2 : Int32) * a2)) 32 (if (h 11 a1.toNatClampNeg) < (h 15 ((24 : Int32) + ((2 : Int32) * a2)).toNatClampNeg) then (mX11_fits_84 h a1 a2 u2) else (mX11_fits_85 h a1 a2 u2 (1 : Int32))))))))))))
set_option maxRecDepth 4000 in
theorem mt_X11_fits {l : Launch} {D : va_G} {ad : Nat → Nat} {ac : Nat → ClassId} {h : Mm} {a1 : Int32} {a2 : Int32} {r : Int32} (hm : mX11_fits h a1 a2 = some r) : Mt l D ad ac LM [] yX11_fits cX11_fits 5 (some .boolean) 0 [.ref (ad 0), .int a1, .int a2] h (some (.int r)) h := by
  refine Mt.of (own := RX11) (by decide) rfl (Nat.le_of_ble_eq_true rfl) ?_
  intro p e s m below meth c ls X hH hl
  obtain ⟨hx, hb, hml, hown, hts, hr, hlk, hC, hI, hR⟩ := id X
  have hl : lv_has ls 5 [(0, .ref (ad 0)), (1, .int a1), (2, .int a2)] := hl
  rw [mX11_fits] at hm
  refine lv_aload_n hx hb dX11_fits_0 rfl (lv_at hl 0 rfl) ?_
  refine gR X hH fl_X11_19 lM_0 rfl dX11_fits_1 ?_
  refine lv_iconst (v := 3) hx hb dX11_fits_4 (by decide) ?_
  refine lv_iload_n hx hb dX11_fits_5 rfl (lv_at hl 2 rfl) ?_
  refine lv_imul hx hb dX11_fits_6 ?_
  refine lv_iconst (v := 1) hx hb dX11_fits_7 (by decide) ?_
  refine lv_iadd hx hb dX11_fits_8 ?_
  obtain ⟨hin1, hm⟩ := gIn_some hm
  refine ild X hH lM_4 hin1 dX11_fits_9 ?_
  obtain ⟨u2, eu2, hm⟩ := mlet_some hm
  refine W.eq (g2 := F0 m 10 ls (.int u2 :: [])) (by rw [eu2]) ?_
  refine lv_istore_n (lv' := [(3, .int u2), (0, .ref (ad 0)), (1, .int a1), (2, .int a2)]) hx hb dX11_fits_10 rfl hl (by decide) rfl (fun ls hl => ?_)
  refine lv_aload_n hx hb dX11_fits_11 rfl (lv_at hl 1 rfl) ?_
  refine gR X hH fl_X11_52 lM_0 rfl dX11_fits_12 ?_
  refine lv_bipush (v := 24) hx hb dX11_fits_15 (by decide) ?_
  refine lv_iconst (v := 2) hx hb dX11_fits_17 (by decide) ?_
  refine lv_iload_n hx hb dX11_fits_18 rfl (lv_at hl 3 rfl) ?_
  refine lv_imul hx hb dX11_fits_19 ?_
  refine lv_iadd hx hb dX11_fits_20 ?_
  obtain ⟨hin3, hm⟩ := gIn_some hm
  refine ild X hH lM_15 hin3 dX11_fits_21 ?_
  refine lv_aload_n hx hb dX11_fits_22 rfl (lv_at hl 1 rfl) ?_
  refine gR X hH fl_X11_52 lM_0 rfl dX11_fits_23 ?_
  refine lv_bipush (v := 24) hx hb dX11_fits_26 (by decide) ?_
  refine lv_iconst (v := 2) hx hb dX11_fits_28 (by decide) ?_
  refine lv_iload_n hx hb dX11_fits_29 rfl (lv_at hl 3 rfl) ?_
  refine lv_imul hx hb dX11_fits_30 ?_
  refine lv_iadd hx hb dX11_fits_31 ?_
  refine lv_iconst (v := 1) hx hb dX11_fits_32 (by decide) ?_
  refine lv_iadd hx hb dX11_fits_33 ?_
  obtain ⟨hin4, hm⟩ := gIn_some hm
  refine ild X hH lM_15 hin4 dX11_fits_34 ?_
  refine lv_icmp_gt hx hb dX11_fits_35 (tgt := 84) (by decide) (fun hc => ?_) (fun hc => ?_)
  · rw [if_pos hc] at hm
    exact wX11_fits_84 X a1 a2 u2 _ _ _ hm hH (lv_sub hl [1, 2, 3, 0] rfl)
  · rw [if_neg hc] at hm
    refine lv_aload_n hx hb dX11_fits_38 rfl (lv_at hl 1 rfl) ?_
    refine gR X hH fl_X11_37 lM_0 rfl dX11_fits_39 ?_
    refine lv_iload_n hx hb dX11_fits_42 rfl (lv_at hl 2 rfl) ?_
    obtain ⟨hin5, hm⟩ := gIn_some hm
    refine ild X hH lM_10 hin5 dX11_fits_43 ?_
    refine lv_aload_n hx hb dX11_fits_44 rfl (lv_at hl 1 rfl) ?_
    refine gR X hH fl_X11_52 lM_0 rfl dX11_fits_45 ?_
    refine lv_bipush (v := 24) hx hb dX11_fits_48 (by decide) ?_
    refine lv_iconst (v := 2) hx hb dX11_fits_50 (by decide) ?_
    refine lv_iload_n hx hb dX11_fits_51 rfl (lv_at hl 3 rfl) ?_
    refine lv_imul hx hb dX11_fits_52 ?_
    refine lv_iadd hx hb dX11_fits_53 ?_
    refine lv_iconst (v := 1) hx hb dX11_fits_54 (by decide) ?_
    refine lv_iadd hx hb dX11_fits_55 ?_
    obtain ⟨hin6, hm⟩ := gIn_some hm
    refine ild X hH lM_15 hin6 dX11_fits_56 ?_
    refine lv_icmp_gt hx hb dX11_fits_57 (tgt := 84) (by decide) (fun hc => ?_) (fun hc => ?_)
    · rw [if_pos hc] at hm
      exact wX11_fits_84 X a1 a2 u2 _ _ _ hm hH (lv_sub hl [1, 2, 3, 0] rfl)
    · rw [if_neg hc] at hm
      refine lv_aload_n hx hb dX11_fits_60 rfl (lv_at hl 1 rfl) ?_
      refine gR X hH fl_X11_40 lM_0 rfl dX11_fits_61 ?_
      refine lv_iload_n hx hb dX11_fits_64 rfl (lv_at hl 2 rfl) ?_
      obtain ⟨hin7, hm⟩ := gIn_some hm
      refine ild X hH lM_11 hin7 dX11_fits_65 ?_
      refine lv_aload_n hx hb dX11_fits_66 rfl (lv_at hl 1 rfl) ?_
      refine gR X hH fl_X11_52 lM_0 rfl dX11_fits_67 ?_
      refine lv_bipush (v := 24) hx hb dX11_fits_70 (by decide) ?_
      refine lv_iconst (v := 2) hx hb dX11_fits_72 (by decide) ?_
      refine lv_iload_n hx hb dX11_fits_73 rfl (lv_at hl 3 rfl) ?_
      refine lv_imul hx hb dX11_fits_74 ?_
      refine lv_iadd hx hb dX11_fits_75 ?_
      obtain ⟨hin8, hm⟩ := gIn_some hm
      refine ild X hH lM_15 hin8 dX11_fits_76 ?_
      refine lv_icmp_lt hx hb dX11_fits_77 (tgt := 84) (by decide) (fun hc => ?_) (fun hc => ?_)
      · rw [if_pos hc] at hm
        exact wX11_fits_84 X a1 a2 u2 _ _ _ hm hH (lv_sub hl [1, 2, 3, 0] rfl)
      · rw [if_neg hc] at hm
        refine lv_iconst (v := 1) hx hb dX11_fits_80 (by decide) ?_
        refine lv_goto hx hb dX11_fits_81 (tgt := 85) (by decide) ?_
        exact wX11_fits_85 X a1 a2 u2 (1 : Int32) _ _ _ hm hH (lv_sub hl [1, 2, 3, 0] rfl)
/-! X11_together -/
def mX11_together_48 (h : Mm) : Option Int32 := some (1 : Int32)
set_option maxRecDepth 4000 in
theorem wX11_together_48 {p : Program} {l : Launch} {e : Env} {s : State} {m : MethodId} {args : Array Value} {below : List Frame} {meth : Method} {c : Code} {D : va_G} {ad : Nat → Nat} {ac : Nat → ClassId} {h : Mm} {r : Int32} (X : Fx p s m args meth c cX11_together 5 RX11 (some .boolean) D ad ac LM []) : ∀ (H : Heap) (locs : List Loc) (ls : Array Slot), mX11_together_48 h = some r → Hp D ad ac LM h s H locs → lv_has ls 5 [] → W p l e (rmD 0) s m args below meth c H locs 0 0 (MQ below (QU D ad ac LM (some (.int r)) h s.heap.size) args s 0 0 (Aa ad LM.length s.heap.size)) (F0 m 48 ls []) := by
  obtain ⟨hx, hb, hml, hown, hts, hr, hlk, hC, hI, hR⟩ := id X
  intro  H locs ls hm hH hl
  rw [mX11_together_48] at hm
  refine lv_iconst (v := 1) hx hb dX11_together_48 (by decide) ?_
  refine lv_goto hx hb dX11_together_49 (tgt := 53) (by decide) ?_
  cases hm
  exact retZ X hH rfl dX11_together_53
def mX11_together (h : Mm) (a1 : Int32) (a2 : Int32) (a3 : Int32) : Option Int32 := gIn (((3 : Int32) * a3) + (2 : Int32)) 12 (mlet (h 4 (((3 : Int32) * a3) + (2 : Int32)).toNatClampNeg) (fun u2 => gIn a2 24 (gIn a1 24 (if u2 < ((h 10 a2.toNatClampNeg) - (h 11 a1.toNatClampNeg)) then (mX11_together_48 h ) else (gIn a1 24 (gIn a2 24 (if ((h 10 a1.toNatClampNeg) - (h 11 a2.toNatClampNeg)) ≤ u2 then (some (0 : Int32)) else (mX11_together_48 h ))))))))
set_option maxRecDepth 4000 in
theorem mt_X11_together {l : Launch} {D : va_G} {ad : Nat → Nat} {ac : Nat → ClassId} {h : Mm} {a1 : Int32} {a2 : Int32} {a3 : Int32} {r : Int32} (hm : mX11_together h a1 a2 a3 = some r) : Mt l D ad ac LM [] yX11_together cX11_together 5 (some .boolean) 0 [.ref (ad 0), .int a1, .int a2, .int a3] h (some (.int r)) h := by
  refine Mt.of (own := RX11) (by decide) rfl (Nat.le_of_ble_eq_true rfl) ?_
  intro p e s m below meth c ls X hH hl
  obtain ⟨hx, hb, hml, hown, hts, hr, hlk, hC, hI, hR⟩ := id X
  have hl : lv_has ls 5 [(0, .ref (ad 0)), (1, .int a1), (2, .int a2), (3, .int a3)] := hl
  rw [mX11_together] at hm
  refine lv_aload_n hx hb dX11_together_0 rfl (lv_at hl 0 rfl) ?_
  refine gR X hH fl_X11_19 lM_0 rfl dX11_together_1 ?_
  refine lv_iconst (v := 3) hx hb dX11_together_4 (by decide) ?_
  refine lv_iload_n hx hb dX11_together_5 rfl (lv_at hl 3 rfl) ?_
  refine lv_imul hx hb dX11_together_6 ?_
  refine lv_iconst (v := 2) hx hb dX11_together_7 (by decide) ?_
  refine lv_iadd hx hb dX11_together_8 ?_
  obtain ⟨hin1, hm⟩ := gIn_some hm
  refine ild X hH lM_4 hin1 dX11_together_9 ?_
  obtain ⟨u2, eu2, hm⟩ := mlet_some hm
  refine W.eq (g2 := F0 m 10 ls (.int u2 :: [])) (by rw [eu2]) ?_
  refine lv_istore (lv' := [(4, .int u2), (0, .ref (ad 0)), (1, .int a1), (2, .int a2), (3, .int a3)]) hx hb dX11_together_10 hl (by decide) rfl (fun ls hl => ?_)
  refine lv_aload_n hx hb dX11_together_12 rfl (lv_at hl 1 rfl) ?_
  refine gR X hH fl_X11_37 lM_0 rfl dX11_together_13 ?_
  refine lv_iload_n hx hb dX11_together_16 rfl (lv_at hl 3 rfl) ?_
  obtain ⟨hin3, hm⟩ := gIn_some hm
  refine ild X hH lM_10 hin3 dX11_together_17 ?_
  refine lv_aload_n hx hb dX11_together_18 rfl (lv_at hl 1 rfl) ?_
  refine gR X hH fl_X11_40 lM_0 rfl dX11_together_19 ?_
  refine lv_iload_n hx hb dX11_together_22 rfl (lv_at hl 2 rfl) ?_
  obtain ⟨hin4, hm⟩ := gIn_some hm
  refine ild X hH lM_11 hin4 dX11_together_23 ?_
  refine lv_isub hx hb dX11_together_24 ?_
  refine lv_iload hx hb dX11_together_25 (lv_at hl 0 rfl) ?_
  refine lv_icmp_gt hx hb dX11_together_27 (tgt := 48) (by decide) (fun hc => ?_) (fun hc => ?_)
  · rw [if_pos hc] at hm
    exact wX11_together_48 X  _ _ _ hm hH (lv_sub hl [] rfl)
  · rw [if_neg hc] at hm
    refine lv_aload_n hx hb dX11_together_30 rfl (lv_at hl 1 rfl) ?_
    refine gR X hH fl_X11_37 lM_0 rfl dX11_together_31 ?_
    refine lv_iload_n hx hb dX11_together_34 rfl (lv_at hl 2 rfl) ?_
    obtain ⟨hin5, hm⟩ := gIn_some hm
    refine ild X hH lM_10 hin5 dX11_together_35 ?_
    refine lv_aload_n hx hb dX11_together_36 rfl (lv_at hl 1 rfl) ?_
    refine gR X hH fl_X11_40 lM_0 rfl dX11_together_37 ?_
    refine lv_iload_n hx hb dX11_together_40 rfl (lv_at hl 3 rfl) ?_
    obtain ⟨hin6, hm⟩ := gIn_some hm
    refine ild X hH lM_11 hin6 dX11_together_41 ?_
    refine lv_isub hx hb dX11_together_42 ?_
    refine lv_iload hx hb dX11_together_43 (lv_at hl 0 rfl) ?_
    refine lv_icmp_le hx hb dX11_together_45 (tgt := 52) (by decide) (fun hc => ?_) (fun hc => ?_)
    · rw [if_pos hc] at hm
      refine lv_iconst (v := 0) hx hb dX11_together_52 (by decide) ?_
      cases hm
      exact retZ X hH rfl dX11_together_53
    · rw [if_neg hc] at hm
      exact wX11_together_48 X  _ _ _ hm hH (lv_sub hl [] rfl)
/-! X11_overlap -/
def mX11_overlap (h : Mm) (a1 : Int32) (a2 : Int32) : Option Int32 := gIn a1 24 (gIn a2 24 (if (h 11 a2.toNatClampNeg) < (h 10 a1.toNatClampNeg) then (some (0 : Int32)) else (gIn a2 24 (gIn a1 24 (if (h 11 a1.toNatClampNeg) < (h 10 a2.toNatClampNeg) then (some (0 : Int32)) else (some (1 : Int32)))))))
set_option maxRecDepth 4000 in
theorem mt_X11_overlap {l : Launch} {D : va_G} {ad : Nat → Nat} {ac : Nat → ClassId} {h : Mm} {a1 : Int32} {a2 : Int32} {r : Int32} (hm : mX11_overlap h a1 a2 = some r) : Mt l D ad ac LM [] yX11_overlap cX11_overlap 3 (some .boolean) 0 [.ref (ad 0), .int a1, .int a2] h (some (.int r)) h := by
  refine Mt.of (own := RX11) (by decide) rfl (Nat.le_of_ble_eq_true rfl) ?_
  intro p e s m below meth c ls X hH hl
  obtain ⟨hx, hb, hml, hown, hts, hr, hlk, hC, hI, hR⟩ := id X
  have hl : lv_has ls 3 [(0, .ref (ad 0)), (1, .int a1), (2, .int a2)] := hl
  rw [mX11_overlap] at hm
  refine lv_aload_n hx hb dX11_overlap_0 rfl (lv_at hl 0 rfl) ?_
  refine gR X hH fl_X11_37 lM_0 rfl dX11_overlap_1 ?_
  refine lv_iload_n hx hb dX11_overlap_4 rfl (lv_at hl 1 rfl) ?_
  obtain ⟨hin1, hm⟩ := gIn_some hm
  refine ild X hH lM_10 hin1 dX11_overlap_5 ?_
  refine lv_aload_n hx hb dX11_overlap_6 rfl (lv_at hl 0 rfl) ?_
  refine gR X hH fl_X11_40 lM_0 rfl dX11_overlap_7 ?_
  refine lv_iload_n hx hb dX11_overlap_10 rfl (lv_at hl 2 rfl) ?_
  obtain ⟨hin2, hm⟩ := gIn_some hm
  refine ild X hH lM_11 hin2 dX11_overlap_11 ?_
  refine lv_icmp_gt hx hb dX11_overlap_12 (tgt := 34) (by decide) (fun hc => ?_) (fun hc => ?_)
  · rw [if_pos hc] at hm
    refine lv_iconst (v := 0) hx hb dX11_overlap_34 (by decide) ?_
    cases hm
    exact retZ X hH rfl dX11_overlap_35
  · rw [if_neg hc] at hm
    refine lv_aload_n hx hb dX11_overlap_15 rfl (lv_at hl 0 rfl) ?_
    refine gR X hH fl_X11_37 lM_0 rfl dX11_overlap_16 ?_
    refine lv_iload_n hx hb dX11_overlap_19 rfl (lv_at hl 2 rfl) ?_
    obtain ⟨hin3, hm⟩ := gIn_some hm
    refine ild X hH lM_10 hin3 dX11_overlap_20 ?_
    refine lv_aload_n hx hb dX11_overlap_21 rfl (lv_at hl 0 rfl) ?_
    refine gR X hH fl_X11_40 lM_0 rfl dX11_overlap_22 ?_
    refine lv_iload_n hx hb dX11_overlap_25 rfl (lv_at hl 1 rfl) ?_
    obtain ⟨hin4, hm⟩ := gIn_some hm
    refine ild X hH lM_11 hin4 dX11_overlap_26 ?_
    refine lv_icmp_gt hx hb dX11_overlap_27 (tgt := 34) (by decide) (fun hc => ?_) (fun hc => ?_)
    · rw [if_pos hc] at hm
      refine lv_iconst (v := 0) hx hb dX11_overlap_34 (by decide) ?_
      cases hm
      exact retZ X hH rfl dX11_overlap_35
    · rw [if_neg hc] at hm
      refine lv_iconst (v := 1) hx hb dX11_overlap_30 (by decide) ?_
      refine lv_goto hx hb dX11_overlap_31 (tgt := 35) (by decide) ?_
      cases hm
      exact retZ X hH rfl dX11_overlap_35
/-! X11_isWay -/
def mX11_isWay_162 (h : Mm) (k2 : Int32 → Int32 → Int32 → Option Int32) (x1 : Int32) (x2 : Int32) (x3 : Int32) : Option Int32 := k2 x1 x2 (x3 + 1)
set_option maxRecDepth 4000 in
theorem wX11_isWay_162 {p : Program} {l : Launch} {e : Env} {s : State} {m : MethodId} {args : Array Value} {below : List Frame} {meth : Method} {c : Code} {D : va_G} {ad : Nat → Nat} {ac : Nat → ClassId} {h : Mm} {r : Int32} (X : Fx p s m args meth c cX11_isWay 7 RX11 (some .boolean) D ad ac LM []) {k2 : Int32 → Int32 → Int32 → Option Int32} (ih2 : ∀ (x1 : Int32) (x2 : Int32) (x3 : Int32) (H : Heap) (locs : List Loc) (ls : Array Slot), k2 x1 x2 x3 = some r → Hp D ad ac LM h s H locs → lv_has ls 7 [(0, .ref (ad 0)), (1, .int x1), (2, .int x2), (3, .int x3)] → W p l e (rmD 1) s m args below meth c H locs 0 0 (MQ below (QU D ad ac LM (some (.int r)) h s.heap.size) args s 0 0 (Aa ad LM.length s.heap.size)) (F0 m 2 ls [])) : ∀ (x1 : Int32) (x2 : Int32) (x3 : Int32) (H : Heap) (locs : List Loc) (ls : Array Slot), mX11_isWay_162 h k2 x1 x2 x3 = some r → Hp D ad ac LM h s H locs → lv_has ls 7 [(0, .ref (ad 0)), (1, .int x1), (2, .int x2), (3, .int x3)] → W p l e (rmD 1) s m args below meth c H locs 0 0 (MQ below (QU D ad ac LM (some (.int r)) h s.heap.size) args s 0 0 (Aa ad LM.length s.heap.size)) (F0 m 162 ls []) := by
  obtain ⟨hx, hb, hml, hown, hts, hr, hlk, hC, hI, hR⟩ := id X
  intro x1 x2 x3 H locs ls hm hH hl
  rw [mX11_isWay_162] at hm
  refine lv_iinc (k := 3) (v := (x3 + 1)) (lv' := [(3, .int (x3 + 1)), (0, .ref (ad 0)), (1, .int x1), (2, .int x2)]) hx hb dX11_isWay_162 hl rfl rfl (by decide) rfl (fun ls hl => ?_)
  refine lv_goto hx hb dX11_isWay_165 (tgt := 2) (by decide) ?_
  exact ih2 x1 x2 (x3 + 1) _ _ _ hm hH (lv_sub hl [1, 2, 3, 0] rfl)
def mX11_isWay_142 (h : Mm) (k2 : Int32 → Int32 → Int32 → Option Int32) (k39 : Int32 → Int32 → Int32 → Int32 → Option Int32) (x1 : Int32) (x2 : Int32) (x3 : Int32) (x4 : Int32) (x5 : Int32) (t0 : Int32) : Option Int32 := if x5 = 0 then (if t0 = 0 then (k39 x1 x2 x3 (x4 + 1)) else (some (0 : Int32))) else (some (0 : Int32))
set_option maxRecDepth 4000 in
theorem wX11_isWay_142 {p : Program} {l : Launch} {e : Env} {s : State} {m : MethodId} {args : Array Value} {below : List Frame} {meth : Method} {c : Code} {D : va_G} {ad : Nat → Nat} {ac : Nat → ClassId} {h : Mm} {r : Int32} (X : Fx p s m args meth c cX11_isWay 7 RX11 (some .boolean) D ad ac LM []) {k2 : Int32 → Int32 → Int32 → Option Int32} {k39 : Int32 → Int32 → Int32 → Int32 → Option Int32} (ih2 : ∀ (x1 : Int32) (x2 : Int32) (x3 : Int32) (H : Heap) (locs : List Loc) (ls : Array Slot), k2 x1 x2 x3 = some r → Hp D ad ac LM h s H locs → lv_has ls 7 [(0, .ref (ad 0)), (1, .int x1), (2, .int x2), (3, .int x3)] → W p l e (rmD 1) s m args below meth c H locs 0 0 (MQ below (QU D ad ac LM (some (.int r)) h s.heap.size) args s 0 0 (Aa ad LM.length s.heap.size)) (F0 m 2 ls [])) (ih39 : ∀ (x1 : Int32) (x2 : Int32) (x3 : Int32) (x4 : Int32) (H : Heap) (locs : List Loc) (ls : Array Slot), k39 x1 x2 x3 x4 = some r → Hp D ad ac LM h s H locs → lv_has ls 7 [(0, .ref (ad 0)), (1, .int x1), (2, .int x2), (3, .int x3), (4, .int x4)] → W p l e (rmD 1) s m args below meth c H locs 0 0 (MQ below (QU D ad ac LM (some (.int r)) h s.heap.size) args s 0 0 (Aa ad LM.length s.heap.size)) (F0 m 39 ls [])) : ∀ (x1 : Int32) (x2 : Int32) (x3 : Int32) (x4 : Int32) (x5 : Int32) (t0 : Int32) (H : Heap) (locs : List Loc) (ls : Array Slot), mX11_isWay_142 h k2 k39 x1 x2 x3 x4 x5 t0 = some r → Hp D ad ac LM h s H locs → lv_has ls 7 [(0, .ref (ad 0)), (1, .int x1), (2, .int x2), (3, .int x3), (4, .int x4), (5, .int x5)] → W p l e (rmD 1) s m args below meth c H locs 0 0 (MQ below (QU D ad ac LM (some (.int r)) h s.heap.size) args s 0 0 (Aa ad LM.length s.heap.size)) (F0 m 142 ls [.int t0]) := by
  obtain ⟨hx, hb, hml, hown, hts, hr, hlk, hC, hI, hR⟩ := id X
  intro x1 x2 x3 x4 x5 t0 H locs ls hm hH hl
  rw [mX11_isWay_142] at hm
  refine lv_istore (lv' := [(6, .int t0), (0, .ref (ad 0)), (1, .int x1), (2, .int x2), (3, .int x3), (4, .int x4), (5, .int x5)]) hx hb dX11_isWay_142 hl (by decide) rfl (fun ls hl => ?_)
  refine lv_iload hx hb dX11_isWay_144 (lv_at hl 6 rfl) ?_
  refine lv_if_ne hx hb dX11_isWay_146 (tgt := 154) (by decide) (fun hc => ?_) (fun hc => ?_)
  · rw [if_neg hc] at hm
    refine lv_iconst (v := 0) hx hb dX11_isWay_154 (by decide) ?_
    cases hm
    exact retZ X hH rfl dX11_isWay_155
  · rw [if_pos hc] at hm
    refine lv_iload hx hb dX11_isWay_149 (lv_at hl 0 rfl) ?_
    refine lv_if_eq hx hb dX11_isWay_151 (tgt := 156) (by decide) (fun hc => ?_) (fun hc => ?_)
    · rw [if_pos hc] at hm
      refine lv_iinc (k := 5) (v := (x4 + 1)) (lv' := [(4, .int (x4 + 1)), (6, .int t0), (0, .ref (ad 0)), (1, .int x1), (2, .int x2), (3, .int x3), (5, .int x5)]) hx hb dX11_isWay_156 hl rfl rfl (by decide) rfl (fun ls hl => ?_)
      refine lv_goto hx hb dX11_isWay_159 (tgt := 39) (by decide) ?_
      exact ih39 x1 x2 x3 (x4 + 1) _ _ _ hm hH (lv_sub hl [2, 3, 4, 5, 0] rfl)
    · rw [if_neg hc] at hm
      refine lv_iconst (v := 0) hx hb dX11_isWay_154 (by decide) ?_
      cases hm
      exact retZ X hH rfl dX11_isWay_155
def mX11_isWay_141 (h : Mm) (k2 : Int32 → Int32 → Int32 → Option Int32) (k39 : Int32 → Int32 → Int32 → Int32 → Option Int32) (x1 : Int32) (x2 : Int32) (x3 : Int32) (x4 : Int32) (x5 : Int32) : Option Int32 := mX11_isWay_142 h k2 k39 x1 x2 x3 x4 x5 (0 : Int32)
set_option maxRecDepth 4000 in
theorem wX11_isWay_141 {p : Program} {l : Launch} {e : Env} {s : State} {m : MethodId} {args : Array Value} {below : List Frame} {meth : Method} {c : Code} {D : va_G} {ad : Nat → Nat} {ac : Nat → ClassId} {h : Mm} {r : Int32} (X : Fx p s m args meth c cX11_isWay 7 RX11 (some .boolean) D ad ac LM []) {k2 : Int32 → Int32 → Int32 → Option Int32} {k39 : Int32 → Int32 → Int32 → Int32 → Option Int32} (ih2 : ∀ (x1 : Int32) (x2 : Int32) (x3 : Int32) (H : Heap) (locs : List Loc) (ls : Array Slot), k2 x1 x2 x3 = some r → Hp D ad ac LM h s H locs → lv_has ls 7 [(0, .ref (ad 0)), (1, .int x1), (2, .int x2), (3, .int x3)] → W p l e (rmD 1) s m args below meth c H locs 0 0 (MQ below (QU D ad ac LM (some (.int r)) h s.heap.size) args s 0 0 (Aa ad LM.length s.heap.size)) (F0 m 2 ls [])) (ih39 : ∀ (x1 : Int32) (x2 : Int32) (x3 : Int32) (x4 : Int32) (H : Heap) (locs : List Loc) (ls : Array Slot), k39 x1 x2 x3 x4 = some r → Hp D ad ac LM h s H locs → lv_has ls 7 [(0, .ref (ad 0)), (1, .int x1), (2, .int x2), (3, .int x3), (4, .int x4)] → W p l e (rmD 1) s m args below meth c H locs 0 0 (MQ below (QU D ad ac LM (some (.int r)) h s.heap.size) args s 0 0 (Aa ad LM.length s.heap.size)) (F0 m 39 ls [])) : ∀ (x1 : Int32) (x2 : Int32) (x3 : Int32) (x4 : Int32) (x5 : Int32) (H : Heap) (locs : List Loc) (ls : Array Slot), mX11_isWay_141 h k2 k39 x1 x2 x3 x4 x5 = some r → Hp D ad ac LM h s H locs → lv_has ls 7 [(0, .ref (ad 0)), (1, .int x1), (2, .int x2), (3, .int x3), (4, .int x4), (5, .int x5)] → W p l e (rmD 1) s m args below meth c H locs 0 0 (MQ below (QU D ad ac LM (some (.int r)) h s.heap.size) args s 0 0 (Aa ad LM.length s.heap.size)) (F0 m 141 ls []) := by
  obtain ⟨hx, hb, hml, hown, hts, hr, hlk, hC, hI, hR⟩ := id X
  intro x1 x2 x3 x4 x5 H locs ls hm hH hl
  rw [mX11_isWay_141] at hm
  refine lv_iconst (v := 0) hx hb dX11_isWay_141 (by decide) ?_
  exact wX11_isWay_142 X ih2 ih39 x1 x2 x3 x4 x5 (0 : Int32) _ _ _ hm hH (lv_sub hl [0, 1, 2, 3, 4, 5] rfl)
def mX11_isWay_91 (h : Mm) (k2 : Int32 → Int32 → Int32 → Option Int32) (k39 : Int32 → Int32 → Int32 → Int32 → Option Int32) (x1 : Int32) (x2 : Int32) (x3 : Int32) (x4 : Int32) (t0 : Int32) : Option Int32 := if x4 = x3 then (mX11_isWay_141 h k2 k39 x1 x2 x3 x4 t0) else (gIn x4 24 (if (h 20 x4.toNatClampNeg) = (-4 : Int32) then (mX11_isWay_141 h k2 k39 x1 x2 x3 x4 t0) else (gIn x4 24 (gIn x3 24 (if (h 12 x4.toNatClampNeg) = (h 12 x3.toNatClampNeg) then (bd1 (mX11_overlap h x4 x3) (fun v4 => if v4 = 0 then (mX11_isWay_141 h k2 k39 x1 x2 x3 x4 t0) else (mX11_isWay_142 h k2 k39 x1 x2 x3 x4 t0 (1 : Int32)))) else (mX11_isWay_141 h k2 k39 x1 x2 x3 x4 t0))))))
set_option maxRecDepth 4000 in
theorem wX11_isWay_91 {p : Program} {l : Launch} {e : Env} {s : State} {m : MethodId} {args : Array Value} {below : List Frame} {meth : Method} {c : Code} {D : va_G} {ad : Nat → Nat} {ac : Nat → ClassId} {h : Mm} {r : Int32} (X : Fx p s m args meth c cX11_isWay 7 RX11 (some .boolean) D ad ac LM []) {k2 : Int32 → Int32 → Int32 → Option Int32} {k39 : Int32 → Int32 → Int32 → Int32 → Option Int32} (ih2 : ∀ (x1 : Int32) (x2 : Int32) (x3 : Int32) (H : Heap) (locs : List Loc) (ls : Array Slot), k2 x1 x2 x3 = some r → Hp D ad ac LM h s H locs → lv_has ls 7 [(0, .ref (ad 0)), (1, .int x1), (2, .int x2), (3, .int x3)] → W p l e (rmD 1) s m args below meth c H locs 0 0 (MQ below (QU D ad ac LM (some (.int r)) h s.heap.size) args s 0 0 (Aa ad LM.length s.heap.size)) (F0 m 2 ls [])) (ih39 : ∀ (x1 : Int32) (x2 : Int32) (x3 : Int32) (x4 : Int32) (H : Heap) (locs : List Loc) (ls : Array Slot), k39 x1 x2 x3 x4 = some r → Hp D ad ac LM h s H locs → lv_has ls 7 [(0, .ref (ad 0)), (1, .int x1), (2, .int x2), (3, .int x3), (4, .int x4)] → W p l e (rmD 1) s m args below meth c H locs 0 0 (MQ below (QU D ad ac LM (some (.int r)) h s.heap.size) args s 0 0 (Aa ad LM.length s.heap.size)) (F0 m 39 ls [])) : ∀ (x1 : Int32) (x2 : Int32) (x3 : Int32) (x4 : Int32) (t0 : Int32) (H : Heap) (locs : List Loc) (ls : Array Slot), mX11_isWay_91 h k2 k39 x1 x2 x3 x4 t0 = some r → Hp D ad ac LM h s H locs → lv_has ls 7 [(0, .ref (ad 0)), (1, .int x1), (2, .int x2), (3, .int x3), (4, .int x4)] → W p l e (rmD 1) s m args below meth c H locs 0 0 (MQ below (QU D ad ac LM (some (.int r)) h s.heap.size) args s 0 0 (Aa ad LM.length s.heap.size)) (F0 m 91 ls [.int t0]) := by
  obtain ⟨hx, hb, hml, hown, hts, hr, hlk, hC, hI, hR⟩ := id X
  intro x1 x2 x3 x4 t0 H locs ls hm hH hl
  rw [mX11_isWay_91] at hm
  refine lv_istore (lv' := [(5, .int t0), (0, .ref (ad 0)), (1, .int x1), (2, .int x2), (3, .int x3), (4, .int x4)]) hx hb dX11_isWay_91 hl (by decide) rfl (fun ls hl => ?_)
  refine lv_iload hx hb dX11_isWay_93 (lv_at hl 5 rfl) ?_
  refine lv_iload_n hx hb dX11_isWay_95 rfl (lv_at hl 4 rfl) ?_
  refine lv_icmp_eq hx hb dX11_isWay_96 (tgt := 141) (by decide) (fun hc => ?_) (fun hc => ?_)
  · rw [if_pos hc] at hm
    exact wX11_isWay_141 X ih2 ih39 x1 x2 x3 x4 t0 _ _ _ hm hH (lv_sub hl [1, 2, 3, 4, 5, 0] rfl)
  · rw [if_neg hc] at hm
    refine lv_aload_n hx hb dX11_isWay_99 rfl (lv_at hl 1 rfl) ?_
    refine gR X hH fl_X11_67 lM_0 rfl dX11_isWay_100 ?_
    refine lv_iload hx hb dX11_isWay_103 (lv_at hl 5 rfl) ?_
    obtain ⟨hin1, hm⟩ := gIn_some hm
    refine ild X hH lM_20 hin1 dX11_isWay_105 ?_
    refine lv_bipush (v := (-4)) hx hb dX11_isWay_106 (by decide) ?_
    refine lv_icmp_eq hx hb dX11_isWay_108 (tgt := 141) (by decide) (fun hc => ?_) (fun hc => ?_)
    · rw [if_pos hc] at hm
      exact wX11_isWay_141 X ih2 ih39 x1 x2 x3 x4 t0 _ _ _ hm hH (lv_sub hl [1, 2, 3, 4, 5, 0] rfl)
    · rw [if_neg hc] at hm
      refine lv_aload_n hx hb dX11_isWay_111 rfl (lv_at hl 1 rfl) ?_
      refine gR X hH fl_X11_43 lM_0 rfl dX11_isWay_112 ?_
      refine lv_iload hx hb dX11_isWay_115 (lv_at hl 5 rfl) ?_
      obtain ⟨hin2, hm⟩ := gIn_some hm
      refine ild X hH lM_12 hin2 dX11_isWay_117 ?_
      refine lv_aload_n hx hb dX11_isWay_118 rfl (lv_at hl 1 rfl) ?_
      refine gR X hH fl_X11_43 lM_0 rfl dX11_isWay_119 ?_
      refine lv_iload_n hx hb dX11_isWay_122 rfl (lv_at hl 4 rfl) ?_
      obtain ⟨hin3, hm⟩ := gIn_some hm
      refine ild X hH lM_12 hin3 dX11_isWay_123 ?_
      refine lv_icmp_ne hx hb dX11_isWay_124 (tgt := 141) (by decide) (fun hc => ?_) (fun hc => ?_)
      · rw [if_neg hc] at hm
        exact wX11_isWay_141 X ih2 ih39 x1 x2 x3 x4 t0 _ _ _ hm hH (lv_sub hl [1, 2, 3, 4, 5, 0] rfl)
      · rw [if_pos hc] at hm
        refine lv_aload_n hx hb dX11_isWay_127 rfl (lv_at hl 1 rfl) ?_
        refine lv_iload hx hb dX11_isWay_128 (lv_at hl 5 rfl) ?_
        refine lv_iload_n hx hb dX11_isWay_130 rfl (lv_at hl 4 rfl) ?_
        obtain ⟨v4, hq, hm⟩ := bd1_some hm
        refine cVi X hH kl_X11_162 kv_X11_overlap (mt_X11_overlap hq) lM_0 rfl rfl (by decide) hl.1 rfl (Nat.le_of_ble_eq_true rfl) dX11_isWay_131 (fun H locs hH => ?_)
        refine lv_if_eq hx hb dX11_isWay_134 (tgt := 141) (by decide) (fun hc => ?_) (fun hc => ?_)
        · rw [if_pos hc] at hm
          exact wX11_isWay_141 X ih2 ih39 x1 x2 x3 x4 t0 _ _ _ hm hH (lv_sub hl [1, 2, 3, 4, 5, 0] rfl)
        · rw [if_neg hc] at hm
          refine lv_iconst (v := 1) hx hb dX11_isWay_137 (by decide) ?_
          refine lv_goto hx hb dX11_isWay_138 (tgt := 142) (by decide) ?_
          exact wX11_isWay_142 X ih2 ih39 x1 x2 x3 x4 t0 (1 : Int32) _ _ _ hm hH (lv_sub hl [1, 2, 3, 4, 5, 0] rfl)
def mX11_isWay_90 (h : Mm) (k2 : Int32 → Int32 → Int32 → Option Int32) (k39 : Int32 → Int32 → Int32 → Int32 → Option Int32) (x1 : Int32) (x2 : Int32) (x3 : Int32) (x4 : Int32) : Option Int32 := mX11_isWay_91 h k2 k39 x1 x2 x3 x4 (0 : Int32)
set_option maxRecDepth 4000 in
theorem wX11_isWay_90 {p : Program} {l : Launch} {e : Env} {s : State} {m : MethodId} {args : Array Value} {below : List Frame} {meth : Method} {c : Code} {D : va_G} {ad : Nat → Nat} {ac : Nat → ClassId} {h : Mm} {r : Int32} (X : Fx p s m args meth c cX11_isWay 7 RX11 (some .boolean) D ad ac LM []) {k2 : Int32 → Int32 → Int32 → Option Int32} {k39 : Int32 → Int32 → Int32 → Int32 → Option Int32} (ih2 : ∀ (x1 : Int32) (x2 : Int32) (x3 : Int32) (H : Heap) (locs : List Loc) (ls : Array Slot), k2 x1 x2 x3 = some r → Hp D ad ac LM h s H locs → lv_has ls 7 [(0, .ref (ad 0)), (1, .int x1), (2, .int x2), (3, .int x3)] → W p l e (rmD 1) s m args below meth c H locs 0 0 (MQ below (QU D ad ac LM (some (.int r)) h s.heap.size) args s 0 0 (Aa ad LM.length s.heap.size)) (F0 m 2 ls [])) (ih39 : ∀ (x1 : Int32) (x2 : Int32) (x3 : Int32) (x4 : Int32) (H : Heap) (locs : List Loc) (ls : Array Slot), k39 x1 x2 x3 x4 = some r → Hp D ad ac LM h s H locs → lv_has ls 7 [(0, .ref (ad 0)), (1, .int x1), (2, .int x2), (3, .int x3), (4, .int x4)] → W p l e (rmD 1) s m args below meth c H locs 0 0 (MQ below (QU D ad ac LM (some (.int r)) h s.heap.size) args s 0 0 (Aa ad LM.length s.heap.size)) (F0 m 39 ls [])) : ∀ (x1 : Int32) (x2 : Int32) (x3 : Int32) (x4 : Int32) (H : Heap) (locs : List Loc) (ls : Array Slot), mX11_isWay_90 h k2 k39 x1 x2 x3 x4 = some r → Hp D ad ac LM h s H locs → lv_has ls 7 [(0, .ref (ad 0)), (1, .int x1), (2, .int x2), (3, .int x3), (4, .int x4)] → W p l e (rmD 1) s m args below meth c H locs 0 0 (MQ below (QU D ad ac LM (some (.int r)) h s.heap.size) args s 0 0 (Aa ad LM.length s.heap.size)) (F0 m 90 ls []) := by
  obtain ⟨hx, hb, hml, hown, hts, hr, hlk, hC, hI, hR⟩ := id X
  intro x1 x2 x3 x4 H locs ls hm hH hl
  rw [mX11_isWay_90] at hm
  refine lv_iconst (v := 0) hx hb dX11_isWay_90 (by decide) ?_
  exact wX11_isWay_91 X ih2 ih39 x1 x2 x3 x4 (0 : Int32) _ _ _ hm hH (lv_sub hl [0, 1, 2, 3, 4] rfl)
def mX11_isWay_39 (h : Mm) (k2 : Int32 → Int32 → Int32 → Option Int32) : Nat → Int32 → Int32 → Int32 → Int32 → Option Int32
  | 0, _, _, _, _ => none
  | n + 1, x1, x2, x3, x4 => if (h 0 16) ≤ x4 then (mX11_isWay_162 h k2 x1 x2 x3) else (if x4 = x3 then (mX11_isWay_90 h k2 (mX11_isWay_39 h k2 n) x1 x2 x3 x4) else (gIn x4 24 (gIn x3 24 (if (h 20 x4.toNatClampNeg) = (h 20 x3.toNatClampNeg) then (gIn x3 24 (bd1 (mX11_together h x4 x3 (h 20 x3.toNatClampNeg)) (fun v4 => if v4 = 0 then (mX11_isWay_91 h k2 (mX11_isWay_39 h k2 n) x1 x2 x3 x4 (1 : Int32)) else (mX11_isWay_90 h k2 (mX11_isWay_39 h k2 n) x1 x2 x3 x4)))) else (mX11_isWay_90 h k2 (mX11_isWay_39 h k2 n) x1 x2 x3 x4)))))
set_option maxRecDepth 4000 in
theorem wX11_isWay_39 {p : Program} {l : Launch} {e : Env} {s : State} {m : MethodId} {args : Array Value} {below : List Frame} {meth : Method} {c : Code} {D : va_G} {ad : Nat → Nat} {ac : Nat → ClassId} {h : Mm} {r : Int32} (X : Fx p s m args meth c cX11_isWay 7 RX11 (some .boolean) D ad ac LM []) {k2 : Int32 → Int32 → Int32 → Option Int32} (ih2 : ∀ (x1 : Int32) (x2 : Int32) (x3 : Int32) (H : Heap) (locs : List Loc) (ls : Array Slot), k2 x1 x2 x3 = some r → Hp D ad ac LM h s H locs → lv_has ls 7 [(0, .ref (ad 0)), (1, .int x1), (2, .int x2), (3, .int x3)] → W p l e (rmD 1) s m args below meth c H locs 0 0 (MQ below (QU D ad ac LM (some (.int r)) h s.heap.size) args s 0 0 (Aa ad LM.length s.heap.size)) (F0 m 2 ls [])) : ∀ (n : Nat) (x1 : Int32) (x2 : Int32) (x3 : Int32) (x4 : Int32) (H : Heap) (locs : List Loc) (ls : Array Slot), mX11_isWay_39 h k2 n x1 x2 x3 x4 = some r → Hp D ad ac LM h s H locs → lv_has ls 7 [(0, .ref (ad 0)), (1, .int x1), (2, .int x2), (3, .int x3), (4, .int x4)] → W p l e (rmD 1) s m args below meth c H locs 0 0 (MQ below (QU D ad ac LM (some (.int r)) h s.heap.size) args s 0 0 (Aa ad LM.length s.heap.size)) (F0 m 39 ls []) := by
  obtain ⟨hx, hb, hml, hown, hts, hr, hlk, hC, hI, hR⟩ := id X
  intro n
  induction n with
  | zero => intro x1 x2 x3 x4 H locs ls hm; rw [mX11_isWay_39] at hm; cases hm
  | succ n ih =>
    intro x1 x2 x3 x4 H locs ls hm hH hl
    rw [mX11_isWay_39] at hm
    refine lv_iload hx hb dX11_isWay_39 (lv_at hl 4 rfl) ?_
    refine lv_aload_n hx hb dX11_isWay_41 rfl (lv_at hl 0 rfl) ?_
    refine gI X hH fl_X11_124 lM_0 rfl dX11_isWay_42 ?_
    refine lv_icmp_ge hx hb dX11_isWay_45 (tgt := 162) (by decide) (fun hc => ?_) (fun hc => ?_)
    · rw [if_pos hc] at hm
      exact wX11_isWay_162 X ih2 x1 x2 x3 _ _ _ hm hH (lv_sub hl [0, 1, 2, 3] rfl)
    · rw [if_neg hc] at hm
      refine lv_iload hx hb dX11_isWay_48 (lv_at hl 4 rfl) ?_
      refine lv_iload_n hx hb dX11_isWay_50 rfl (lv_at hl 3 rfl) ?_
      refine lv_icmp_eq hx hb dX11_isWay_51 (tgt := 90) (by decide) (fun hc => ?_) (fun hc => ?_)
      · rw [if_pos hc] at hm
        exact wX11_isWay_90 X ih2 ih x1 x2 x3 x4 _ _ _ hm hH (lv_sub hl [0, 1, 2, 3, 4] rfl)
      · rw [if_neg hc] at hm
        refine lv_aload_n hx hb dX11_isWay_54 rfl (lv_at hl 0 rfl) ?_
        refine gR X hH fl_X11_67 lM_0 rfl dX11_isWay_55 ?_
        refine lv_iload hx hb dX11_isWay_58 (lv_at hl 4 rfl) ?_
        obtain ⟨hin1, hm⟩ := gIn_some hm
        refine ild X hH lM_20 hin1 dX11_isWay_60 ?_
        refine lv_aload_n hx hb dX11_isWay_61 rfl (lv_at hl 0 rfl) ?_
        refine gR X hH fl_X11_67 lM_0 rfl dX11_isWay_62 ?_
        refine lv_iload_n hx hb dX11_isWay_65 rfl (lv_at hl 3 rfl) ?_
        obtain ⟨hin2, hm⟩ := gIn_some hm
        refine ild X hH lM_20 hin2 dX11_isWay_66 ?_
        refine lv_icmp_ne hx hb dX11_isWay_67 (tgt := 90) (by decide) (fun hc => ?_) (fun hc => ?_)
        · rw [if_neg hc] at hm
          exact wX11_isWay_90 X ih2 ih x1 x2 x3 x4 _ _ _ hm hH (lv_sub hl [0, 1, 2, 3, 4] rfl)
        · rw [if_pos hc] at hm
          refine lv_aload_n hx hb dX11_isWay_70 rfl (lv_at hl 0 rfl) ?_
          refine lv_iload hx hb dX11_isWay_71 (lv_at hl 4 rfl) ?_
          refine lv_iload_n hx hb dX11_isWay_73 rfl (lv_at hl 3 rfl) ?_
          refine lv_aload_n hx hb dX11_isWay_74 rfl (lv_at hl 0 rfl) ?_
          refine gR X hH fl_X11_67 lM_0 rfl dX11_isWay_75 ?_
          refine lv_iload_n hx hb dX11_isWay_78 rfl (lv_at hl 3 rfl) ?_
          obtain ⟨hin3, hm⟩ := gIn_some hm
          refine ild X hH lM_20 hin3 dX11_isWay_79 ?_
          obtain ⟨v4, hq, hm⟩ := bd1_some hm
          refine cVi X hH kl_X11_159 kv_X11_together (mt_X11_together hq) lM_0 rfl rfl (by decide) hl.1 rfl (Nat.le_of_ble_eq_true rfl) dX11_isWay_80 (fun H locs hH => ?_)
          refine lv_if_ne hx hb dX11_isWay_83 (tgt := 90) (by decide) (fun hc => ?_) (fun hc => ?_)
          · rw [if_neg hc] at hm
            exact wX11_isWay_90 X ih2 ih x1 x2 x3 x4 _ _ _ hm hH (lv_sub hl [0, 1, 2, 3, 4] rfl)
          · rw [if_pos hc] at hm
            refine lv_iconst (v := 1) hx hb dX11_isWay_86 (by decide) ?_
            refine lv_goto hx hb dX11_isWay_87 (tgt := 91) (by decide) ?_
            exact wX11_isWay_91 X ih2 ih x1 x2 x3 x4 (1 : Int32) _ _ _ hm hH (lv_sub hl [0, 1, 2, 3, 4] rfl)
def mX11_isWay_2 (h : Mm) : Nat → Int32 → Int32 → Int32 → Option Int32
  | 0, _, _, _ => none
  | n + 1, x1, x2, x3 => if (x1 + x2) ≤ x3 then (some (1 : Int32)) else (gIn x3 24 (if (h 20 x3.toNatClampNeg) = (-4 : Int32) then (mX11_isWay_162 h (mX11_isWay_2 h n) x1 x2 x3) else (gIn x3 24 (bd1 (mX11_fits h x3 (h 20 x3.toNatClampNeg)) (fun v3 => if v3 = 0 then (some (0 : Int32)) else (mX11_isWay_39 h (mX11_isWay_2 h n) FU x1 x2 x3 (0 : Int32)))))))
set_option maxRecDepth 4000 in
theorem wX11_isWay_2 {p : Program} {l : Launch} {e : Env} {s : State} {m : MethodId} {args : Array Value} {below : List Frame} {meth : Method} {c : Code} {D : va_G} {ad : Nat → Nat} {ac : Nat → ClassId} {h : Mm} {r : Int32} (X : Fx p s m args meth c cX11_isWay 7 RX11 (some .boolean) D ad ac LM []) : ∀ (n : Nat) (x1 : Int32) (x2 : Int32) (x3 : Int32) (H : Heap) (locs : List Loc) (ls : Array Slot), mX11_isWay_2 h n x1 x2 x3 = some r → Hp D ad ac LM h s H locs → lv_has ls 7 [(0, .ref (ad 0)), (1, .int x1), (2, .int x2), (3, .int x3)] → W p l e (rmD 1) s m args below meth c H locs 0 0 (MQ below (QU D ad ac LM (some (.int r)) h s.heap.size) args s 0 0 (Aa ad LM.length s.heap.size)) (F0 m 2 ls []) := by
  obtain ⟨hx, hb, hml, hown, hts, hr, hlk, hC, hI, hR⟩ := id X
  intro n
  induction n with
  | zero => intro x1 x2 x3 H locs ls hm; rw [mX11_isWay_2] at hm; cases hm
  | succ n ih =>
    intro x1 x2 x3 H locs ls hm hH hl
    rw [mX11_isWay_2] at hm
    refine lv_iload_n hx hb dX11_isWay_2 rfl (lv_at hl 3 rfl) ?_
    refine lv_iload_n hx hb dX11_isWay_3 rfl (lv_at hl 1 rfl) ?_
    refine lv_iload_n hx hb dX11_isWay_4 rfl (lv_at hl 2 rfl) ?_
    refine lv_iadd hx hb dX11_isWay_5 ?_
    refine lv_icmp_ge hx hb dX11_isWay_6 (tgt := 168) (by decide) (fun hc => ?_) (fun hc => ?_)
    · rw [if_pos hc] at hm
      refine lv_iconst (v := 1) hx hb dX11_isWay_168 (by decide) ?_
      cases hm
      exact retZ X hH rfl dX11_isWay_169
    · rw [if_neg hc] at hm
      refine lv_aload_n hx hb dX11_isWay_9 rfl (lv_at hl 0 rfl) ?_
      refine gR X hH fl_X11_67 lM_0 rfl dX11_isWay_10 ?_
      refine lv_iload_n hx hb dX11_isWay_13 rfl (lv_at hl 3 rfl) ?_
      obtain ⟨hin1, hm⟩ := gIn_some hm
      refine ild X hH lM_20 hin1 dX11_isWay_14 ?_
      refine lv_bipush (v := (-4)) hx hb dX11_isWay_15 (by decide) ?_
      refine lv_icmp_eq hx hb dX11_isWay_17 (tgt := 162) (by decide) (fun hc => ?_) (fun hc => ?_)
      · rw [if_pos hc] at hm
        exact wX11_isWay_162 X ih x1 x2 x3 _ _ _ hm hH (lv_sub hl [0, 1, 2, 3] rfl)
      · rw [if_neg hc] at hm
        refine lv_aload_n hx hb dX11_isWay_20 rfl (lv_at hl 0 rfl) ?_
        refine lv_iload_n hx hb dX11_isWay_21 rfl (lv_at hl 3 rfl) ?_
        refine lv_aload_n hx hb dX11_isWay_22 rfl (lv_at hl 0 rfl) ?_
        refine gR X hH fl_X11_67 lM_0 rfl dX11_isWay_23 ?_
        refine lv_iload_n hx hb dX11_isWay_26 rfl (lv_at hl 3 rfl) ?_
        obtain ⟨hin2, hm⟩ := gIn_some hm
        refine ild X hH lM_20 hin2 dX11_isWay_27 ?_
        obtain ⟨v3, hq, hm⟩ := bd1_some hm
        refine cVi X hH kl_X11_152 kv_X11_fits (mt_X11_fits hq) lM_0 rfl rfl (by decide) hl.1 rfl (Nat.le_of_ble_eq_true rfl) dX11_isWay_28 (fun H locs hH => ?_)
        refine lv_if_ne hx hb dX11_isWay_31 (tgt := 36) (by decide) (fun hc => ?_) (fun hc => ?_)
        · rw [if_neg hc] at hm
          refine lv_iconst (v := 0) hx hb dX11_isWay_36 (by decide) ?_
          refine lv_istore (lv' := [(4, .int (0 : Int32)), (0, .ref (ad 0)), (1, .int x1), (2, .int x2), (3, .int x3)]) hx hb dX11_isWay_37 hl (by decide) rfl (fun ls hl => ?_)
          exact wX11_isWay_39 X ih FU x1 x2 x3 (0 : Int32) _ _ _ hm hH (lv_sub hl [1, 2, 3, 4, 0] rfl)
        · rw [if_pos hc] at hm
          refine lv_iconst (v := 0) hx hb dX11_isWay_34 (by decide) ?_
          cases hm
          exact retZ X hH rfl dX11_isWay_35
def mX11_isWay (h : Mm) (a1 : Int32) (a2 : Int32) : Option Int32 := mX11_isWay_2 h FU a1 a2 a1
set_option maxRecDepth 4000 in
theorem mt_X11_isWay {l : Launch} {D : va_G} {ad : Nat → Nat} {ac : Nat → ClassId} {h : Mm} {a1 : Int32} {a2 : Int32} {r : Int32} (hm : mX11_isWay h a1 a2 = some r) : Mt l D ad ac LM [] yX11_isWay cX11_isWay 7 (some .boolean) 1 [.ref (ad 0), .int a1, .int a2] h (some (.int r)) h := by
  refine Mt.of (own := RX11) (by decide) rfl (Nat.le_of_ble_eq_true rfl) ?_
  intro p e s m below meth c ls X hH hl
  obtain ⟨hx, hb, hml, hown, hts, hr, hlk, hC, hI, hR⟩ := id X
  have hl : lv_has ls 7 [(0, .ref (ad 0)), (1, .int a1), (2, .int a2)] := hl
  rw [mX11_isWay] at hm
  refine lv_iload_n hx hb dX11_isWay_0 rfl (lv_at hl 1 rfl) ?_
  refine lv_istore_n (lv' := [(3, .int a1), (0, .ref (ad 0)), (1, .int a1), (2, .int a2)]) hx hb dX11_isWay_1 rfl hl (by decide) rfl (fun ls hl => ?_)
  exact wX11_isWay_2 X FU a1 a2 a1 _ _ _ hm hH (lv_sub hl [1, 2, 3, 0] rfl)
/-! X11_rateOf -/
def mX11_rateOf (h : Mm) (a1 : Int32) (a2 : Int32) (a3 : Int32) : Option Int32 := mlet ((a3 - (1 : Int32)) - a2) (fun u1 => gIn (((5 : Int32) * a1) + (2 : Int32)) 20 (if u1 ≤ a2 then (some (((2 : Int32) + (h 2 (((5 : Int32) * a1) + (2 : Int32)).toNatClampNeg)) * ((1 : Int32) + u1))) else (some (((2 : Int32) + (h 2 (((5 : Int32) * a1) + (2 : Int32)).toNatClampNeg)) * ((1 : Int32) + a2)))))
set_option maxRecDepth 4000 in
theorem mt_X11_rateOf {l : Launch} {D : va_G} {ad : Nat → Nat} {ac : Nat → ClassId} {h : Mm} {a1 : Int32} {a2 : Int32} {a3 : Int32} {r : Int32} (hm : mX11_rateOf h a1 a2 a3 = some r) : Mt l D ad ac LM [] yX11_rateOf cX11_rateOf 5 (some .int) 0 [.ref (ad 0), .int a1, .int a2, .int a3] h (some (.int r)) h := by
  refine Mt.of (own := RX11) (by decide) rfl (Nat.le_of_ble_eq_true rfl) ?_
  intro p e s m below meth c ls X hH hl
  obtain ⟨hx, hb, hml, hown, hts, hr, hlk, hC, hI, hR⟩ := id X
  have hl : lv_has ls 5 [(0, .ref (ad 0)), (1, .int a1), (2, .int a2), (3, .int a3)] := hl
  rw [mX11_rateOf] at hm
  refine lv_iload_n hx hb dX11_rateOf_0 rfl (lv_at hl 3 rfl) ?_
  refine lv_iconst (v := 1) hx hb dX11_rateOf_1 (by decide) ?_
  refine lv_isub hx hb dX11_rateOf_2 ?_
  refine lv_iload_n hx hb dX11_rateOf_3 rfl (lv_at hl 2 rfl) ?_
  refine lv_isub hx hb dX11_rateOf_4 ?_
  obtain ⟨u1, eu1, hm⟩ := mlet_some hm
  refine W.eq (g2 := F0 m 5 ls (.int u1 :: [])) (by rw [eu1]) ?_
  refine lv_istore (lv' := [(4, .int u1), (0, .ref (ad 0)), (1, .int a1), (2, .int a2), (3, .int a3)]) hx hb dX11_rateOf_5 hl (by decide) rfl (fun ls hl => ?_)
  refine lv_iconst (v := 2) hx hb dX11_rateOf_7 (by decide) ?_
  refine lv_aload_n hx hb dX11_rateOf_8 rfl (lv_at hl 1 rfl) ?_
  refine gR X hH fl_X11_13 lM_0 rfl dX11_rateOf_9 ?_
  refine lv_iconst (v := 5) hx hb dX11_rateOf_12 (by decide) ?_
  refine lv_iload_n hx hb dX11_rateOf_13 rfl (lv_at hl 2 rfl) ?_
  refine lv_imul hx hb dX11_rateOf_14 ?_
  refine lv_iconst (v := 2) hx hb dX11_rateOf_15 (by decide) ?_
  refine lv_iadd hx hb dX11_rateOf_16 ?_
  obtain ⟨hin2, hm⟩ := gIn_some hm
  refine ild X hH lM_2 hin2 dX11_rateOf_17 ?_
  refine lv_iadd hx hb dX11_rateOf_18 ?_
  refine lv_iconst (v := 1) hx hb dX11_rateOf_19 (by decide) ?_
  refine lv_iload_n hx hb dX11_rateOf_20 rfl (lv_at hl 3 rfl) ?_
  refine lv_iload hx hb dX11_rateOf_21 (lv_at hl 0 rfl) ?_
  refine lv_icmp_ge hx hb dX11_rateOf_23 (tgt := 30) (by decide) (fun hc => ?_) (fun hc => ?_)
  · rw [if_pos hc] at hm
    refine lv_iload hx hb dX11_rateOf_30 (lv_at hl 0 rfl) ?_
    refine lv_iadd hx hb dX11_rateOf_32 ?_
    refine lv_imul hx hb dX11_rateOf_33 ?_
    cases hm
    exact retI X hH dX11_rateOf_34
  · rw [if_neg hc] at hm
    refine lv_iload_n hx hb dX11_rateOf_26 rfl (lv_at hl 3 rfl) ?_
    refine lv_goto hx hb dX11_rateOf_27 (tgt := 32) (by decide) ?_
    refine lv_iadd hx hb dX11_rateOf_32 ?_
    refine lv_imul hx hb dX11_rateOf_33 ?_
    cases hm
    exact retI X hH dX11_rateOf_34
/-! X11_rateAt -/
def mX11_rateAt (h : Mm) (a1 : Int32) (a2 : Int32) : Option Int32 := gIn a1 24 (gIn a1 24 (gIn a1 24 (gIn a1 24 (bd1 (mX11_rateOf h (h 12 a1.toNatClampNeg) (a2 - (h 10 a1.toNatClampNeg)) (((h 11 a1.toNatClampNeg) - (h 10 a1.toNatClampNeg)) + (1 : Int32))) (fun v5 => some v5)))))
set_option maxRecDepth 4000 in
theorem mt_X11_rateAt {l : Launch} {D : va_G} {ad : Nat → Nat} {ac : Nat → ClassId} {h : Mm} {a1 : Int32} {a2 : Int32} {r : Int32} (hm : mX11_rateAt h a1 a2 = some r) : Mt l D ad ac LM [] yX11_rateAt cX11_rateAt 3 (some .int) 1 [.ref (ad 0), .int a1, .int a2] h (some (.int r)) h := by
  refine Mt.of (own := RX11) (by decide) rfl (Nat.le_of_ble_eq_true rfl) ?_
  intro p e s m below meth c ls X hH hl
  obtain ⟨hx, hb, hml, hown, hts, hr, hlk, hC, hI, hR⟩ := id X
  have hl : lv_has ls 3 [(0, .ref (ad 0)), (1, .int a1), (2, .int a2)] := hl
  rw [mX11_rateAt] at hm
  refine lv_aload_n hx hb dX11_rateAt_0 rfl (lv_at hl 0 rfl) ?_
  refine lv_aload_n hx hb dX11_rateAt_1 rfl (lv_at hl 0 rfl) ?_
  refine gR X hH fl_X11_43 lM_0 rfl dX11_rateAt_2 ?_
  refine lv_iload_n hx hb dX11_rateAt_5 rfl (lv_at hl 1 rfl) ?_
  obtain ⟨hin1, hm⟩ := gIn_some hm
  refine ild X hH lM_12 hin1 dX11_rateAt_6 ?_
  refine lv_iload_n hx hb dX11_rateAt_7 rfl (lv_at hl 2 rfl) ?_
  refine lv_aload_n hx hb dX11_rateAt_8 rfl (lv_at hl 0 rfl) ?_
  refine gR X hH fl_X11_37 lM_0 rfl dX11_rateAt_9 ?_
  refine lv_iload_n hx hb dX11_rateAt_12 rfl (lv_at hl 1 rfl) ?_
  obtain ⟨hin2, hm⟩ := gIn_some hm
  refine ild X hH lM_10 hin2 dX11_rateAt_13 ?_
  refine lv_isub hx hb dX11_rateAt_14 ?_
  refine lv_aload_n hx hb dX11_rateAt_15 rfl (lv_at hl 0 rfl) ?_
  refine gR X hH fl_X11_40 lM_0 rfl dX11_rateAt_16 ?_
  refine lv_iload_n hx hb dX11_rateAt_19 rfl (lv_at hl 1 rfl) ?_
  obtain ⟨hin3, hm⟩ := gIn_some hm
  refine ild X hH lM_11 hin3 dX11_rateAt_20 ?_
  refine lv_aload_n hx hb dX11_rateAt_21 rfl (lv_at hl 0 rfl) ?_
  refine gR X hH fl_X11_37 lM_0 rfl dX11_rateAt_22 ?_
  refine lv_iload_n hx hb dX11_rateAt_25 rfl (lv_at hl 1 rfl) ?_
  obtain ⟨hin4, hm⟩ := gIn_some hm
  refine ild X hH lM_10 hin4 dX11_rateAt_26 ?_
  refine lv_isub hx hb dX11_rateAt_27 ?_
  refine lv_iconst (v := 1) hx hb dX11_rateAt_28 (by decide) ?_
  refine lv_iadd hx hb dX11_rateAt_29 ?_
  obtain ⟨v5, hq, hm⟩ := bd1_some hm
  refine cVi X hH kl_X11_131 kv_X11_rateOf (mt_X11_rateOf hq) lM_0 rfl rfl (by decide) hl.1 rfl (Nat.le_of_ble_eq_true rfl) dX11_rateAt_30 (fun H locs hH => ?_)
  cases hm
  exact retI X hH dX11_rateAt_33
