/-! X10_undo -/
def mX10_undo (h : Mm) : Option (Int32 × Mm) := if (h 66 2) = 0 then (some ((-2 : Int32), h)) else (bdh (mX6_forget h) (fun h1 => bdh (mX1_bringBack h1) (fun h2 => some ((h2 66 2), h2))))
set_option maxRecDepth 4000 in
theorem mt_X10_undo {l : Launch} {D : va_G} {ad : Nat → Nat} {ac : Nat → ClassId} {h : Mm} {r : Int32} {h' : Mm} (hm : mX10_undo h = some (r, h')) : Mt l D ad ac LC rlC yX10_undo cX10_undo 1 (some .int) 3 [.ref (ad 0)] h (some (.int r)) h' := by
  refine Mt.of (own := RX10) (by decide) rfl (Nat.le_of_ble_eq_true rfl) ?_
  intro p e s m below meth c ls X hH hl
  obtain ⟨hx, hb, hml, hown, hts, hr, hlk, hC, hI, hR⟩ := id X
  have hl : lv_has ls 1 [(0, .ref (ad 0))] := hl
  rw [mX10_undo] at hm
  refine lv_aload_n hx hb dX10_undo_0 rfl (lv_at hl 0 rfl) ?_
  refine gR X hH fl_X10_26 lC_0 rfl dX10_undo_1 ?_
  refine gI X hH fl_X10_201 lC_66 rfl dX10_undo_4 ?_
  refine lv_if_ne hx hb dX10_undo_7 (tgt := 13) (by decide) (fun hc => ?_) (fun hc => ?_)
  · rw [if_neg hc] at hm
    refine lv_aload_n hx hb dX10_undo_13 rfl (lv_at hl 0 rfl) ?_
    refine gR X hH fl_X10_47 lC_0 rfl dX10_undo_14 ?_
    obtain ⟨h1, hq, hm⟩ := bdh_some hm
    refine cVv X hH kl_X10_204 kv_X6_forget (mt_X6_forget hq) lC_22 rfl rfl (by decide) hl.1 rfl (Nat.le_of_ble_eq_true rfl) dX10_undo_17 (fun H locs hH => ?_)
    refine lv_aload_n hx hb dX10_undo_20 rfl (lv_at hl 0 rfl) ?_
    refine gR X hH fl_X10_26 lC_0 rfl dX10_undo_21 ?_
    refine lv_aload_n hx hb dX10_undo_24 rfl (lv_at hl 0 rfl) ?_
    refine gR X hH fl_X10_19 lC_0 rfl dX10_undo_25 ?_
    refine gR X hH fl_X10_114 lC_3 rfl dX10_undo_28 ?_
    obtain ⟨h2, hq, hm⟩ := bdh_some hm
    refine cVv X hH kl_X10_207 kv_X1_bringBack (mt_X1_bringBack hq) lC_66 rfl rfl (by decide) hl.1 rfl (Nat.le_of_ble_eq_true rfl) dX10_undo_31 (fun H locs hH => ?_)
    refine lv_aload_n hx hb dX10_undo_34 rfl (lv_at hl 0 rfl) ?_
    refine gR X hH fl_X10_26 lC_0 rfl dX10_undo_35 ?_
    refine gI X hH fl_X10_201 lC_66 rfl dX10_undo_38 ?_
    cases hm
    exact retI X hH dX10_undo_41
  · rw [if_pos hc] at hm
    refine lv_bipush (v := (-2)) hx hb dX10_undo_10 (by decide) ?_
    cases hm
    exact retI X hH dX10_undo_12
/-! X10_why -/
def mX10_why (h : Mm) (a1 : Int32) (a2 : Int32) : Option Int32 := bd1 (mX5_has h a1) (fun v1 => if v1 = 0 then (some (-1 : Int32)) else (bd1 (mX2_has_42 h a2) (fun v2 => if v2 = 0 then (some (-1 : Int32)) else (bd1 (mX4_whyNot h a1 a2) (fun v3 => some v3)))))
set_option maxRecDepth 4000 in
theorem mt_X10_why {l : Launch} {D : va_G} {ad : Nat → Nat} {ac : Nat → ClassId} {h : Mm} {a1 : Int32} {a2 : Int32} {r : Int32} (hm : mX10_why h a1 a2 = some r) : Mt l D ad ac LC rlC yX10_why cX10_why 3 (some .int) 5 [.ref (ad 0), .int a1, .int a2] h (some (.int r)) h := by
  refine Mt.of (own := RX10) (by decide) rfl (Nat.le_of_ble_eq_true rfl) ?_
  intro p e s m below meth c ls X hH hl
  obtain ⟨hx, hb, hml, hown, hts, hr, hlk, hC, hI, hR⟩ := id X
  have hl : lv_has ls 3 [(0, .ref (ad 0)), (1, .int a1), (2, .int a2)] := hl
  rw [mX10_why] at hm
  refine lv_aload_n hx hb dX10_why_0 rfl (lv_at hl 0 rfl) ?_
  refine gR X hH fl_X10_19 lC_0 rfl dX10_why_1 ?_
  refine gR X hH fl_X10_146 lC_3 rfl dX10_why_4 ?_
  refine lv_iload_n hx hb dX10_why_7 rfl (lv_at hl 1 rfl) ?_
  obtain ⟨v1, hq, hm⟩ := bd1_some hm
  refine cVi X hH kl_X10_150 kv_X5_has (mt_X5_has hq) lC_4 rfl rfl (by decide) hl.1 rfl (Nat.le_of_ble_eq_true rfl) dX10_why_8 (fun H locs hH => ?_)
  refine lv_if_eq hx hb dX10_why_11 (tgt := 31) (by decide) (fun hc => ?_) (fun hc => ?_)
  · rw [if_pos hc] at hm
    refine lv_iconst (v := (-1)) hx hb dX10_why_31 (by decide) ?_
    cases hm
    exact retI X hH dX10_why_32
  · rw [if_neg hc] at hm
    refine lv_aload_n hx hb dX10_why_14 rfl (lv_at hl 0 rfl) ?_
    refine gR X hH fl_X10_19 lC_0 rfl dX10_why_15 ?_
    refine gR X hH fl_X10_87 lC_3 rfl dX10_why_18 ?_
    refine gR X hH fl_X10_111 lC_30 rfl dX10_why_21 ?_
    refine lv_iload_n hx hb dX10_why_24 rfl (lv_at hl 2 rfl) ?_
    obtain ⟨v2, hq, hm⟩ := bd1_some hm
    refine cVi X hH kl_X10_94 kv_X2_has (mt_X2_has_42 hq) lC_42 rfl rfl (by decide) hl.1 rfl (Nat.le_of_ble_eq_true rfl) dX10_why_25 (fun H locs hH => ?_)
    refine lv_if_ne hx hb dX10_why_28 (tgt := 33) (by decide) (fun hc => ?_) (fun hc => ?_)
    · rw [if_neg hc] at hm
      refine lv_aload_n hx hb dX10_why_33 rfl (lv_at hl 0 rfl) ?_
      refine gR X hH fl_X10_19 lC_0 rfl dX10_why_34 ?_
      refine lv_iload_n hx hb dX10_why_37 rfl (lv_at hl 1 rfl) ?_
      refine lv_iload_n hx hb dX10_why_38 rfl (lv_at hl 2 rfl) ?_
      obtain ⟨v3, hq, hm⟩ := bd1_some hm
      refine cVi X hH kl_X10_184 kv_X4_whyNot (mt_X4_whyNot hq) lC_3 rfl rfl (by decide) hl.1 rfl (Nat.le_of_ble_eq_true rfl) dX10_why_39 (fun H locs hH => ?_)
      cases hm
      exact retI X hH dX10_why_42
    · rw [if_pos hc] at hm
      refine lv_iconst (v := (-1)) hx hb dX10_why_31 (by decide) ?_
      cases hm
      exact retI X hH dX10_why_32
/-! X3_clear -/
def mX3_clear (h : Mm) : Option Mm := mlet (wr h 1 1 (0 : Int32)) (fun h1 => some h1)
set_option maxRecDepth 4000 in
theorem mt_X3_clear {l : Launch} {D : va_G} {ad : Nat → Nat} {ac : Nat → ClassId} {h : Mm} {h' : Mm} (hm : mX3_clear h = some h') : Mt l D ad ac LC rlC yX3_clear cX3_clear 1 none 0 [.ref (ad 1)] h none h' := by
  refine Mt.of (own := RX3) (by decide) rfl (Nat.le_of_ble_eq_true rfl) ?_
  intro p e s m below meth c ls X hH hl
  obtain ⟨hx, hb, hml, hown, hts, hr, hlk, hC, hI, hR⟩ := id X
  have hl : lv_has ls 1 [(0, .ref (ad 1))] := hl
  rw [mX3_clear] at hm
  refine lv_aload_n hx hb dX3_clear_0 rfl (lv_at hl 0 rfl) ?_
  refine lv_iconst (v := 0) hx hb dX3_clear_1 (by decide) ?_
  obtain ⟨h1, eh1, hm⟩ := mlet_some hm
  refine pI X hH fl_X3_15 fw_3_1 lC_1 rfl dX3_clear_2 (fun H locs hH => ?_)
  rw [← eh1] at hH
  cases hm
  exact retV X hH dX3_clear_5
/-! X10_wipe -/
def mX10_wipe (h : Mm) : Option (Int32 × Mm) := mlet (h 1 1) (fun u1 => bdh (mX3_clear h) (fun h2 => some (u1, h2)))
set_option maxRecDepth 4000 in
theorem mt_X10_wipe {l : Launch} {D : va_G} {ad : Nat → Nat} {ac : Nat → ClassId} {h : Mm} {r : Int32} {h' : Mm} (hm : mX10_wipe h = some (r, h')) : Mt l D ad ac LC rlC yX10_wipe cX10_wipe 2 (some .int) 1 [.ref (ad 0)] h (some (.int r)) h' := by
  refine Mt.of (own := RX10) (by decide) rfl (Nat.le_of_ble_eq_true rfl) ?_
  intro p e s m below meth c ls X hH hl
  obtain ⟨hx, hb, hml, hown, hts, hr, hlk, hC, hI, hR⟩ := id X
  have hl : lv_has ls 2 [(0, .ref (ad 0))] := hl
  rw [mX10_wipe] at hm
  refine lv_aload_n hx hb dX10_wipe_0 rfl (lv_at hl 0 rfl) ?_
  refine gR X hH fl_X10_10 lC_0 rfl dX10_wipe_1 ?_
  refine gI X hH fl_X10_80 lC_1 rfl dX10_wipe_4 ?_
  obtain ⟨u1, eu1, hm⟩ := mlet_some hm
  refine W.eq (g2 := F0 m 7 ls (.int u1 :: [])) (by rw [eu1]) ?_
  refine lv_istore_n (lv' := [(1, .int u1), (0, .ref (ad 0))]) hx hb dX10_wipe_7 rfl hl (by decide) rfl (fun ls hl => ?_)
  refine lv_aload_n hx hb dX10_wipe_8 rfl (lv_at hl 1 rfl) ?_
  refine gR X hH fl_X10_10 lC_0 rfl dX10_wipe_9 ?_
  obtain ⟨h2, hq, hm⟩ := bdh_some hm
  refine cVv X hH kl_X10_77 kv_X3_clear (mt_X3_clear hq) lC_1 rfl rfl (by decide) hl.1 rfl (Nat.le_of_ble_eq_true rfl) dX10_wipe_12 (fun H locs hH => ?_)
  refine lv_iload_n hx hb dX10_wipe_15 rfl (lv_at hl 0 rfl) ?_
  cases hm
  exact retI X hH dX10_wipe_16
/-! X3_append -/
def mX3_append (h : Mm) (a1 : Int32) : Option Mm := if (nI 200) ≤ (h 1 1) then (some h) else (gIn (h 1 1) 200 (mlet (wr h 2 (h 1 1).toNatClampNeg (vp_nar .char a1)) (fun h1 => mlet (wr h1 1 1 ((h1 1 1) + (1 : Int32))) (fun h3 => some h3))))
set_option maxRecDepth 4000 in
theorem mt_X3_append {l : Launch} {D : va_G} {ad : Nat → Nat} {ac : Nat → ClassId} {h : Mm} {a1 : Int32} {h' : Mm} (hm : mX3_append h a1 = some h') : Mt l D ad ac LC rlC yX3_append cX3_append 2 none 0 [.ref (ad 1), .int a1] h none h' := by
  refine Mt.of (own := RX3) (by decide) rfl (Nat.le_of_ble_eq_true rfl) ?_
  intro p e s m below meth c ls X hH hl
  obtain ⟨hx, hb, hml, hown, hts, hr, hlk, hC, hI, hR⟩ := id X
  have hl : lv_has ls 2 [(0, .ref (ad 1)), (1, .int a1)] := hl
  rw [mX3_append] at hm
  refine lv_aload_n hx hb dX3_append_0 rfl (lv_at hl 0 rfl) ?_
  refine gI X hH fl_X3_15 lC_1 rfl dX3_append_1 ?_
  refine lv_aload_n hx hb dX3_append_4 rfl (lv_at hl 0 rfl) ?_
  refine gR X hH fl_X3_9 lC_1 rfl dX3_append_5 ?_
  refine aln X hH lC_2 (by decide) dX3_append_8 ?_
  refine lv_icmp_ge hx hb dX3_append_9 (tgt := 32) (by decide) (fun hc => ?_) (fun hc => ?_)
  · rw [if_pos hc] at hm
    cases hm
    exact retV X hH dX3_append_32
  · rw [if_neg hc] at hm
    refine lv_aload_n hx hb dX3_append_12 rfl (lv_at hl 0 rfl) ?_
    refine gR X hH fl_X3_9 lC_1 rfl dX3_append_13 ?_
    refine lv_aload_n hx hb dX3_append_16 rfl (lv_at hl 0 rfl) ?_
    refine gI X hH fl_X3_15 lC_1 rfl dX3_append_17 ?_
    refine lv_iload_n hx hb dX3_append_20 rfl (lv_at hl 1 rfl) ?_
    obtain ⟨hin2, hm⟩ := gIn_some hm
    obtain ⟨h1, eh1, hm⟩ := mlet_some hm
    refine cst X hH lC_2 hin2 dX3_append_21 (fun H locs hH => ?_)
    rw [← eh1] at hH
    refine lv_aload_n hx hb dX3_append_22 rfl (lv_at hl 0 rfl) ?_
    refine lv_dup hx hb dX3_append_23 rfl ?_
    refine gI X hH fl_X3_15 lC_1 rfl dX3_append_24 ?_
    refine lv_iconst (v := 1) hx hb dX3_append_27 (by decide) ?_
    refine lv_iadd hx hb dX3_append_28 ?_
    obtain ⟨h3, eh3, hm⟩ := mlet_some hm
    refine pI X hH fl_X3_15 fw_3_1 lC_1 rfl dX3_append_29 (fun H locs hH => ?_)
    rw [← eh3] at hH
    cases hm
    exact retV X hH dX3_append_32
/-! X10_write -/
def mX10_write (h : Mm) (a1 : Int32) : Option (Int32 × Mm) := if a1 < (32 : Int32) then (some ((-1 : Int32), h)) else (if a1 ≤ (126 : Int32) then (if (h 1 1) < (200 : Int32) then (bdh (mX3_append h (a1.toUInt32 % 65536).toInt32) (fun h1 => some ((h1 1 1), h1))) else (some ((-3 : Int32), h))) else (some ((-1 : Int32), h)))
set_option maxRecDepth 4000 in
theorem mt_X10_write {l : Launch} {D : va_G} {ad : Nat → Nat} {ac : Nat → ClassId} {h : Mm} {a1 : Int32} {r : Int32} {h' : Mm} (hm : mX10_write h a1 = some (r, h')) : Mt l D ad ac LC rlC yX10_write cX10_write 2 (some .int) 1 [.ref (ad 0), .int a1] h (some (.int r)) h' := by
  refine Mt.of (own := RX10) (by decide) rfl (Nat.le_of_ble_eq_true rfl) ?_
  intro p e s m below meth c ls X hH hl
  obtain ⟨hx, hb, hml, hown, hts, hr, hlk, hC, hI, hR⟩ := id X
  have hl : lv_has ls 2 [(0, .ref (ad 0)), (1, .int a1)] := hl
  rw [mX10_write] at hm
  refine lv_iload_n hx hb dX10_write_0 rfl (lv_at hl 1 rfl) ?_
  refine lv_bipush (v := 32) hx hb dX10_write_1 (by decide) ?_
  refine lv_icmp_lt hx hb dX10_write_3 (tgt := 12) (by decide) (fun hc => ?_) (fun hc => ?_)
  · rw [if_pos hc] at hm
    refine lv_iconst (v := (-1)) hx hb dX10_write_12 (by decide) ?_
    cases hm
    exact retI X hH dX10_write_13
  · rw [if_neg hc] at hm
    refine lv_iload_n hx hb dX10_write_6 rfl (lv_at hl 1 rfl) ?_
    refine lv_bipush (v := 126) hx hb dX10_write_7 (by decide) ?_
    refine lv_icmp_le hx hb dX10_write_9 (tgt := 14) (by decide) (fun hc => ?_) (fun hc => ?_)
    · rw [if_pos hc] at hm
      refine lv_aload_n hx hb dX10_write_14 rfl (lv_at hl 0 rfl) ?_
      refine gR X hH fl_X10_10 lC_0 rfl dX10_write_15 ?_
      refine gI X hH fl_X10_80 lC_1 rfl dX10_write_18 ?_
      refine lv_sipush (v := 200) hx hb dX10_write_21 (by decide) ?_
      refine lv_icmp_lt hx hb dX10_write_24 (tgt := 30) (by decide) (fun hc => ?_) (fun hc => ?_)
      · rw [if_pos hc] at hm
        refine lv_aload_n hx hb dX10_write_30 rfl (lv_at hl 0 rfl) ?_
        refine gR X hH fl_X10_10 lC_0 rfl dX10_write_31 ?_
        refine lv_iload_n hx hb dX10_write_34 rfl (lv_at hl 1 rfl) ?_
        refine lv_i2c hx hb dX10_write_35 rfl ?_
        obtain ⟨h1, hq, hm⟩ := bdh_some hm
        refine cVv X hH kl_X10_70 kv_X3_append (mt_X3_append hq) lC_1 rfl rfl (by decide) hl.1 rfl (Nat.le_of_ble_eq_true rfl) dX10_write_36 (fun H locs hH => ?_)
        refine lv_aload_n hx hb dX10_write_39 rfl (lv_at hl 0 rfl) ?_
        refine gR X hH fl_X10_10 lC_0 rfl dX10_write_40 ?_
        refine gI X hH fl_X10_80 lC_1 rfl dX10_write_43 ?_
        cases hm
        exact retI X hH dX10_write_46
      · rw [if_neg hc] at hm
        refine lv_bipush (v := (-3)) hx hb dX10_write_27 (by decide) ?_
        cases hm
        exact retI X hH dX10_write_29
    · rw [if_neg hc] at hm
      refine lv_iconst (v := (-1)) hx hb dX10_write_12 (by decide) ?_
      cases hm
      exact retI X hH dX10_write_13
/-! X11_in -/
def mX11_in (h : Mm) (a0 : Int64) (a1 : Int64) (a2 : Int64) : Option Int32 := if (lg_cmp a0 a1) < 0 then (some (0 : Int32)) else (if 0 < (lg_cmp a0 a2) then (some (0 : Int32)) else (some (1 : Int32)))
set_option maxRecDepth 4000 in
theorem mt_X11_in {l : Launch} {D : va_G} {ad : Nat → Nat} {ac : Nat → ClassId} {L : List CD} {rl : RomL} {h : Mm} {a0 : Int64} {a1 : Int64} {a2 : Int64} {r : Int32} (hm : mX11_in h a0 a1 a2 = some r) : Mt l D ad ac L rl yX11_in cX11_in 6 (some .boolean) 0 [.long a0, .long a1, .long a2] h (some (.int r)) h := by
  refine Mt.of (own := RX11) (by decide) rfl (Nat.le_of_ble_eq_true rfl) ?_
  intro p e s m below meth c ls X hH hl
  obtain ⟨hx, hb, hml, hown, hts, hr, hlk, hC, hI, hR⟩ := id X
  have hl : lv_has ls 6 [(0, .long a0), (2, .long a1), (4, .long a2)] := hl
  rw [mX11_in] at hm
  refine lv_lload_n hx hb dX11_in_0 rfl (lv_at hl 0 rfl) ?_
  refine lv_lload_n hx hb dX11_in_1 rfl (lv_at hl 1 rfl) ?_
  refine W.lcmp hx hb dX11_in_2 ?_
  refine lv_if_lt hx hb dX11_in_3 (tgt := 17) (by decide) (fun hc => ?_) (fun hc => ?_)
  · rw [if_pos hc] at hm
    refine lv_iconst (v := 0) hx hb dX11_in_17 (by decide) ?_
    cases hm
    exact retZ X hH rfl dX11_in_18
  · rw [if_neg hc] at hm
    refine lv_lload_n hx hb dX11_in_6 rfl (lv_at hl 0 rfl) ?_
    refine lv_lload hx hb dX11_in_7 (lv_at hl 2 rfl) ?_
    refine W.lcmp hx hb dX11_in_9 ?_
    refine lv_if_gt hx hb dX11_in_10 (tgt := 17) (by decide) (fun hc => ?_) (fun hc => ?_)
    · rw [if_pos hc] at hm
      refine lv_iconst (v := 0) hx hb dX11_in_17 (by decide) ?_
      cases hm
      exact retZ X hH rfl dX11_in_18
    · rw [if_neg hc] at hm
      refine lv_iconst (v := 1) hx hb dX11_in_13 (by decide) ?_
      refine lv_goto hx hb dX11_in_14 (tgt := 18) (by decide) ?_
      cases hm
      exact retZ X hH rfl dX11_in_18
/-! X11_isPass -/
def mX11_isPass (h : Mm) (a1 : Int32) : Option Int32 := bd1 (mX11_in h a1.toInt64 (0 : Int64) ((h 0 16) - (1 : Int32)).toInt64) (fun v1 => gB v1 (some v1))
set_option maxRecDepth 4000 in
theorem mt_X11_isPass {l : Launch} {D : va_G} {ad : Nat → Nat} {ac : Nat → ClassId} {h : Mm} {a1 : Int32} {r : Int32} (hm : mX11_isPass h a1 = some r) : Mt l D ad ac LM [] yX11_isPass cX11_isPass 2 (some .boolean) 1 [.ref (ad 0), .int a1] h (some (.int r)) h := by
  refine Mt.of (own := RX11) (by decide) rfl (Nat.le_of_ble_eq_true rfl) ?_
  intro p e s m below meth c ls X hH hl
  obtain ⟨hx, hb, hml, hown, hts, hr, hlk, hC, hI, hR⟩ := id X
  have hl : lv_has ls 2 [(0, .ref (ad 0)), (1, .int a1)] := hl
  rw [mX11_isPass] at hm
  refine lv_iload_n hx hb dX11_isPass_0 rfl (lv_at hl 1 rfl) ?_
  refine lv_i2l hx hb dX11_isPass_1 rfl ?_
  refine lv_lconst (v := 0) hx hb dX11_isPass_2 (by decide) ?_
  refine lv_aload_n hx hb dX11_isPass_3 rfl (lv_at hl 0 rfl) ?_
  refine gI X hH fl_X11_124 lM_0 rfl dX11_isPass_4 ?_
  refine lv_iconst (v := 1) hx hb dX11_isPass_7 (by decide) ?_
  refine lv_isub hx hb dX11_isPass_8 ?_
  refine lv_i2l hx hb dX11_isPass_9 rfl ?_
  obtain ⟨v1, hq, hm⟩ := bd1_some hm
  refine cSi (As := [.long a1.toInt64, .long (0 : Int64), .long ((h 0 16) - (1 : Int32)).toInt64]) X hH kl_X11_93 ks_X11_in (mt_X11_in hq) rfl (by decide) hl.1 rfl (Nat.le_of_ble_eq_true rfl) dX11_isPass_10 (fun H locs hH => ?_)
  obtain ⟨hgn, hm⟩ := gB_some hm
  cases hm
  exact retZ X hH hgn dX11_isPass_13
/-! X11_wide -/
def mX11_wide (h : Mm) (a1 : Int32) : Option Int32 := if (6 : Int32) ≤ ((h 0 16) - a1) then (some (6 : Int32)) else (some ((h 0 16) - a1))
set_option maxRecDepth 4000 in
theorem mt_X11_wide {l : Launch} {D : va_G} {ad : Nat → Nat} {ac : Nat → ClassId} {h : Mm} {a1 : Int32} {r : Int32} (hm : mX11_wide h a1 = some r) : Mt l D ad ac LM [] yX11_wide cX11_wide 2 (some .int) 0 [.ref (ad 0), .int a1] h (some (.int r)) h := by
  refine Mt.of (own := RX11) (by decide) rfl (Nat.le_of_ble_eq_true rfl) ?_
  intro p e s m below meth c ls X hH hl
  obtain ⟨hx, hb, hml, hown, hts, hr, hlk, hC, hI, hR⟩ := id X
  have hl : lv_has ls 2 [(0, .ref (ad 0)), (1, .int a1)] := hl
  rw [mX11_wide] at hm
  refine lv_aload_n hx hb dX11_wide_0 rfl (lv_at hl 0 rfl) ?_
  refine gI X hH fl_X11_124 lM_0 rfl dX11_wide_1 ?_
  refine lv_iload_n hx hb dX11_wide_4 rfl (lv_at hl 1 rfl) ?_
  refine lv_isub hx hb dX11_wide_5 ?_
  refine lv_bipush (v := 6) hx hb dX11_wide_6 (by decide) ?_
  refine lv_icmp_ge hx hb dX11_wide_8 (tgt := 20) (by decide) (fun hc => ?_) (fun hc => ?_)
  · rw [if_pos hc] at hm
    refine lv_bipush (v := 6) hx hb dX11_wide_20 (by decide) ?_
    cases hm
    exact retI X hH dX11_wide_22
  · rw [if_neg hc] at hm
    refine lv_aload_n hx hb dX11_wide_11 rfl (lv_at hl 0 rfl) ?_
    refine gI X hH fl_X11_124 lM_0 rfl dX11_wide_12 ?_
    refine lv_iload_n hx hb dX11_wide_15 rfl (lv_at hl 1 rfl) ?_
    refine lv_isub hx hb dX11_wide_16 ?_
    refine lv_goto hx hb dX11_wide_17 (tgt := 22) (by decide) ?_
    cases hm
    exact retI X hH dX11_wide_22
/-! X11_fits -/
def mX11_fits_128 (h : Mm) (x4 : Int32) : Option Int32 := if x4 = 0 then (some (1 : Int32)) else (some (0 : Int32))
set_option maxRecDepth 4000 in
theorem wX11_fits_128 {p : Program} {l : Launch} {e : Env} {s : State} {m : MethodId} {args : Array Value} {below : List Frame} {meth : Method} {c : Code} {D : va_G} {ad : Nat → Nat} {ac : Nat → ClassId} {h : Mm} {r : Int32} (X : Fx p s m args meth c cX11_fits 5 RX11 (some .boolean) D ad ac LM []) : ∀ (x4 : Int32) (H : Heap) (locs : List Loc) (ls : Array Slot), mX11_fits_128 h x4 = some r → Hp D ad ac LM h s H locs → lv_has ls 5 [(4, .int x4)] → W p l e (rmD 0) s m args below meth c H locs 0 0 (MQ below (QU D ad ac LM (some (.int r)) h s.heap.size) args s 0 0 (Aa ad LM.length s.heap.size)) (F0 m 128 ls []) := by
  obtain ⟨hx, hb, hml, hown, hts, hr, hlk, hC, hI, hR⟩ := id X
  intro x4 H locs ls hm hH hl
  rw [mX11_fits_128] at hm
  refine lv_iload hx hb dX11_fits_128 (lv_at hl 0 rfl) ?_
  refine lv_if_ne hx hb dX11_fits_130 (tgt := 137) (by decide) (fun hc => ?_) (fun hc => ?_)
  · rw [if_neg hc] at hm
    refine lv_iconst (v := 0) hx hb dX11_fits_137 (by decide) ?_
    cases hm
    exact retZ X hH rfl dX11_fits_138
  · rw [if_pos hc] at hm
    refine lv_iconst (v := 1) hx hb dX11_fits_133 (by decide) ?_
    refine lv_goto hx hb dX11_fits_134 (tgt := 138) (by decide) ?_
    cases hm
    exact retZ X hH rfl dX11_fits_138
def mX11_fits_85 (h : Mm) (x1 : Int32) (x2 : Int32) (x3 : Int32) (t0 : Int32) : Option Int32 := gIn ((3 : Int32) * x2) 12 (gIn x1 24 (if (h 4 ((3 : Int32) * x2).toNatClampNeg) = (h 13 x1.toNatClampNeg) then (if x3 = (2 : Int32) then (mX11_fits_128 h t0) else (gIn x1 24 (gIn (((5 : Int32) * (h 12 x1.toNatClampNeg)) + (2 : Int32)) 20 (if x3 = (h 2 (((5 : Int32) * (h 12 x1.toNatClampNeg)) + (2 : Int32)).toNatClampNeg) then (mX11_fits_128 h t0) else (some (0 : Int32)))))) else (some (0 : Int32))))
set_option maxRecDepth 4000 in
theorem wX11_fits_85 {p : Program} {l : Launch} {e : Env} {s : State} {m : MethodId} {args : Array Value} {below : List Frame} {meth : Method} {c : Code} {D : va_G} {ad : Nat → Nat} {ac : Nat → ClassId} {h : Mm} {r : Int32} (X : Fx p s m args meth c cX11_fits 5 RX11 (some .boolean) D ad ac LM []) : ∀ (x1 : Int32) (x2 : Int32) (x3 : Int32) (t0 : Int32) (H : Heap) (locs : List Loc) (ls : Array Slot), mX11_fits_85 h x1 x2 x3 t0 = some r → Hp D ad ac LM h s H locs → lv_has ls 5 [(0, .ref (ad 0)), (1, .int x1), (2, .int x2), (3, .int x3)] → W p l e (rmD 0) s m args below meth c H locs 0 0 (MQ below (QU D ad ac LM (some (.int r)) h s.heap.size) args s 0 0 (Aa ad LM.length s.heap.size)) (F0 m 85 ls [.int t0]) := by
  obtain ⟨hx, hb, hml, hown, hts, hr, hlk, hC, hI, hR⟩ := id X
  intro x1 x2 x3 t0 H locs ls hm hH hl
  rw [mX11_fits_85] at hm
  refine lv_istore (lv' := [(4, .int t0), (0, .ref (ad 0)), (1, .int x1), (2, .int x2), (3, .int x3)]) hx hb dX11_fits_85 hl (by decide) rfl (fun ls hl => ?_)
  refine lv_aload_n hx hb dX11_fits_87 rfl (lv_at hl 1 rfl) ?_
  refine gR X hH fl_X11_19 lM_0 rfl dX11_fits_88 ?_
  refine lv_iconst (v := 3) hx hb dX11_fits_91 (by decide) ?_
  refine lv_iload_n hx hb dX11_fits_92 rfl (lv_at hl 3 rfl) ?_
  refine lv_imul hx hb dX11_fits_93 ?_
  obtain ⟨hin1, hm⟩ := gIn_some hm
  refine ild X hH lM_4 hin1 dX11_fits_94 ?_
  refine lv_aload_n hx hb dX11_fits_95 rfl (lv_at hl 1 rfl) ?_
  refine gR X hH fl_X11_46 lM_0 rfl dX11_fits_96 ?_
  refine lv_iload_n hx hb dX11_fits_99 rfl (lv_at hl 2 rfl) ?_
  obtain ⟨hin2, hm⟩ := gIn_some hm
  refine ild X hH lM_13 hin2 dX11_fits_100 ?_
  refine lv_icmp_ne hx hb dX11_fits_101 (tgt := 137) (by decide) (fun hc => ?_) (fun hc => ?_)
  · rw [if_neg hc] at hm
    refine lv_iconst (v := 0) hx hb dX11_fits_137 (by decide) ?_
    cases hm
    exact retZ X hH rfl dX11_fits_138
  · rw [if_pos hc] at hm
    refine lv_iload_n hx hb dX11_fits_104 rfl (lv_at hl 4 rfl) ?_
    refine lv_iconst (v := 2) hx hb dX11_fits_105 (by decide) ?_
    refine lv_icmp_eq hx hb dX11_fits_106 (tgt := 128) (by decide) (fun hc => ?_) (fun hc => ?_)
    · rw [if_pos hc] at hm
      exact wX11_fits_128 X t0 _ _ _ hm hH (lv_sub hl [0] rfl)
    · rw [if_neg hc] at hm
      refine lv_iload_n hx hb dX11_fits_109 rfl (lv_at hl 4 rfl) ?_
      refine lv_aload_n hx hb dX11_fits_110 rfl (lv_at hl 1 rfl) ?_
      refine gR X hH fl_X11_13 lM_0 rfl dX11_fits_111 ?_
      refine lv_iconst (v := 5) hx hb dX11_fits_114 (by decide) ?_
      refine lv_aload_n hx hb dX11_fits_115 rfl (lv_at hl 1 rfl) ?_
      refine gR X hH fl_X11_43 lM_0 rfl dX11_fits_116 ?_
      refine lv_iload_n hx hb dX11_fits_119 rfl (lv_at hl 2 rfl) ?_
      obtain ⟨hin3, hm⟩ := gIn_some hm
      refine ild X hH lM_12 hin3 dX11_fits_120 ?_
      refine lv_imul hx hb dX11_fits_121 ?_
      refine lv_iconst (v := 2) hx hb dX11_fits_122 (by decide) ?_
      refine lv_iadd hx hb dX11_fits_123 ?_
      obtain ⟨hin4, hm⟩ := gIn_some hm
      refine ild X hH lM_2 hin4 dX11_fits_124 ?_
      refine lv_icmp_ne hx hb dX11_fits_125 (tgt := 137) (by decide) (fun hc => ?_) (fun hc => ?_)
      · rw [if_neg hc] at hm
        refine lv_iconst (v := 0) hx hb dX11_fits_137 (by decide) ?_
        cases hm
        exact retZ X hH rfl dX11_fits_138
      · rw [if_pos hc] at hm
        exact wX11_fits_128 X t0 _ _ _ hm hH (lv_sub hl [0] rfl)
def mX11_fits_84 (h : Mm) (x1 : Int32) (x2 : Int32) (x3 : Int32) : Option Int32 := mX11_fits_85 h x1 x2 x3 (0 : Int32)
set_option maxRecDepth 4000 in
theorem wX11_fits_84 {p : Program} {l : Launch} {e : Env} {s : State} {m : MethodId} {args : Array Value} {below : List Frame} {meth : Method} {c : Code} {D : va_G} {ad : Nat → Nat} {ac : Nat → ClassId} {h : Mm} {r : Int32} (X : Fx p s m args meth c cX11_fits 5 RX11 (some .boolean) D ad ac LM []) : ∀ (x1 : Int32) (x2 : Int32) (x3 : Int32) (H : Heap) (locs : List Loc) (ls : Array Slot), mX11_fits_84 h x1 x2 x3 = some r → Hp D ad ac LM h s H locs → lv_has ls 5 [(0, .ref (ad 0)), (1, .int x1), (2, .int x2), (3, .int x3)] → W p l e (rmD 0) s m args below meth c H locs 0 0 (MQ below (QU D ad ac LM (some (.int r)) h s.heap.size) args s 0 0 (Aa ad LM.length s.heap.size)) (F0 m 84 ls []) := by
  obtain ⟨hx, hb, hml, hown, hts, hr, hlk, hC, hI, hR⟩ := id X
  intro x1 x2 x3 H locs ls hm hH hl
  rw [mX11_fits_84] at hm
  refine lv_iconst (v := 0) hx hb dX11_fits_84 (by decide) ?_
  exact wX11_fits_85 X x1 x2 x3 (0 : Int32) _ _ _ hm hH (lv_sub hl [0, 1, 2, 3] rfl)
def mX11_fits (h : Mm) (a1 : Int32) (a2 : Int32) : Option Int32 := gIn (((3 : Int32) * a2) + (1 : Int32)) 12 (mlet (h 4 (((3 : Int32) * a2) + (1 : Int32)).toNatClampNeg) (fun u2 => gIn ((24 : Int32) + ((2 : Int32) * a2)) 32 (gIn (((24 : Int32) + ((2 : Int32) * a2)) + (1 : Int32)) 32 (if (h 15 (((24 : Int32) + ((2 : Int32) * a2)) + (1 : Int32)).toNatClampNeg) < (h 15 ((24 : Int32) + ((2 : Int32) * a2)).toNatClampNeg) then (mX11_fits_84 h a1 a2 u2) else (gIn a1 24 (gIn (((24 : Int32) + ((2 : Int32) * a2)) + (1 : Int32)) 32 (if (h 15 (((24 : Int32) + ((2 : Int32) * a2)) + (1 : Int32)).toNatClampNeg) < (h 10 a1.toNatClampNeg) then (mX11_fits_84 h a1 a2 u2) else (gIn a1 24 (gIn ((24 : Int32) + ((2 : Int32) * a2)) 32 (if (h 11 a1.toNatClampNeg) < (h 15 ((24 : Int32) + ((2 : Int32) * a2)).toNatClampNeg) then (mX11_fits_84 h a1 a2 u2) else (mX11_fits_85 h a1 a2 u2 (1 : Int32))))))))))))
set_option maxRecDepth 4000 in
theorem mt_X11_fits {l : Launch} {D : va_G} {ad : Nat → Nat} {ac : Nat → ClassId} {h : Mm} {a1 : Int32} {a2 : Int32} {r : Int32} (hm : mX11_fits h a1 a2 = some r) : Mt l D ad ac LM [] yX11_fits cX11_fits 5 (some .boolean) 0 [.ref (ad 0), .int a1, .int a2] h (some (.int r)) h := by
  refine Mt.of (own := RX11) (by decide) rfl (Nat.le_of_ble_eq_true rfl) ?_
  intro p e s m below meth c ls X hH hl
  obtain ⟨hx, hb, hml, hown, hts, hr, hlk, hC, hI, hR⟩ := id X
  have hl : lv_has ls 5 [(0, .ref (ad 0)), (1, .int a1), (2, .int a2)] := hl
  rw [mX11_fits] at hm
  refine lv_aload_n hx hb dX11_fits_0 rfl (lv_at hl 0 rfl) ?_
  refine gR X hH fl_X11_19 lM_0 rfl dX11_fits_1 ?_
  refine lv_iconst (v := 3) hx hb dX11_fits_4 (by decide) ?_
  refine lv_iload_n hx hb dX11_fits_5 rfl (lv_at hl 2 rfl) ?_
  refine lv_imul hx hb dX11_fits_6 ?_
  refine lv_iconst (v := 1) hx hb dX11_fits_7 (by decide) ?_
  refine lv_iadd hx hb dX11_fits_8 ?_
  obtain ⟨hin1, hm⟩ := gIn_some hm
  refine ild X hH lM_4 hin1 dX11_fits_9 ?_
  obtain ⟨u2, eu2, hm⟩ := mlet_some hm
  refine W.eq (g2 := F0 m 10 ls (.int u2 :: [])) (by rw [eu2]) ?_
  refine lv_istore_n (lv' := [(3, .int u2), (0, .ref (ad 0)), (1, .int a1), (2, .int a2)]) hx hb dX11_fits_10 rfl hl (by decide) rfl (fun ls hl => ?_)
  refine lv_aload_n hx hb dX11_fits_11 rfl (lv_at hl 1 rfl) ?_
  refine gR X hH fl_X11_52 lM_0 rfl dX11_fits_12 ?_
  refine lv_bipush (v := 24) hx hb dX11_fits_15 (by decide) ?_
  refine lv_iconst (v := 2) hx hb dX11_fits_17 (by decide) ?_
  refine lv_iload_n hx hb dX11_fits_18 rfl (lv_at hl 3 rfl) ?_
  refine lv_imul hx hb dX11_fits_19 ?_
  refine lv_iadd hx hb dX11_fits_20 ?_
  obtain ⟨hin3, hm⟩ := gIn_some hm
  refine ild X hH lM_15 hin3 dX11_fits_21 ?_
  refine lv_aload_n hx hb dX11_fits_22 rfl (lv_at hl 1 rfl) ?_
  refine gR X hH fl_X11_52 lM_0 rfl dX11_fits_23 ?_
  refine lv_bipush (v := 24) hx hb dX11_fits_26 (by decide) ?_
  refine lv_iconst (v := 2) hx hb dX11_fits_28 (by decide) ?_
  refine lv_iload_n hx hb dX11_fits_29 rfl (lv_at hl 3 rfl) ?_
  refine lv_imul hx hb dX11_fits_30 ?_
  refine lv_iadd hx hb dX11_fits_31 ?_
  refine lv_iconst (v := 1) hx hb dX11_fits_32 (by decide) ?_
  refine lv_iadd hx hb dX11_fits_33 ?_
  obtain ⟨hin4, hm⟩ := gIn_some hm
  refine ild X hH lM_15 hin4 dX11_fits_34 ?_
  refine lv_icmp_gt hx hb dX11_fits_35 (tgt := 84) (by decide) (fun hc => ?_) (fun hc => ?_)
  · rw [if_pos hc] at hm
    exact wX11_fits_84 X a1 a2 u2 _ _ _ hm hH (lv_sub hl [1, 2, 3, 0] rfl)
  · rw [if_neg hc] at hm
    refine lv_aload_n hx hb dX11_fits_38 rfl (lv_at hl 1 rfl) ?_
    refine gR X hH fl_X11_37 lM_0 rfl dX11_fits_39 ?_
    refine lv_iload_n hx hb dX11_fits_42 rfl (lv_at hl 2 rfl) ?_
    obtain ⟨hin5, hm⟩ := gIn_some hm
    refine ild X hH lM_10 hin5 dX11_fits_43 ?_
    refine lv_aload_n hx hb dX11_fits_44 rfl (lv_at hl 1 rfl) ?_
    refine gR X hH fl_X11_52 lM_0 rfl dX11_fits_45 ?_
    refine lv_bipush (v := 24) hx hb dX11_fits_48 (by decide) ?_
    refine lv_iconst (v := 2) hx hb dX11_fits_50 (by decide) ?_
    refine lv_iload_n hx hb dX11_fits_51 rfl (lv_at hl 3 rfl) ?_
    refine lv_imul hx hb dX11_fits_52 ?_
    refine lv_iadd hx hb dX11_fits_53 ?_
    refine lv_iconst (v := 1) hx hb dX11_fits_54 (by decide) ?_
    refine lv_iadd hx hb dX11_fits_55 ?_
    obtain ⟨hin6, hm⟩ := gIn_some hm
    refine ild X hH lM_15 hin6 dX11_fits_56 ?_
    refine lv_icmp_gt hx hb dX11_fits_57 (tgt := 84) (by decide) (fun hc => ?_) (fun hc => ?_)
    · rw [if_pos hc] at hm
      exact wX11_fits_84 X a1 a2 u2 _ _ _ hm hH (lv_sub hl [1, 2, 3, 0] rfl)
    · rw [if_neg hc] at hm
      refine lv_aload_n hx hb dX11_fits_60 rfl (lv_at hl 1 rfl) ?_
      refine gR X hH fl_X11_40 lM_0 rfl dX11_fits_61 ?_
      refine lv_iload_n hx hb dX11_fits_64 rfl (lv_at hl 2 rfl) ?_
      obtain ⟨hin7, hm⟩ := gIn_some hm
      refine ild X hH lM_11 hin7 dX11_fits_65 ?_
      refine lv_aload_n hx hb dX11_fits_66 rfl (lv_at hl 1 rfl) ?_
      refine gR X hH fl_X11_52 lM_0 rfl dX11_fits_67 ?_
      refine lv_bipush (v := 24) hx hb dX11_fits_70 (by decide) ?_
      refine lv_iconst (v := 2) hx hb dX11_fits_72 (by decide) ?_
      refine lv_iload_n hx hb dX11_fits_73 rfl (lv_at hl 3 rfl) ?_
      refine lv_imul hx hb dX11_fits_74 ?_
      refine lv_iadd hx hb dX11_fits_75 ?_
      obtain ⟨hin8, hm⟩ := gIn_some hm
      refine ild X hH lM_15 hin8 dX11_fits_76 ?_
      refine lv_icmp_lt hx hb dX11_fits_77 (tgt := 84) (by decide) (fun hc => ?_) (fun hc => ?_)
      · rw [if_pos hc] at hm
        exact wX11_fits_84 X a1 a2 u2 _ _ _ hm hH (lv_sub hl [1, 2, 3, 0] rfl)
      · rw [if_neg hc] at hm
        refine lv_iconst (v := 1) hx hb dX11_fits_80 (by decide) ?_
        refine lv_goto hx hb dX11_fits_81 (tgt := 85) (by decide) ?_
        exact wX11_fits_85 X a1 a2 u2 (1 : Int32) _ _ _ hm hH (lv_sub hl [1, 2, 3, 0] rfl)
/-! X11_together -/
def mX11_together_48 (h : Mm) : Option Int32 := some (1 : Int32)
set_option maxRecDepth 4000 in
theorem wX11_together_48 {p : Program} {l : Launch} {e : Env} {s : State} {m : MethodId} {args : Array Value} {below : List Frame} {meth : Method} {c : Code} {D : va_G} {ad : Nat → Nat} {ac : Nat → ClassId} {h : Mm} {r : Int32} (X : Fx p s m args meth c cX11_together 5 RX11 (some .boolean) D ad ac LM []) : ∀ (H : Heap) (locs : List Loc) (ls : Array Slot), mX11_together_48 h = some r → Hp D ad ac LM h s H locs → lv_has ls 5 [] → W p l e (rmD 0) s m args below meth c H locs 0 0 (MQ below (QU D ad ac LM (some (.int r)) h s.heap.size) args s 0 0 (Aa ad LM.length s.heap.size)) (F0 m 48 ls []) := by
  obtain ⟨hx, hb, hml, hown, hts, hr, hlk, hC, hI, hR⟩ := id X
  intro  H locs ls hm hH hl
  rw [mX11_together_48] at hm
  refine lv_iconst (v := 1) hx hb dX11_together_48 (by decide) ?_
  refine lv_goto hx hb dX11_together_49 (tgt := 53) (by decide) ?_
  cases hm
  exact retZ X hH rfl dX11_together_53
def mX11_together (h : Mm) (a1 : Int32) (a2 : Int32) (a3 : Int32) : Option Int32 := gIn (((3 : Int32) * a3) + (2 : Int32)) 12 (mlet (h 4 (((3 : Int32) * a3) + (2 : Int32)).toNatClampNeg) (fun u2 => gIn a2 24 (gIn a1 24 (if u2 < ((h 10 a2.toNatClampNeg) - (h 11 a1.toNatClampNeg)) then (mX11_together_48 h ) else (gIn a1 24 (gIn a2 24 (if ((h 10 a1.toNatClampNeg) - (h 11 a2.toNatClampNeg)) ≤ u2 then (some (0 : Int32)) else (mX11_together_48 h ))))))))
set_option maxRecDepth 4000 in
theorem mt_X11_together {l : Launch} {D : va_G} {ad : Nat → Nat} {ac : Nat → ClassId} {h : Mm} {a1 : Int32} {a2 : Int32} {a3 : Int32} {r : Int32} (hm : mX11_together h a1 a2 a3 = some r) : Mt l D ad ac LM [] yX11_together cX11_together 5 (some .boolean) 0 [.ref (ad 0), .int a1, .int a2, .int a3] h (some (.int r)) h := by
  refine Mt.of (own := RX11) (by decide) rfl (Nat.le_of_ble_eq_true rfl) ?_
  intro p e s m below meth c ls X hH hl
  obtain ⟨hx, hb, hml, hown, hts, hr, hlk, hC, hI, hR⟩ := id X
  have hl : lv_has ls 5 [(0, .ref (ad 0)), (1, .int a1), (2, .int a2), (3, .int a3)] := hl
  rw [mX11_together] at hm
  refine lv_aload_n hx hb dX11_together_0 rfl (lv_at hl 0 rfl) ?_
  refine gR X hH fl_X11_19 lM_0 rfl dX11_together_1 ?_
  refine lv_iconst (v := 3) hx hb dX11_together_4 (by decide) ?_
  refine lv_iload_n hx hb dX11_together_5 rfl (lv_at hl 3 rfl) ?_
  refine lv_imul hx hb dX11_together_6 ?_
  refine lv_iconst (v := 2) hx hb dX11_together_7 (by decide) ?_
  refine lv_iadd hx hb dX11_together_8 ?_
  obtain ⟨hin1, hm⟩ := gIn_some hm
  refine ild X hH lM_4 hin1 dX11_together_9 ?_
  obtain ⟨u2, eu2, hm⟩ := mlet_some hm
  refine W.eq (g2 := F0 m 10 ls (.int u2 :: [])) (by rw [eu2]) ?_
  refine lv_istore (lv' := [(4, .int u2), (0, .ref (ad 0)), (1, .int a1), (2, .int a2), (3, .int a3)]) hx hb dX11_together_10 hl (by decide) rfl (fun ls hl => ?_)
  refine lv_aload_n hx hb dX11_together_12 rfl (lv_at hl 1 rfl) ?_
  refine gR X hH fl_X11_37 lM_0 rfl dX11_together_13 ?_
  refine lv_iload_n hx hb dX11_together_16 rfl (lv_at hl 3 rfl) ?_
  obtain ⟨hin3, hm⟩ := gIn_some hm
  refine ild X hH lM_10 hin3 dX11_together_17 ?_
  refine lv_aload_n hx hb dX11_together_18 rfl (lv_at hl 1 rfl) ?_
  refine gR X hH fl_X11_40 lM_0 rfl dX11_together_19 ?_
  refine lv_iload_n hx hb dX11_together_22 rfl (lv_at hl 2 rfl) ?_
  obtain ⟨hin4, hm⟩ := gIn_some hm
  refine ild X hH lM_11 hin4 dX11_together_23 ?_
  refine lv_isub hx hb dX11_together_24 ?_
  refine lv_iload hx hb dX11_together_25 (lv_at hl 0 rfl) ?_
  refine lv_icmp_gt hx hb dX11_together_27 (tgt := 48) (by decide) (fun hc => ?_) (fun hc => ?_)
  · rw [if_pos hc] at hm
    exact wX11_together_48 X  _ _ _ hm hH (lv_sub hl [] rfl)
  · rw [if_neg hc] at hm
    refine lv_aload_n hx hb dX11_together_30 rfl (lv_at hl 1 rfl) ?_
    refine gR X hH fl_X11_37 lM_0 rfl dX11_together_31 ?_
    refine lv_iload_n hx hb dX11_together_34 rfl (lv_at hl 2 rfl) ?_
    obtain ⟨hin5, hm⟩ := gIn_some hm
    refine ild X hH lM_10 hin5 dX11_together_35 ?_
    refine lv_aload_n hx hb dX11_together_36 rfl (lv_at hl 1 rfl) ?_
    refine gR X hH fl_X11_40 lM_0 rfl dX11_together_37 ?_
    refine lv_iload_n hx hb dX11_together_40 rfl (lv_at hl 3 rfl) ?_
    obtain ⟨hin6, hm⟩ := gIn_some hm
    refine ild X hH lM_11 hin6 dX11_together_41 ?_
    refine lv_isub hx hb dX11_together_42 ?_
    refine lv_iload hx hb dX11_together_43 (lv_at hl 0 rfl) ?_
    refine lv_icmp_le hx hb dX11_together_45 (tgt := 52) (by decide) (fun hc => ?_) (fun hc => ?_)
    · rw [if_pos hc] at hm
      refine lv_iconst (v := 0) hx hb dX11_together_52 (by decide) ?_
      cases hm
      exact retZ X hH rfl dX11_together_53
    · rw [if_neg hc] at hm
      exact wX11_together_48 X  _ _ _ hm hH (lv_sub hl [] rfl)
/-! X11_overlap -/
def mX11_overlap (h : Mm) (a1 : Int32) (a2 : Int32) : Option Int32 := gIn a1 24 (gIn a2 24 (if (h 11 a2.toNatClampNeg) < (h 10 a1.toNatClampNeg) then (some (0 : Int32)) else (gIn a2 24 (gIn a1 24 (if (h 11 a1.toNatClampNeg) < (h 10 a2.toNatClampNeg) then (some (0 : Int32)) else (some (1 : Int32)))))))
set_option maxRecDepth 4000 in
theorem mt_X11_overlap {l : Launch} {D : va_G} {ad : Nat → Nat} {ac : Nat → ClassId} {h : Mm} {a1 : Int32} {a2 : Int32} {r : Int32} (hm : mX11_overlap h a1 a2 = some r) : Mt l D ad ac LM [] yX11_overlap cX11_overlap 3 (some .boolean) 0 [.ref (ad 0), .int a1, .int a2] h (some (.int r)) h := by
  refine Mt.of (own := RX11) (by decide) rfl (Nat.le_of_ble_eq_true rfl) ?_
  intro p e s m below meth c ls X hH hl
  obtain ⟨hx, hb, hml, hown, hts, hr, hlk, hC, hI, hR⟩ := id X
  have hl : lv_has ls 3 [(0, .ref (ad 0)), (1, .int a1), (2, .int a2)] := hl
  rw [mX11_overlap] at hm
  refine lv_aload_n hx hb dX11_overlap_0 rfl (lv_at hl 0 rfl) ?_
  refine gR X hH fl_X11_37 lM_0 rfl dX11_overlap_1 ?_
  refine lv_iload_n hx hb dX11_overlap_4 rfl (lv_at hl 1 rfl) ?_
  obtain ⟨hin1, hm⟩ := gIn_some hm
  refine ild X hH lM_10 hin1 dX11_overlap_5 ?_
  refine lv_aload_n hx hb dX11_overlap_6 rfl (lv_at hl 0 rfl) ?_
  refine gR X hH fl_X11_40 lM_0 rfl dX11_overlap_7 ?_
  refine lv_iload_n hx hb dX11_overlap_10 rfl (lv_at hl 2 rfl) ?_
  obtain ⟨hin2, hm⟩ := gIn_some hm
  refine ild X hH lM_11 hin2 dX11_overlap_11 ?_
  refine lv_icmp_gt hx hb dX11_overlap_12 (tgt := 34) (by decide) (fun hc => ?_) (fun hc => ?_)
  · rw [if_pos hc] at hm
    refine lv_iconst (v := 0) hx hb dX11_overlap_34 (by decide) ?_
    cases hm
    exact retZ X hH rfl dX11_overlap_35
  · rw [if_neg hc] at hm
    refine lv_aload_n hx hb dX11_overlap_15 rfl (lv_at hl 0 rfl) ?_
    refine gR X hH fl_X11_37 lM_0 rfl dX11_overlap_16 ?_
    refine lv_iload_n hx hb dX11_overlap_19 rfl (lv_at hl 2 rfl) ?_
    obtain ⟨hin3, hm⟩ := gIn_some hm
    refine ild X hH lM_10 hin3 dX11_overlap_20 ?_
    refine lv_aload_n hx hb dX11_overlap_21 rfl (lv_at hl 0 rfl) ?_
    refine gR X hH fl_X11_40 lM_0 rfl dX11_overlap_22 ?_
    refine lv_iload_n hx hb dX11_overlap_25 rfl (lv_at hl 1 rfl) ?_
    obtain ⟨hin4, hm⟩ := gIn_some hm
    refine ild X hH lM_11 hin4 dX11_overlap_26 ?_
    refine lv_icmp_gt hx hb dX11_overlap_27 (tgt := 34) (by decide) (fun hc => ?_) (fun hc => ?_)
    · rw [if_pos hc] at hm
      refine lv_iconst (v := 0) hx hb dX11_overlap_34 (by decide) ?_
      cases hm
      exact retZ X hH rfl dX11_overlap_35
    · rw [if_neg hc] at hm
      refine lv_iconst (v := 1) hx hb dX11_overlap_30 (by decide) ?_
      refine lv_goto hx hb dX11_overlap_31 (tgt := 35) (by decide) ?_
      cases hm
      exact retZ X hH rfl dX11_overlap_35
