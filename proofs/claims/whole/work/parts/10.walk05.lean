/-! X3_letterAt -/
def mX3_letterAt (h : Mm) (a1 : Int32) : Option Int32 := if a1 < 0 then (some (0 : Int32)) else (if (h 1 1) ≤ a1 then (some (0 : Int32)) else (gIn a1 200 (gCh (h 2 a1.toNatClampNeg) (some (h 2 a1.toNatClampNeg)))))
set_option maxRecDepth 4000 in
theorem mt_X3_letterAt {l : Launch} {D : va_G} {ad : Nat → Nat} {ac : Nat → ClassId} {h : Mm} {a1 : Int32} {r : Int32} (hm : mX3_letterAt h a1 = some r) : Mt l D ad ac LC rlC yX3_letterAt cX3_letterAt 2 (some .char) 0 [.ref (ad 1), .int a1] h (some (.int r)) h := by
  refine Mt.of (own := RX3) (by decide) rfl (Nat.le_of_ble_eq_true rfl) ?_
  intro p e s m below meth c ls X hH hl
  obtain ⟨hx, hb, hml, hown, hts, hr, hlk, hC, hI, hR⟩ := id X
  have hl : lv_has ls 2 [(0, .ref (ad 1)), (1, .int a1)] := hl
  rw [mX3_letterAt] at hm
  refine lv_iload_n hx hb dX3_letterAt_0 rfl (lv_at hl 1 rfl) ?_
  refine lv_if_lt hx hb dX3_letterAt_1 (tgt := 21) (by decide) (fun hc => ?_) (fun hc => ?_)
  · rw [if_pos hc] at hm
    refine lv_iconst (v := 0) hx hb dX3_letterAt_21 (by decide) ?_
    cases hm
    exact retZ X hH rfl dX3_letterAt_22
  · rw [if_neg hc] at hm
    refine lv_iload_n hx hb dX3_letterAt_4 rfl (lv_at hl 1 rfl) ?_
    refine lv_aload_n hx hb dX3_letterAt_5 rfl (lv_at hl 0 rfl) ?_
    refine gI X hH fl_X3_15 lC_1 rfl dX3_letterAt_6 ?_
    refine lv_icmp_ge hx hb dX3_letterAt_9 (tgt := 21) (by decide) (fun hc => ?_) (fun hc => ?_)
    · rw [if_pos hc] at hm
      refine lv_iconst (v := 0) hx hb dX3_letterAt_21 (by decide) ?_
      cases hm
      exact retZ X hH rfl dX3_letterAt_22
    · rw [if_neg hc] at hm
      refine lv_aload_n hx hb dX3_letterAt_12 rfl (lv_at hl 0 rfl) ?_
      refine gR X hH fl_X3_9 lC_1 rfl dX3_letterAt_13 ?_
      refine lv_iload_n hx hb dX3_letterAt_16 rfl (lv_at hl 1 rfl) ?_
      obtain ⟨hin1, hm⟩ := gIn_some hm
      refine cld X hH lC_2 hin1 dX3_letterAt_17 ?_
      refine lv_goto hx hb dX3_letterAt_18 (tgt := 22) (by decide) ?_
      obtain ⟨hgn, hm⟩ := gCh_some hm
      cases hm
      exact retZ X hH hgn dX3_letterAt_22
/-! X4_whyNot -/
def mX4_whyNot (h : Mm) (a1 : Int32) (a2 : Int32) : Option Int32 := gIn a1 24 (if (h 12 a1.toNatClampNeg) = (-1 : Int32) then (bd1 (mX4_fits h a1 a2) (fun v2 => if v2 = 0 then (some (2 : Int32)) else (bd1 (mX4_contactBits h) (fun v3 => bd1 (mX4_clashWith h v3 a1 a2) (fun v4 => some v4))))) else (some (1 : Int32)))
set_option maxRecDepth 4000 in
theorem mt_X4_whyNot {l : Launch} {D : va_G} {ad : Nat → Nat} {ac : Nat → ClassId} {h : Mm} {a1 : Int32} {a2 : Int32} {r : Int32} (hm : mX4_whyNot h a1 a2 = some r) : Mt l D ad ac LC rlC yX4_whyNot cX4_whyNot 3 (some .int) 4 [.ref (ad 3), .int a1, .int a2] h (some (.int r)) h := by
  refine Mt.of (own := RX4) (by decide) rfl (Nat.le_of_ble_eq_true rfl) ?_
  intro p e s m below meth c ls X hH hl
  obtain ⟨hx, hb, hml, hown, hts, hr, hlk, hC, hI, hR⟩ := id X
  have hl : lv_has ls 3 [(0, .ref (ad 3)), (1, .int a1), (2, .int a2)] := hl
  rw [mX4_whyNot] at hm
  refine lv_aload_n hx hb dX4_whyNot_0 rfl (lv_at hl 0 rfl) ?_
  refine gR X hH fl_X4_28 lC_3 rfl dX4_whyNot_1 ?_
  refine gR X hH fl_X4_49 lC_11 rfl dX4_whyNot_4 ?_
  refine lv_iload_n hx hb dX4_whyNot_7 rfl (lv_at hl 1 rfl) ?_
  obtain ⟨hin1, hm⟩ := gIn_some hm
  refine ild X hH lC_12 hin1 dX4_whyNot_8 ?_
  refine lv_iconst (v := (-1)) hx hb dX4_whyNot_9 (by decide) ?_
  refine lv_icmp_eq hx hb dX4_whyNot_10 (tgt := 15) (by decide) (fun hc => ?_) (fun hc => ?_)
  · rw [if_pos hc] at hm
    refine lv_aload_n hx hb dX4_whyNot_15 rfl (lv_at hl 0 rfl) ?_
    refine lv_iload_n hx hb dX4_whyNot_16 rfl (lv_at hl 1 rfl) ?_
    refine lv_iload_n hx hb dX4_whyNot_17 rfl (lv_at hl 2 rfl) ?_
    obtain ⟨v2, hq, hm⟩ := bd1_some hm
    refine cVi X hH kl_X4_94 kv_X4_fits (mt_X4_fits hq) lC_3 rfl rfl (by decide) hl.1 rfl (Nat.le_of_ble_eq_true rfl) dX4_whyNot_18 (fun H locs hH => ?_)
    refine lv_if_eq hx hb dX4_whyNot_21 (tgt := 37) (by decide) (fun hc => ?_) (fun hc => ?_)
    · rw [if_pos hc] at hm
      refine lv_iconst (v := 2) hx hb dX4_whyNot_37 (by decide) ?_
      cases hm
      exact retI X hH dX4_whyNot_38
    · rw [if_neg hc] at hm
      refine lv_aload_n hx hb dX4_whyNot_24 rfl (lv_at hl 0 rfl) ?_
      refine lv_aload_n hx hb dX4_whyNot_25 rfl (lv_at hl 0 rfl) ?_
      obtain ⟨v3, hq, hm⟩ := bd1_some hm
      refine cVi X hH kl_X4_107 kv_X4_contactBits (mt_X4_contactBits hq) lC_3 rfl rfl (by decide) hl.1 rfl (Nat.le_of_ble_eq_true rfl) dX4_whyNot_26 (fun H locs hH => ?_)
      refine lv_iload_n hx hb dX4_whyNot_29 rfl (lv_at hl 1 rfl) ?_
      refine lv_iload_n hx hb dX4_whyNot_30 rfl (lv_at hl 2 rfl) ?_
      obtain ⟨v4, hq, hm⟩ := bd1_some hm
      refine cVi X hH kl_X4_111 kv_X4_clashWith (mt_X4_clashWith hq) lC_3 rfl rfl (by decide) hl.1 rfl (Nat.le_of_ble_eq_true rfl) dX4_whyNot_31 (fun H locs hH => ?_)
      refine lv_goto hx hb dX4_whyNot_34 (tgt := 38) (by decide) ?_
      cases hm
      exact retI X hH dX4_whyNot_38
  · rw [if_neg hc] at hm
    refine lv_iconst (v := 1) hx hb dX4_whyNot_13 (by decide) ?_
    cases hm
    exact retI X hH dX4_whyNot_14
/-! X8_copyFrom_g67_11 -/
def mX8_copyFrom_g67_11 (j0 : Nat) (h : Mm) : Option Mm := gCp (0 : Int32) (0 : Int32) (nI 24) 24 24 (mlet (va_up h (69 + 4 * j0) (va_cpy (h 12) (h (69 + 4 * j0)) (0 : Int32).toNatClampNeg (0 : Int32).toNatClampNeg (nI 24).toNatClampNeg)) (fun h1 => gCp (0 : Int32) (0 : Int32) (nI 4) 4 4 (mlet (va_up h1 (70 + 4 * j0) (va_cpy (h1 13) (h1 (70 + 4 * j0)) (0 : Int32).toNatClampNeg (0 : Int32).toNatClampNeg (nI 4).toNatClampNeg)) (fun h3 => gCp (0 : Int32) (0 : Int32) (nI 4) 4 4 (mlet (va_up h3 (71 + 4 * j0) (va_cpy (h3 14) (h3 (71 + 4 * j0)) (0 : Int32).toNatClampNeg (0 : Int32).toNatClampNeg (nI 4).toNatClampNeg)) (fun h5 => some h5))))))
set_option maxRecDepth 4000 in
theorem mt_X8_copyFrom_g67_11 {l : Launch} {D : va_G} {ad : Nat → Nat} {ac : Nat → ClassId} {h : Mm} {h' : Mm} {j0 : Nat} (hj0 : j0 < 6) (hm : mX8_copyFrom_g67_11 j0 h = some h') : Mt l D ad ac LC rlC yX8_copyFrom cX8_copyFrom 2 none 1 [.ref (ad (68 + 4 * j0)), .ref (ad 11)] h none h' := by
  refine Mt.of (own := RX8) (by decide) rfl (Nat.le_of_ble_eq_true rfl) ?_
  intro p e s m below meth c ls X hH hl
  obtain ⟨hx, hb, hml, hown, hts, hr, hlk, hC, hI, hR⟩ := id X
  have hl : lv_has ls 2 [(0, .ref (ad (68 + 4 * j0))), (1, .ref (ad 11))] := hl
  rw [mX8_copyFrom_g67_11] at hm
  refine lv_aload_n hx hb dX8_copyFrom_0 rfl (lv_at hl 1 rfl) ?_
  refine gR X hH fl_X8_9 lC_11 rfl dX8_copyFrom_1 ?_
  refine lv_iconst (v := 0) hx hb dX8_copyFrom_4 (by decide) ?_
  refine lv_aload_n hx hb dX8_copyFrom_5 rfl (lv_at hl 0 rfl) ?_
  refine gR X hH fl_X8_9 (gl_67_0 hj0) rfl dX8_copyFrom_6 ?_
  refine lv_iconst (v := 0) hx hb dX8_copyFrom_9 (by decide) ?_
  refine lv_aload_n hx hb dX8_copyFrom_10 rfl (lv_at hl 0 rfl) ?_
  refine gR X hH fl_X8_9 (gl_67_0 hj0) rfl dX8_copyFrom_11 ?_
  refine aln X hH (gl_67_1 hj0) (by decide) dX8_copyFrom_14 ?_
  obtain ⟨hcp2, hm⟩ := gCp_some hm
  obtain ⟨h1, eh1, hm⟩ := mlet_some hm
  refine acp X hH ml_X8_27 lC_12 (gl_67_1 hj0) hcp2 (by decide) hl.1 (Nat.le_of_ble_eq_true rfl) dX8_copyFrom_15 (fun H locs hH => ?_)
  rw [← eh1] at hH
  refine lv_aload_n hx hb dX8_copyFrom_18 rfl (lv_at hl 1 rfl) ?_
  refine gR X hH fl_X8_15 lC_11 rfl dX8_copyFrom_19 ?_
  refine lv_iconst (v := 0) hx hb dX8_copyFrom_22 (by decide) ?_
  refine lv_aload_n hx hb dX8_copyFrom_23 rfl (lv_at hl 0 rfl) ?_
  refine gR X hH fl_X8_15 (gl_67_0 hj0) rfl dX8_copyFrom_24 ?_
  refine lv_iconst (v := 0) hx hb dX8_copyFrom_27 (by decide) ?_
  refine lv_aload_n hx hb dX8_copyFrom_28 rfl (lv_at hl 0 rfl) ?_
  refine gR X hH fl_X8_15 (gl_67_0 hj0) rfl dX8_copyFrom_29 ?_
  refine aln X hH (gl_67_2 hj0) (by decide) dX8_copyFrom_32 ?_
  obtain ⟨hcp4, hm⟩ := gCp_some hm
  obtain ⟨h3, eh3, hm⟩ := mlet_some hm
  refine acp X hH ml_X8_27 lC_13 (gl_67_2 hj0) hcp4 (by decide) hl.1 (Nat.le_of_ble_eq_true rfl) dX8_copyFrom_33 (fun H locs hH => ?_)
  rw [← eh3] at hH
  refine lv_aload_n hx hb dX8_copyFrom_36 rfl (lv_at hl 1 rfl) ?_
  refine gR X hH fl_X8_18 lC_11 rfl dX8_copyFrom_37 ?_
  refine lv_iconst (v := 0) hx hb dX8_copyFrom_40 (by decide) ?_
  refine lv_aload_n hx hb dX8_copyFrom_41 rfl (lv_at hl 0 rfl) ?_
  refine gR X hH fl_X8_18 (gl_67_0 hj0) rfl dX8_copyFrom_42 ?_
  refine lv_iconst (v := 0) hx hb dX8_copyFrom_45 (by decide) ?_
  refine lv_aload_n hx hb dX8_copyFrom_46 rfl (lv_at hl 0 rfl) ?_
  refine gR X hH fl_X8_18 (gl_67_0 hj0) rfl dX8_copyFrom_47 ?_
  refine aln X hH (gl_67_3 hj0) (by decide) dX8_copyFrom_50 ?_
  obtain ⟨hcp6, hm⟩ := gCp_some hm
  obtain ⟨h5, eh5, hm⟩ := mlet_some hm
  refine acp X hH ml_X8_27 lC_14 (gl_67_3 hj0) hcp6 (by decide) hl.1 (Nat.le_of_ble_eq_true rfl) dX8_copyFrom_51 (fun H locs hH => ?_)
  rw [← eh5] at hH
  cases hm
  exact retV X hH dX8_copyFrom_54
/-! X1_keep -/
def mX1_keep (h : Mm) : Option Mm := gIn (h 66 1) 6 (bdh (mX8_copyFrom_g67_11 (h 66 1).toNatClampNeg h) (fun h2 => gNz (6 : Int32) (mlet (wr h2 66 1 (((h2 66 1) + (1 : Int32)) - ((h2 66 1) + (1 : Int32)) / (6 : Int32) * (6 : Int32))) (fun h3 => bd1 (mJ9_min_7cf53 h3 ((h3 66 2) + (1 : Int32)) (6 : Int32)) (fun v4 => mlet (wr h3 66 2 v4) (fun h5 => some h5))))))
set_option maxRecDepth 4000 in
theorem mt_X1_keep {l : Launch} {D : va_G} {ad : Nat → Nat} {ac : Nat → ClassId} {h : Mm} {h' : Mm} (hm : mX1_keep h = some h') : Mt l D ad ac LC rlC yX1_keep cX1_keep 2 none 2 [.ref (ad 66), .ref (ad 11)] h none h' := by
  refine Mt.of (own := RX1) (by decide) rfl (Nat.le_of_ble_eq_true rfl) ?_
  intro p e s m below meth c ls X hH hl
  obtain ⟨hx, hb, hml, hown, hts, hr, hlk, hC, hI, hR⟩ := id X
  have hl : lv_has ls 2 [(0, .ref (ad 66)), (1, .ref (ad 11))] := hl
  rw [mX1_keep] at hm
  refine lv_aload_n hx hb dX1_keep_0 rfl (lv_at hl 0 rfl) ?_
  refine gR X hH fl_X1_11 lC_66 rfl dX1_keep_1 ?_
  refine lv_aload_n hx hb dX1_keep_4 rfl (lv_at hl 0 rfl) ?_
  refine gI X hH fl_X1_22 lC_66 rfl dX1_keep_5 ?_
  obtain ⟨hin1, hm⟩ := gIn_some hm
  refine ald X hH lC_67 (Or.inl rfl) (fun q => hin1 (Or.inl q)) (gk_67 hin1) dX1_keep_8 ?_
  refine lv_aload_n hx hb dX1_keep_9 rfl (lv_at hl 1 rfl) ?_
  obtain ⟨h2, hq, hm⟩ := bdh_some hm
  refine cVv X hH kl_X1_25 kv_X8_copyFrom (mt_X8_copyFrom_g67_11 (vp_lt hin1) hq) (gl_67_0 (vp_lt hin1)) rfl rfl (by decide) hl.1 rfl (Nat.le_of_ble_eq_true rfl) dX1_keep_10 (fun H locs hH => ?_)
  refine lv_aload_n hx hb dX1_keep_13 rfl (lv_at hl 0 rfl) ?_
  refine lv_aload_n hx hb dX1_keep_14 rfl (lv_at hl 0 rfl) ?_
  refine gI X hH fl_X1_22 lC_66 rfl dX1_keep_15 ?_
  refine lv_iconst (v := 1) hx hb dX1_keep_18 (by decide) ?_
  refine lv_iadd hx hb dX1_keep_19 ?_
  refine lv_bipush (v := 6) hx hb dX1_keep_20 (by decide) ?_
  obtain ⟨hnz, hm⟩ := gNz_some hm
  refine lv_irem hx hb dX1_keep_22 hnz ?_
  obtain ⟨h3, eh3, hm⟩ := mlet_some hm
  refine pI X hH fl_X1_22 fw_1_1 lC_66 rfl dX1_keep_23 (fun H locs hH => ?_)
  rw [← eh3] at hH
  refine lv_aload_n hx hb dX1_keep_26 rfl (lv_at hl 0 rfl) ?_
  refine lv_aload_n hx hb dX1_keep_27 rfl (lv_at hl 0 rfl) ?_
  refine gI X hH fl_X1_18 lC_66 rfl dX1_keep_28 ?_
  refine lv_iconst (v := 1) hx hb dX1_keep_31 (by decide) ?_
  refine lv_iadd hx hb dX1_keep_32 ?_
  refine lv_bipush (v := 6) hx hb dX1_keep_33 (by decide) ?_
  obtain ⟨v4, hq, hm⟩ := bd1_some hm
  refine cSi (As := [.int ((h3 66 2) + (1 : Int32)), .int (6 : Int32)]) X hH kl_X1_29 ks_J9_min_7cf53 (mt_J9_min_7cf53 hq) rfl (by decide) hl.1 rfl (Nat.le_of_ble_eq_true rfl) dX1_keep_35 (fun H locs hH => ?_)
  obtain ⟨h5, eh5, hm⟩ := mlet_some hm
  refine pI X hH fl_X1_18 fw_1_2 lC_66 rfl dX1_keep_38 (fun H locs hH => ?_)
  rw [← eh5] at hH
  cases hm
  exact retV X hH dX1_keep_41
/-! X6_forget -/
def mX6_forget (h : Mm) : Option Mm := mlet (wr h 22 9 (0 : Int32)) (fun h1 => some h1)
set_option maxRecDepth 4000 in
theorem mt_X6_forget {l : Launch} {D : va_G} {ad : Nat → Nat} {ac : Nat → ClassId} {h : Mm} {h' : Mm} (hm : mX6_forget h = some h') : Mt l D ad ac LC rlC yX6_forget cX6_forget 1 none 0 [.ref (ad 22)] h none h' := by
  refine Mt.of (own := RX6) (by decide) rfl (Nat.le_of_ble_eq_true rfl) ?_
  intro p e s m below meth c ls X hH hl
  obtain ⟨hx, hb, hml, hown, hts, hr, hlk, hC, hI, hR⟩ := id X
  have hl : lv_has ls 1 [(0, .ref (ad 22))] := hl
  rw [mX6_forget] at hm
  refine lv_aload_n hx hb dX6_forget_0 rfl (lv_at hl 0 rfl) ?_
  refine lv_iconst (v := 0) hx hb dX6_forget_1 (by decide) ?_
  obtain ⟨h1, eh1, hm⟩ := mlet_some hm
  refine pF X hH fl_X6_33 fw_6_9 lC_22 rfl (x := (0 : Int32)) rfl rfl dX6_forget_2 (fun H locs hH => ?_)
  rw [← eh1] at hH
  cases hm
  exact retV X hH dX6_forget_5
/-! X10_prepareChange -/
def mX10_prepareChange (h : Mm) : Option Mm := bdh (mX1_keep h) (fun h1 => bdh (mX6_forget h1) (fun h2 => some h2))
set_option maxRecDepth 4000 in
theorem mt_X10_prepareChange {l : Launch} {D : va_G} {ad : Nat → Nat} {ac : Nat → ClassId} {h : Mm} {h' : Mm} (hm : mX10_prepareChange h = some h') : Mt l D ad ac LC rlC yX10_prepareChange cX10_prepareChange 1 none 3 [.ref (ad 0)] h none h' := by
  refine Mt.of (own := RX10) (by decide) rfl (Nat.le_of_ble_eq_true rfl) ?_
  intro p e s m below meth c ls X hH hl
  obtain ⟨hx, hb, hml, hown, hts, hr, hlk, hC, hI, hR⟩ := id X
  have hl : lv_has ls 1 [(0, .ref (ad 0))] := hl
  rw [mX10_prepareChange] at hm
  refine lv_aload_n hx hb dX10_prepareChange_0 rfl (lv_at hl 0 rfl) ?_
  refine gR X hH fl_X10_26 lC_0 rfl dX10_prepareChange_1 ?_
  refine lv_aload_n hx hb dX10_prepareChange_4 rfl (lv_at hl 0 rfl) ?_
  refine gR X hH fl_X10_19 lC_0 rfl dX10_prepareChange_5 ?_
  refine gR X hH fl_X10_114 lC_3 rfl dX10_prepareChange_8 ?_
  obtain ⟨h1, hq, hm⟩ := bdh_some hm
  refine cVv X hH kl_X10_284 kv_X1_keep (mt_X1_keep hq) lC_66 rfl rfl (by decide) hl.1 rfl (Nat.le_of_ble_eq_true rfl) dX10_prepareChange_11 (fun H locs hH => ?_)
  refine lv_aload_n hx hb dX10_prepareChange_14 rfl (lv_at hl 0 rfl) ?_
  refine gR X hH fl_X10_47 lC_0 rfl dX10_prepareChange_15 ?_
  obtain ⟨h2, hq, hm⟩ := bdh_some hm
  refine cVv X hH kl_X10_204 kv_X6_forget (mt_X6_forget hq) lC_22 rfl rfl (by decide) hl.1 rfl (Nat.le_of_ble_eq_true rfl) dX10_prepareChange_18 (fun H locs hH => ?_)
  cases hm
  exact retV X hH dX10_prepareChange_21
/-! X10_give -/
def mX10_give (h : Mm) (a1 : Int32) (a2 : Int32) : Option (Int32 × Mm) := bd1 (mX5_has h a1) (fun v1 => if v1 = 0 then (some ((-1 : Int32), h)) else (bd1 (mX2_has_42 h a2) (fun v2 => if v2 = 0 then (some ((-1 : Int32), h)) else (bd1 (mX4_whyNot h a1 a2) (fun v3 => if v3 = 0 then (bdh (mX10_prepareChange h) (fun h4 => gIn a1 24 (mlet (wr h4 12 a1.toNatClampNeg a2) (fun h5 => bd1 (mX4_contactBits h5) (fun v7 => bd1 (mJ6_bitCount_0f7a4 h5 v7) (fun v8 => some (v8, h5))))))) else (some ((-2 : Int32), h)))))))
set_option maxRecDepth 4000 in
theorem mt_X10_give {l : Launch} {D : va_G} {ad : Nat → Nat} {ac : Nat → ClassId} {h : Mm} {a1 : Int32} {a2 : Int32} {r : Int32} {h' : Mm} (hm : mX10_give h a1 a2 = some (r, h')) : Mt l D ad ac LC rlC yX10_give cX10_give 3 (some .int) 5 [.ref (ad 0), .int a1, .int a2] h (some (.int r)) h' := by
  refine Mt.of (own := RX10) (by decide) rfl (Nat.le_of_ble_eq_true rfl) ?_
  intro p e s m below meth c ls X hH hl
  obtain ⟨hx, hb, hml, hown, hts, hr, hlk, hC, hI, hR⟩ := id X
  have hl : lv_has ls 3 [(0, .ref (ad 0)), (1, .int a1), (2, .int a2)] := hl
  rw [mX10_give] at hm
  refine lv_aload_n hx hb dX10_give_0 rfl (lv_at hl 0 rfl) ?_
  refine gR X hH fl_X10_19 lC_0 rfl dX10_give_1 ?_
  refine gR X hH fl_X10_146 lC_3 rfl dX10_give_4 ?_
  refine lv_iload_n hx hb dX10_give_7 rfl (lv_at hl 1 rfl) ?_
  obtain ⟨v1, hq, hm⟩ := bd1_some hm
  refine cVi X hH kl_X10_150 kv_X5_has (mt_X5_has hq) lC_4 rfl rfl (by decide) hl.1 rfl (Nat.le_of_ble_eq_true rfl) dX10_give_8 (fun H locs hH => ?_)
  refine lv_if_eq hx hb dX10_give_11 (tgt := 31) (by decide) (fun hc => ?_) (fun hc => ?_)
  · rw [if_pos hc] at hm
    refine lv_iconst (v := (-1)) hx hb dX10_give_31 (by decide) ?_
    cases hm
    exact retI X hH dX10_give_32
  · rw [if_neg hc] at hm
    refine lv_aload_n hx hb dX10_give_14 rfl (lv_at hl 0 rfl) ?_
    refine gR X hH fl_X10_19 lC_0 rfl dX10_give_15 ?_
    refine gR X hH fl_X10_87 lC_3 rfl dX10_give_18 ?_
    refine gR X hH fl_X10_111 lC_30 rfl dX10_give_21 ?_
    refine lv_iload_n hx hb dX10_give_24 rfl (lv_at hl 2 rfl) ?_
    obtain ⟨v2, hq, hm⟩ := bd1_some hm
    refine cVi X hH kl_X10_94 kv_X2_has (mt_X2_has_42 hq) lC_42 rfl rfl (by decide) hl.1 rfl (Nat.le_of_ble_eq_true rfl) dX10_give_25 (fun H locs hH => ?_)
    refine lv_if_ne hx hb dX10_give_28 (tgt := 33) (by decide) (fun hc => ?_) (fun hc => ?_)
    · rw [if_neg hc] at hm
      refine lv_aload_n hx hb dX10_give_33 rfl (lv_at hl 0 rfl) ?_
      refine gR X hH fl_X10_19 lC_0 rfl dX10_give_34 ?_
      refine lv_iload_n hx hb dX10_give_37 rfl (lv_at hl 1 rfl) ?_
      refine lv_iload_n hx hb dX10_give_38 rfl (lv_at hl 2 rfl) ?_
      obtain ⟨v3, hq, hm⟩ := bd1_some hm
      refine cVi X hH kl_X10_184 kv_X4_whyNot (mt_X4_whyNot hq) lC_3 rfl rfl (by decide) hl.1 rfl (Nat.le_of_ble_eq_true rfl) dX10_give_39 (fun H locs hH => ?_)
      refine lv_if_eq hx hb dX10_give_42 (tgt := 48) (by decide) (fun hc => ?_) (fun hc => ?_)
      · rw [if_pos hc] at hm
        refine lv_aload_n hx hb dX10_give_48 rfl (lv_at hl 0 rfl) ?_
        obtain ⟨h4, hq, hm⟩ := bdh_some hm
        refine cVv X hH kl_X10_187 kv_X10_prepareChange (mt_X10_prepareChange hq) lC_0 rfl rfl (by decide) hl.1 rfl (Nat.le_of_ble_eq_true rfl) dX10_give_49 (fun H locs hH => ?_)
        refine lv_aload_n hx hb dX10_give_52 rfl (lv_at hl 0 rfl) ?_
        refine gR X hH fl_X10_19 lC_0 rfl dX10_give_53 ?_
        refine gR X hH fl_X10_114 lC_3 rfl dX10_give_56 ?_
        refine gR X hH fl_X10_168 lC_11 rfl dX10_give_59 ?_
        refine lv_iload_n hx hb dX10_give_62 rfl (lv_at hl 1 rfl) ?_
        refine lv_iload_n hx hb dX10_give_63 rfl (lv_at hl 2 rfl) ?_
        obtain ⟨hin6, hm⟩ := gIn_some hm
        obtain ⟨h5, eh5, hm⟩ := mlet_some hm
        refine ist X hH lC_12 hin6 dX10_give_64 (fun H locs hH => ?_)
        rw [← eh5] at hH
        refine lv_aload_n hx hb dX10_give_65 rfl (lv_at hl 0 rfl) ?_
        refine gR X hH fl_X10_19 lC_0 rfl dX10_give_66 ?_
        obtain ⟨v7, hq, hm⟩ := bd1_some hm
        refine cVi X hH kl_X10_190 kv_X4_contactBits (mt_X4_contactBits hq) lC_3 rfl rfl (by decide) hl.1 rfl (Nat.le_of_ble_eq_true rfl) dX10_give_69 (fun H locs hH => ?_)
        obtain ⟨v8, hq, hm⟩ := bd1_some hm
        refine cSi (As := [.int v7]) X hH kl_X10_193 ks_J6_bitCount_0f7a4 (mt_J6_bitCount_0f7a4 hq) rfl (by decide) hl.1 rfl (Nat.le_of_ble_eq_true rfl) dX10_give_72 (fun H locs hH => ?_)
        cases hm
        exact retI X hH dX10_give_75
      · rw [if_neg hc] at hm
        refine lv_bipush (v := (-2)) hx hb dX10_give_45 (by decide) ?_
        cases hm
        exact retI X hH dX10_give_47
    · rw [if_pos hc] at hm
      refine lv_iconst (v := (-1)) hx hb dX10_give_31 (by decide) ?_
      cases hm
      exact retI X hH dX10_give_32
/-! X10_isSlot -/
def mX10_isSlot (h : Mm) (a0 : Int32) : Option Int32 := if a0 < 0 then (some (0 : Int32)) else (if (60 : Int32) ≤ a0 then (some (0 : Int32)) else (some (1 : Int32)))
set_option maxRecDepth 4000 in
theorem mt_X10_isSlot {l : Launch} {D : va_G} {ad : Nat → Nat} {ac : Nat → ClassId} {L : List CD} {rl : RomL} {h : Mm} {a0 : Int32} {r : Int32} (hm : mX10_isSlot h a0 = some r) : Mt l D ad ac L rl yX10_isSlot cX10_isSlot 1 (some .boolean) 0 [.int a0] h (some (.int r)) h := by
  refine Mt.of (own := RX10) (by decide) rfl (Nat.le_of_ble_eq_true rfl) ?_
  intro p e s m below meth c ls X hH hl
  obtain ⟨hx, hb, hml, hown, hts, hr, hlk, hC, hI, hR⟩ := id X
  have hl : lv_has ls 1 [(0, .int a0)] := hl
  rw [mX10_isSlot] at hm
  refine lv_iload_n hx hb dX10_isSlot_0 rfl (lv_at hl 0 rfl) ?_
  refine lv_if_lt hx hb dX10_isSlot_1 (tgt := 14) (by decide) (fun hc => ?_) (fun hc => ?_)
  · rw [if_pos hc] at hm
    refine lv_iconst (v := 0) hx hb dX10_isSlot_14 (by decide) ?_
    cases hm
    exact retZ X hH rfl dX10_isSlot_15
  · rw [if_neg hc] at hm
    refine lv_iload_n hx hb dX10_isSlot_4 rfl (lv_at hl 0 rfl) ?_
    refine lv_bipush (v := 60) hx hb dX10_isSlot_5 (by decide) ?_
    refine lv_icmp_ge hx hb dX10_isSlot_7 (tgt := 14) (by decide) (fun hc => ?_) (fun hc => ?_)
    · rw [if_pos hc] at hm
      refine lv_iconst (v := 0) hx hb dX10_isSlot_14 (by decide) ?_
      cases hm
      exact retZ X hH rfl dX10_isSlot_15
    · rw [if_neg hc] at hm
      refine lv_iconst (v := 1) hx hb dX10_isSlot_10 (by decide) ?_
      refine lv_goto hx hb dX10_isSlot_11 (tgt := 15) (by decide) ?_
      cases hm
      exact retZ X hH rfl dX10_isSlot_15
/-! X4_dropContactsThatDoNotFit -/
def mX4_dropContactsThatDoNotFit_50 (k4 : Int32 → Int32 → Int32 → Mm → Option (Int32 × Mm)) (x1 : Int32) (x2 : Int32) (x3 : Int32) (h : Mm) : Option (Int32 × Mm) := k4 x1 x2 (x3 + 1) h
set_option maxRecDepth 4000 in
theorem wX4_dropContactsThatDoNotFit_50 {p : Program} {l : Launch} {e : Env} {s : State} {m : MethodId} {args : Array Value} {below : List Frame} {meth : Method} {c : Code} {D : va_G} {ad : Nat → Nat} {ac : Nat → ClassId} {r : Int32} {h' : Mm} (X : Fx p s m args meth c cX4_dropContactsThatDoNotFit 4 RX4 (some .int) D ad ac LC rlC) {k4 : Int32 → Int32 → Int32 → Mm → Option (Int32 × Mm)} (ih4 : ∀ (x1 : Int32) (x2 : Int32) (x3 : Int32) (h : Mm) (H : Heap) (locs : List Loc) (ls : Array Slot), k4 x1 x2 x3 h = some (r, h') → Hp D ad ac LC h s H locs → lv_has ls 4 [(0, .ref (ad 3)), (1, .int x1), (2, .int x2), (3, .int x3)] → W p l e (rmD 3) s m args below meth c H locs 0 0 (MQ below (QU D ad ac LC (some (.int r)) h' s.heap.size) args s 0 0 (Aa ad LC.length s.heap.size)) (F0 m 4 ls [])) : ∀ (x1 : Int32) (x2 : Int32) (x3 : Int32) (h : Mm) (H : Heap) (locs : List Loc) (ls : Array Slot), mX4_dropContactsThatDoNotFit_50 k4 x1 x2 x3 h = some (r, h') → Hp D ad ac LC h s H locs → lv_has ls 4 [(0, .ref (ad 3)), (1, .int x1), (2, .int x2), (3, .int x3)] → W p l e (rmD 3) s m args below meth c H locs 0 0 (MQ below (QU D ad ac LC (some (.int r)) h' s.heap.size) args s 0 0 (Aa ad LC.length s.heap.size)) (F0 m 50 ls []) := by
  obtain ⟨hx, hb, hml, hown, hts, hr, hlk, hC, hI, hR⟩ := id X
  intro x1 x2 x3 h H locs ls hm hH hl
  rw [mX4_dropContactsThatDoNotFit_50] at hm
  refine lv_iinc (k := 3) (v := (x3 + 1)) (lv' := [(3, .int (x3 + 1)), (0, .ref (ad 3)), (1, .int x1), (2, .int x2)]) hx hb dX4_dropContactsThatDoNotFit_50 hl rfl rfl (by decide) rfl (fun ls hl => ?_)
  refine lv_goto hx hb dX4_dropContactsThatDoNotFit_53 (tgt := 4) (by decide) ?_
  exact ih4 x1 x2 (x3 + 1) h _ _ _ hm hH (lv_sub hl [1, 2, 3, 0] rfl)
def mX4_dropContactsThatDoNotFit_4 : Nat → Int32 → Int32 → Int32 → Mm → Option (Int32 × Mm)
  | 0, _, _, _, _ => none
  | n + 1, x1, x2, x3, h => if (h 4 6) ≤ x3 then (some (x2, h)) else (gIn x3 24 (if (h 12 x3.toNatClampNeg) = x1 then (bd1 (mX4_fits h x3 x1) (fun v2 => if v2 = 0 then (gIn x3 24 (mlet (wr h 12 x3.toNatClampNeg (-1 : Int32)) (fun h3 => mX4_dropContactsThatDoNotFit_50 (mX4_dropContactsThatDoNotFit_4 n) x1 (x2 + 1) x3 h3))) else (mX4_dropContactsThatDoNotFit_50 (mX4_dropContactsThatDoNotFit_4 n) x1 x2 x3 h))) else (mX4_dropContactsThatDoNotFit_50 (mX4_dropContactsThatDoNotFit_4 n) x1 x2 x3 h)))
set_option maxRecDepth 4000 in
theorem wX4_dropContactsThatDoNotFit_4 {p : Program} {l : Launch} {e : Env} {s : State} {m : MethodId} {args : Array Value} {below : List Frame} {meth : Method} {c : Code} {D : va_G} {ad : Nat → Nat} {ac : Nat → ClassId} {r : Int32} {h' : Mm} (X : Fx p s m args meth c cX4_dropContactsThatDoNotFit 4 RX4 (some .int) D ad ac LC rlC) : ∀ (n : Nat) (x1 : Int32) (x2 : Int32) (x3 : Int32) (h : Mm) (H : Heap) (locs : List Loc) (ls : Array Slot), mX4_dropContactsThatDoNotFit_4 n x1 x2 x3 h = some (r, h') → Hp D ad ac LC h s H locs → lv_has ls 4 [(0, .ref (ad 3)), (1, .int x1), (2, .int x2), (3, .int x3)] → W p l e (rmD 3) s m args below meth c H locs 0 0 (MQ below (QU D ad ac LC (some (.int r)) h' s.heap.size) args s 0 0 (Aa ad LC.length s.heap.size)) (F0 m 4 ls []) := by
  obtain ⟨hx, hb, hml, hown, hts, hr, hlk, hC, hI, hR⟩ := id X
  intro n
  induction n with
  | zero => intro x1 x2 x3 h H locs ls hm; rw [mX4_dropContactsThatDoNotFit_4] at hm; cases hm
  | succ n ih =>
    intro x1 x2 x3 h H locs ls hm hH hl
    rw [mX4_dropContactsThatDoNotFit_4] at hm
    refine lv_iload_n hx hb dX4_dropContactsThatDoNotFit_4 rfl (lv_at hl 3 rfl) ?_
    refine lv_aload_n hx hb dX4_dropContactsThatDoNotFit_5 rfl (lv_at hl 0 rfl) ?_
    refine gR X hH fl_X4_21 lC_3 rfl dX4_dropContactsThatDoNotFit_6 ?_
    refine gI X hH fl_X4_39 lC_4 rfl dX4_dropContactsThatDoNotFit_9 ?_
    refine lv_icmp_ge hx hb dX4_dropContactsThatDoNotFit_12 (tgt := 56) (by decide) (fun hc => ?_) (fun hc => ?_)
    · rw [if_pos hc] at hm
      refine lv_iload_n hx hb dX4_dropContactsThatDoNotFit_56 rfl (lv_at hl 2 rfl) ?_
      cases hm
      exact retI X hH dX4_dropContactsThatDoNotFit_57
    · rw [if_neg hc] at hm
      refine lv_aload_n hx hb dX4_dropContactsThatDoNotFit_15 rfl (lv_at hl 0 rfl) ?_
      refine gR X hH fl_X4_28 lC_3 rfl dX4_dropContactsThatDoNotFit_16 ?_
      refine gR X hH fl_X4_49 lC_11 rfl dX4_dropContactsThatDoNotFit_19 ?_
      refine lv_iload_n hx hb dX4_dropContactsThatDoNotFit_22 rfl (lv_at hl 3 rfl) ?_
      obtain ⟨hin1, hm⟩ := gIn_some hm
      refine ild X hH lC_12 hin1 dX4_dropContactsThatDoNotFit_23 ?_
      refine lv_iload_n hx hb dX4_dropContactsThatDoNotFit_24 rfl (lv_at hl 1 rfl) ?_
      refine lv_icmp_ne hx hb dX4_dropContactsThatDoNotFit_25 (tgt := 50) (by decide) (fun hc => ?_) (fun hc => ?_)
      · rw [if_neg hc] at hm
        exact wX4_dropContactsThatDoNotFit_50 X ih x1 x2 x3 h _ _ _ hm hH (lv_sub hl [0, 1, 2, 3] rfl)
      · rw [if_pos hc] at hm
        refine lv_aload_n hx hb dX4_dropContactsThatDoNotFit_28 rfl (lv_at hl 0 rfl) ?_
        refine lv_iload_n hx hb dX4_dropContactsThatDoNotFit_29 rfl (lv_at hl 3 rfl) ?_
        refine lv_iload_n hx hb dX4_dropContactsThatDoNotFit_30 rfl (lv_at hl 1 rfl) ?_
        obtain ⟨v2, hq, hm⟩ := bd1_some hm
        refine cVi X hH kl_X4_94 kv_X4_fits (mt_X4_fits hq) lC_3 rfl rfl (by decide) hl.1 rfl (Nat.le_of_ble_eq_true rfl) dX4_dropContactsThatDoNotFit_31 (fun H locs hH => ?_)
        refine lv_if_ne hx hb dX4_dropContactsThatDoNotFit_34 (tgt := 50) (by decide) (fun hc => ?_) (fun hc => ?_)
        · rw [if_neg hc] at hm
          exact wX4_dropContactsThatDoNotFit_50 X ih x1 x2 x3 h _ _ _ hm hH (lv_sub hl [0, 1, 2, 3] rfl)
        · rw [if_pos hc] at hm
          refine lv_aload_n hx hb dX4_dropContactsThatDoNotFit_37 rfl (lv_at hl 0 rfl) ?_
          refine gR X hH fl_X4_28 lC_3 rfl dX4_dropContactsThatDoNotFit_38 ?_
          refine gR X hH fl_X4_49 lC_11 rfl dX4_dropContactsThatDoNotFit_41 ?_
          refine lv_iload_n hx hb dX4_dropContactsThatDoNotFit_44 rfl (lv_at hl 3 rfl) ?_
          refine lv_iconst (v := (-1)) hx hb dX4_dropContactsThatDoNotFit_45 (by decide) ?_
          obtain ⟨hin4, hm⟩ := gIn_some hm
          obtain ⟨h3, eh3, hm⟩ := mlet_some hm
          refine ist X hH lC_12 hin4 dX4_dropContactsThatDoNotFit_46 (fun H locs hH => ?_)
          rw [← eh3] at hH
          refine lv_iinc (k := 2) (v := (x2 + 1)) (lv' := [(2, .int (x2 + 1)), (0, .ref (ad 3)), (1, .int x1), (3, .int x3)]) hx hb dX4_dropContactsThatDoNotFit_47 hl rfl rfl (by decide) rfl (fun ls hl => ?_)
          exact wX4_dropContactsThatDoNotFit_50 X ih x1 (x2 + 1) x3 h3 _ _ _ hm hH (lv_sub hl [1, 2, 0, 3] rfl)
def mX4_dropContactsThatDoNotFit (h : Mm) (a1 : Int32) : Option (Int32 × Mm) := mX4_dropContactsThatDoNotFit_4 FU a1 (0 : Int32) (0 : Int32) h
set_option maxRecDepth 4000 in
theorem mt_X4_dropContactsThatDoNotFit {l : Launch} {D : va_G} {ad : Nat → Nat} {ac : Nat → ClassId} {h : Mm} {a1 : Int32} {r : Int32} {h' : Mm} (hm : mX4_dropContactsThatDoNotFit h a1 = some (r, h')) : Mt l D ad ac LC rlC yX4_dropContactsThatDoNotFit cX4_dropContactsThatDoNotFit 4 (some .int) 3 [.ref (ad 3), .int a1] h (some (.int r)) h' := by
  refine Mt.of (own := RX4) (by decide) rfl (Nat.le_of_ble_eq_true rfl) ?_
  intro p e s m below meth c ls X hH hl
  obtain ⟨hx, hb, hml, hown, hts, hr, hlk, hC, hI, hR⟩ := id X
  have hl : lv_has ls 4 [(0, .ref (ad 3)), (1, .int a1)] := hl
  rw [mX4_dropContactsThatDoNotFit] at hm
  refine lv_iconst (v := 0) hx hb dX4_dropContactsThatDoNotFit_0 (by decide) ?_
  refine lv_istore_n (lv' := [(2, .int (0 : Int32)), (0, .ref (ad 3)), (1, .int a1)]) hx hb dX4_dropContactsThatDoNotFit_1 rfl hl (by decide) rfl (fun ls hl => ?_)
  refine lv_iconst (v := 0) hx hb dX4_dropContactsThatDoNotFit_2 (by decide) ?_
  refine lv_istore_n (lv' := [(3, .int (0 : Int32)), (2, .int (0 : Int32)), (0, .ref (ad 3)), (1, .int a1)]) hx hb dX4_dropContactsThatDoNotFit_3 rfl hl (by decide) rfl (fun ls hl => ?_)
  exact wX4_dropContactsThatDoNotFit_4 X FU a1 (0 : Int32) (0 : Int32) h _ _ _ hm hH (lv_sub hl [2, 3, 1, 0] rfl)
/-! X10_out -/
def mX10_out (h : Mm) (a1 : Int32) (a2 : Int32) (a3 : Int32) : Option (Int32 × Mm) := bd1 (mX2_has_42 h a1) (fun v1 => if v1 = 0 then (some ((-1 : Int32), h)) else (bd1 (mX10_isSlot h a2) (fun v2 => if v2 = 0 then (some ((-1 : Int32), h)) else (bd1 (mX10_isSlot h a3) (fun v3 => if v3 = 0 then (some ((-1 : Int32), h)) else (bdh (mX10_prepareChange h) (fun h4 => gIn a1 4 (mlet (wr h4 13 a1.toNatClampNeg a2) (fun h5 => gIn a1 4 (mlet (wr h5 14 a1.toNatClampNeg a3) (fun h7 => bd2 (mX4_dropContactsThatDoNotFit h7 a1) (fun v10 h9 => some (v10, h9)))))))))))))
set_option maxRecDepth 4000 in
theorem mt_X10_out {l : Launch} {D : va_G} {ad : Nat → Nat} {ac : Nat → ClassId} {h : Mm} {a1 : Int32} {a2 : Int32} {a3 : Int32} {r : Int32} {h' : Mm} (hm : mX10_out h a1 a2 a3 = some (r, h')) : Mt l D ad ac LC rlC yX10_out cX10_out 4 (some .int) 4 [.ref (ad 0), .int a1, .int a2, .int a3] h (some (.int r)) h' := by
  refine Mt.of (own := RX10) (by decide) rfl (Nat.le_of_ble_eq_true rfl) ?_
  intro p e s m below meth c ls X hH hl
  obtain ⟨hx, hb, hml, hown, hts, hr, hlk, hC, hI, hR⟩ := id X
  have hl : lv_has ls 4 [(0, .ref (ad 0)), (1, .int a1), (2, .int a2), (3, .int a3)] := hl
  rw [mX10_out] at hm
  refine lv_aload_n hx hb dX10_out_0 rfl (lv_at hl 0 rfl) ?_
  refine gR X hH fl_X10_19 lC_0 rfl dX10_out_1 ?_
  refine gR X hH fl_X10_87 lC_3 rfl dX10_out_4 ?_
  refine gR X hH fl_X10_111 lC_30 rfl dX10_out_7 ?_
  refine lv_iload_n hx hb dX10_out_10 rfl (lv_at hl 1 rfl) ?_
  obtain ⟨v1, hq, hm⟩ := bd1_some hm
  refine cVi X hH kl_X10_94 kv_X2_has (mt_X2_has_42 hq) lC_42 rfl rfl (by decide) hl.1 rfl (Nat.le_of_ble_eq_true rfl) dX10_out_11 (fun H locs hH => ?_)
  refine lv_if_eq hx hb dX10_out_14 (tgt := 31) (by decide) (fun hc => ?_) (fun hc => ?_)
  · rw [if_pos hc] at hm
    refine lv_iconst (v := (-1)) hx hb dX10_out_31 (by decide) ?_
    cases hm
    exact retI X hH dX10_out_32
  · rw [if_neg hc] at hm
    refine lv_iload_n hx hb dX10_out_17 rfl (lv_at hl 2 rfl) ?_
    obtain ⟨v2, hq, hm⟩ := bd1_some hm
    refine cSi (As := [.int a2]) X hH kl_X10_139 ks_X10_isSlot (mt_X10_isSlot hq) rfl (by decide) hl.1 rfl (Nat.le_of_ble_eq_true rfl) dX10_out_18 (fun H locs hH => ?_)
    refine lv_if_eq hx hb dX10_out_21 (tgt := 31) (by decide) (fun hc => ?_) (fun hc => ?_)
    · rw [if_pos hc] at hm
      refine lv_iconst (v := (-1)) hx hb dX10_out_31 (by decide) ?_
      cases hm
      exact retI X hH dX10_out_32
    · rw [if_neg hc] at hm
      refine lv_iload_n hx hb dX10_out_24 rfl (lv_at hl 3 rfl) ?_
      obtain ⟨v3, hq, hm⟩ := bd1_some hm
      refine cSi (As := [.int a3]) X hH kl_X10_139 ks_X10_isSlot (mt_X10_isSlot hq) rfl (by decide) hl.1 rfl (Nat.le_of_ble_eq_true rfl) dX10_out_25 (fun H locs hH => ?_)
      refine lv_if_ne hx hb dX10_out_28 (tgt := 33) (by decide) (fun hc => ?_) (fun hc => ?_)
      · rw [if_neg hc] at hm
        refine lv_aload_n hx hb dX10_out_33 rfl (lv_at hl 0 rfl) ?_
        obtain ⟨h4, hq, hm⟩ := bdh_some hm
        refine cVv X hH kl_X10_187 kv_X10_prepareChange (mt_X10_prepareChange hq) lC_0 rfl rfl (by decide) hl.1 rfl (Nat.le_of_ble_eq_true rfl) dX10_out_34 (fun H locs hH => ?_)
        refine lv_aload_n hx hb dX10_out_37 rfl (lv_at hl 0 rfl) ?_
        refine gR X hH fl_X10_19 lC_0 rfl dX10_out_38 ?_
        refine gR X hH fl_X10_114 lC_3 rfl dX10_out_41 ?_
        refine gR X hH fl_X10_123 lC_11 rfl dX10_out_44 ?_
        refine lv_iload_n hx hb dX10_out_47 rfl (lv_at hl 1 rfl) ?_
        refine lv_iload_n hx hb dX10_out_48 rfl (lv_at hl 2 rfl) ?_
        obtain ⟨hin6, hm⟩ := gIn_some hm
        obtain ⟨h5, eh5, hm⟩ := mlet_some hm
        refine ist X hH lC_13 hin6 dX10_out_49 (fun H locs hH => ?_)
        rw [← eh5] at hH
        refine lv_aload_n hx hb dX10_out_50 rfl (lv_at hl 0 rfl) ?_
        refine gR X hH fl_X10_19 lC_0 rfl dX10_out_51 ?_
        refine gR X hH fl_X10_114 lC_3 rfl dX10_out_54 ?_
        refine gR X hH fl_X10_127 lC_11 rfl dX10_out_57 ?_
        refine lv_iload_n hx hb dX10_out_60 rfl (lv_at hl 1 rfl) ?_
        refine lv_iload_n hx hb dX10_out_61 rfl (lv_at hl 3 rfl) ?_
        obtain ⟨hin8, hm⟩ := gIn_some hm
        obtain ⟨h7, eh7, hm⟩ := mlet_some hm
        refine ist X hH lC_14 hin8 dX10_out_62 (fun H locs hH => ?_)
        rw [← eh7] at hH
        refine lv_aload_n hx hb dX10_out_63 rfl (lv_at hl 0 rfl) ?_
        refine gR X hH fl_X10_19 lC_0 rfl dX10_out_64 ?_
        refine lv_iload_n hx hb dX10_out_67 rfl (lv_at hl 1 rfl) ?_
        obtain ⟨v10, h9, hq, hm⟩ := bd2_some hm
        refine cVi X hH kl_X10_198 kv_X4_dropContactsThatDoNotFit (mt_X4_dropContactsThatDoNotFit hq) lC_3 rfl rfl (by decide) hl.1 rfl (Nat.le_of_ble_eq_true rfl) dX10_out_68 (fun H locs hH => ?_)
        cases hm
        exact retI X hH dX10_out_71
      · rw [if_pos hc] at hm
        refine lv_iconst (v := (-1)) hx hb dX10_out_31 (by decide) ?_
        cases hm
        exact retI X hH dX10_out_32
/-! X2_has_31 -/
def mX2_has_31 (h : Mm) (a1 : Int32) : Option Int32 := if a1 < 0 then (some (0 : Int32)) else (if (h 31 3) ≤ a1 then (some (0 : Int32)) else (some (1 : Int32)))
set_option maxRecDepth 4000 in
theorem mt_X2_has_31 {l : Launch} {D : va_G} {ad : Nat → Nat} {ac : Nat → ClassId} {h : Mm} {a1 : Int32} {r : Int32} (hm : mX2_has_31 h a1 = some r) : Mt l D ad ac LC rlC yX2_has cX2_has 2 (some .boolean) 0 [.ref (ad 31), .int a1] h (some (.int r)) h := by
  refine Mt.of (own := RX2) (by decide) rfl (Nat.le_of_ble_eq_true rfl) ?_
  intro p e s m below meth c ls X hH hl
  obtain ⟨hx, hb, hml, hown, hts, hr, hlk, hC, hI, hR⟩ := id X
  have hl : lv_has ls 2 [(0, .ref (ad 31)), (1, .int a1)] := hl
  rw [mX2_has_31] at hm
  refine lv_iload_n hx hb dX2_has_0 rfl (lv_at hl 1 rfl) ?_
  refine lv_if_lt hx hb dX2_has_1 (tgt := 16) (by decide) (fun hc => ?_) (fun hc => ?_)
  · rw [if_pos hc] at hm
    refine lv_iconst (v := 0) hx hb dX2_has_16 (by decide) ?_
    cases hm
    exact retZ X hH rfl dX2_has_17
  · rw [if_neg hc] at hm
    refine lv_iload_n hx hb dX2_has_4 rfl (lv_at hl 1 rfl) ?_
    refine lv_aload_n hx hb dX2_has_5 rfl (lv_at hl 0 rfl) ?_
    refine gI X hH fl_X2_21 lC_31 rfl dX2_has_6 ?_
    refine lv_icmp_ge hx hb dX2_has_9 (tgt := 16) (by decide) (fun hc => ?_) (fun hc => ?_)
    · rw [if_pos hc] at hm
      refine lv_iconst (v := 0) hx hb dX2_has_16 (by decide) ?_
      cases hm
      exact retZ X hH rfl dX2_has_17
    · rw [if_neg hc] at hm
      refine lv_iconst (v := 1) hx hb dX2_has_12 (by decide) ?_
      refine lv_goto hx hb dX2_has_13 (tgt := 17) (by decide) ?_
      cases hm
      exact retZ X hH rfl dX2_has_17
/-! X10_over -/
def mX10_over (h : Mm) (a1 : Int32) : Option (Int32 × Mm) := bd1 (mX2_has_31 h a1) (fun v1 => if v1 = 0 then (some ((-1 : Int32), h)) else (bd1 (mX4_contactBits h) (fun v2 => bdh (mX9_follow h a1 v2 (59 : Int32)) (fun h3 => some ((h3 15 4), h3)))))
set_option maxRecDepth 4000 in
theorem mt_X10_over {l : Launch} {D : va_G} {ad : Nat → Nat} {ac : Nat → ClassId} {h : Mm} {a1 : Int32} {r : Int32} {h' : Mm} (hm : mX10_over h a1 = some (r, h')) : Mt l D ad ac LC rlC yX10_over cX10_over 2 (some .int) 4 [.ref (ad 0), .int a1] h (some (.int r)) h' := by
  refine Mt.of (own := RX10) (by decide) rfl (Nat.le_of_ble_eq_true rfl) ?_
  intro p e s m below meth c ls X hH hl
  obtain ⟨hx, hb, hml, hown, hts, hr, hlk, hC, hI, hR⟩ := id X
  have hl : lv_has ls 2 [(0, .ref (ad 0)), (1, .int a1)] := hl
  rw [mX10_over] at hm
  refine lv_aload_n hx hb dX10_over_0 rfl (lv_at hl 0 rfl) ?_
  refine gR X hH fl_X10_19 lC_0 rfl dX10_over_1 ?_
  refine gR X hH fl_X10_87 lC_3 rfl dX10_over_4 ?_
  refine gR X hH fl_X10_90 lC_30 rfl dX10_over_7 ?_
  refine lv_iload_n hx hb dX10_over_10 rfl (lv_at hl 1 rfl) ?_
  obtain ⟨v1, hq, hm⟩ := bd1_some hm
  refine cVi X hH kl_X10_94 kv_X2_has (mt_X2_has_31 hq) lC_31 rfl rfl (by decide) hl.1 rfl (Nat.le_of_ble_eq_true rfl) dX10_over_11 (fun H locs hH => ?_)
  refine lv_if_ne hx hb dX10_over_14 (tgt := 19) (by decide) (fun hc => ?_) (fun hc => ?_)
  · rw [if_neg hc] at hm
    refine lv_aload_n hx hb dX10_over_19 rfl (lv_at hl 0 rfl) ?_
    refine gR X hH fl_X10_33 lC_0 rfl dX10_over_20 ?_
    refine lv_aload_n hx hb dX10_over_23 rfl (lv_at hl 0 rfl) ?_
    refine gR X hH fl_X10_19 lC_0 rfl dX10_over_24 ?_
    refine lv_iload_n hx hb dX10_over_27 rfl (lv_at hl 1 rfl) ?_
    refine lv_aload_n hx hb dX10_over_28 rfl (lv_at hl 0 rfl) ?_
    refine gR X hH fl_X10_19 lC_0 rfl dX10_over_29 ?_
    obtain ⟨v2, hq, hm⟩ := bd1_some hm
    refine cVi X hH kl_X10_190 kv_X4_contactBits (mt_X4_contactBits hq) lC_3 rfl rfl (by decide) hl.1 rfl (Nat.le_of_ble_eq_true rfl) dX10_over_32 (fun H locs hH => ?_)
    refine lv_bipush (v := 59) hx hb dX10_over_35 (by decide) ?_
    obtain ⟨h3, hq, hm⟩ := bdh_some hm
    refine cVv X hH kl_X10_254 kv_X9_follow (mt_X9_follow hq) lC_15 rfl rfl (by decide) hl.1 rfl (Nat.le_of_ble_eq_true rfl) dX10_over_37 (fun H locs hH => ?_)
    refine lv_aload_n hx hb dX10_over_40 rfl (lv_at hl 0 rfl) ?_
    refine gR X hH fl_X10_33 lC_0 rfl dX10_over_41 ?_
    refine gI X hH fl_X10_267 lC_15 rfl dX10_over_44 ?_
    cases hm
    exact retI X hH dX10_over_47
  · rw [if_pos hc] at hm
    refine lv_iconst (v := (-1)) hx hb dX10_over_17 (by decide) ?_
    cases hm
    exact retI X hH dX10_over_18
/-! X10_pass -/
def mX10_pass (h : Mm) (a1 : Int32) (a2 : Int32) : Option Int32 := bd1 (mX5_has h a1) (fun v1 => if v1 = 0 then (some (-1 : Int32)) else (if a2 = (0 : Int32) then (gIn a1 24 (some (h 5 a1.toNatClampNeg))) else (if a2 = (1 : Int32) then (gIn a1 24 (some (h 6 a1.toNatClampNeg))) else (if a2 = (2 : Int32) then (gIn a1 24 (some (h 7 a1.toNatClampNeg))) else (if a2 = (3 : Int32) then (gIn a1 24 (some (h 8 a1.toNatClampNeg))) else (if a2 = (4 : Int32) then (gIn a1 24 (some (h 9 a1.toNatClampNeg))) else (if a2 = (5 : Int32) then (gIn a1 24 (bd1 (mX10_antennaOrNone h (h 12 a1.toNatClampNeg)) (fun v8 => some v8))) else (if a2 = (6 : Int32) then (bd1 (mX4_fittingAntennas h a1) (fun v9 => some v9)) else (some (-1 : Int32))))))))))
set_option maxRecDepth 4000 in
theorem mt_X10_pass {l : Launch} {D : va_G} {ad : Nat → Nat} {ac : Nat → ClassId} {h : Mm} {a1 : Int32} {a2 : Int32} {r : Int32} (hm : mX10_pass h a1 a2 = some r) : Mt l D ad ac LC rlC yX10_pass cX10_pass 3 (some .int) 4 [.ref (ad 0), .int a1, .int a2] h (some (.int r)) h := by
  refine Mt.of (own := RX10) (by decide) rfl (Nat.le_of_ble_eq_true rfl) ?_
  intro p e s m below meth c ls X hH hl
  obtain ⟨hx, hb, hml, hown, hts, hr, hlk, hC, hI, hR⟩ := id X
  have hl : lv_has ls 3 [(0, .ref (ad 0)), (1, .int a1), (2, .int a2)] := hl
  rw [mX10_pass] at hm
  refine lv_aload_n hx hb dX10_pass_0 rfl (lv_at hl 0 rfl) ?_
  refine gR X hH fl_X10_19 lC_0 rfl dX10_pass_1 ?_
  refine gR X hH fl_X10_146 lC_3 rfl dX10_pass_4 ?_
  refine lv_iload_n hx hb dX10_pass_7 rfl (lv_at hl 1 rfl) ?_
  obtain ⟨v1, hq, hm⟩ := bd1_some hm
  refine cVi X hH kl_X10_150 kv_X5_has (mt_X5_has hq) lC_4 rfl rfl (by decide) hl.1 rfl (Nat.le_of_ble_eq_true rfl) dX10_pass_8 (fun H locs hH => ?_)
  refine lv_if_ne hx hb dX10_pass_11 (tgt := 16) (by decide) (fun hc => ?_) (fun hc => ?_)
  · rw [if_neg hc] at hm
    refine lv_iload_n hx hb dX10_pass_16 rfl (lv_at hl 2 rfl) ?_
    by_cases hc0 : a2 = (0 : Int32)
    · rw [if_pos hc0] at hm
      refine lv_tableIn hx hb dX10_pass_17 (by rw [hc0]; decide) (by rw [hc0]; decide) (off := 43) (by rw [hc0]; rfl) (tgt := 60) (by decide) ?_
      refine lv_aload_n hx hb dX10_pass_60 rfl (lv_at hl 0 rfl) ?_
      refine gR X hH fl_X10_19 lC_0 rfl dX10_pass_61 ?_
      refine gR X hH fl_X10_146 lC_3 rfl dX10_pass_64 ?_
      refine gR X hH fl_X10_153 lC_4 rfl dX10_pass_67 ?_
      refine lv_iload_n hx hb dX10_pass_70 rfl (lv_at hl 1 rfl) ?_
      obtain ⟨hin2, hm⟩ := gIn_some hm
      refine ild X hH lC_5 hin2 dX10_pass_71 ?_
      cases hm
      exact retI X hH dX10_pass_72
    · rw [if_neg hc0] at hm
      by_cases hc1 : a2 = (1 : Int32)
      · rw [if_pos hc1] at hm
        refine lv_tableIn hx hb dX10_pass_17 (by rw [hc1]; decide) (by rw [hc1]; decide) (off := 56) (by rw [hc1]; rfl) (tgt := 73) (by decide) ?_
        refine lv_aload_n hx hb dX10_pass_73 rfl (lv_at hl 0 rfl) ?_
        refine gR X hH fl_X10_19 lC_0 rfl dX10_pass_74 ?_
        refine gR X hH fl_X10_146 lC_3 rfl dX10_pass_77 ?_
        refine gR X hH fl_X10_156 lC_4 rfl dX10_pass_80 ?_
        refine lv_iload_n hx hb dX10_pass_83 rfl (lv_at hl 1 rfl) ?_
        obtain ⟨hin3, hm⟩ := gIn_some hm
        refine ild X hH lC_6 hin3 dX10_pass_84 ?_
        cases hm
        exact retI X hH dX10_pass_85
      · rw [if_neg hc1] at hm
        by_cases hc2 : a2 = (2 : Int32)
        · rw [if_pos hc2] at hm
          refine lv_tableIn hx hb dX10_pass_17 (by rw [hc2]; decide) (by rw [hc2]; decide) (off := 69) (by rw [hc2]; rfl) (tgt := 86) (by decide) ?_
          refine lv_aload_n hx hb dX10_pass_86 rfl (lv_at hl 0 rfl) ?_
          refine gR X hH fl_X10_19 lC_0 rfl dX10_pass_87 ?_
          refine gR X hH fl_X10_146 lC_3 rfl dX10_pass_90 ?_
          refine gR X hH fl_X10_159 lC_4 rfl dX10_pass_93 ?_
          refine lv_iload_n hx hb dX10_pass_96 rfl (lv_at hl 1 rfl) ?_
          obtain ⟨hin4, hm⟩ := gIn_some hm
          refine ild X hH lC_7 hin4 dX10_pass_97 ?_
          cases hm
          exact retI X hH dX10_pass_98
        · rw [if_neg hc2] at hm
          by_cases hc3 : a2 = (3 : Int32)
          · rw [if_pos hc3] at hm
            refine lv_tableIn hx hb dX10_pass_17 (by rw [hc3]; decide) (by rw [hc3]; decide) (off := 82) (by rw [hc3]; rfl) (tgt := 99) (by decide) ?_
            refine lv_aload_n hx hb dX10_pass_99 rfl (lv_at hl 0 rfl) ?_
            refine gR X hH fl_X10_19 lC_0 rfl dX10_pass_100 ?_
            refine gR X hH fl_X10_146 lC_3 rfl dX10_pass_103 ?_
            refine gR X hH fl_X10_162 lC_4 rfl dX10_pass_106 ?_
            refine lv_iload_n hx hb dX10_pass_109 rfl (lv_at hl 1 rfl) ?_
            obtain ⟨hin5, hm⟩ := gIn_some hm
            refine ild X hH lC_8 hin5 dX10_pass_110 ?_
            cases hm
            exact retI X hH dX10_pass_111
          · rw [if_neg hc3] at hm
            by_cases hc4 : a2 = (4 : Int32)
            · rw [if_pos hc4] at hm
              refine lv_tableIn hx hb dX10_pass_17 (by rw [hc4]; decide) (by rw [hc4]; decide) (off := 95) (by rw [hc4]; rfl) (tgt := 112) (by decide) ?_
              refine lv_aload_n hx hb dX10_pass_112 rfl (lv_at hl 0 rfl) ?_
              refine gR X hH fl_X10_19 lC_0 rfl dX10_pass_113 ?_
              refine gR X hH fl_X10_146 lC_3 rfl dX10_pass_116 ?_
              refine gR X hH fl_X10_165 lC_4 rfl dX10_pass_119 ?_
              refine lv_iload_n hx hb dX10_pass_122 rfl (lv_at hl 1 rfl) ?_
              obtain ⟨hin6, hm⟩ := gIn_some hm
              refine ild X hH lC_9 hin6 dX10_pass_123 ?_
              cases hm
              exact retI X hH dX10_pass_124
            · rw [if_neg hc4] at hm
              by_cases hc5 : a2 = (5 : Int32)
              · rw [if_pos hc5] at hm
                refine lv_tableIn hx hb dX10_pass_17 (by rw [hc5]; decide) (by rw [hc5]; decide) (off := 108) (by rw [hc5]; rfl) (tgt := 125) (by decide) ?_
                refine lv_aload_n hx hb dX10_pass_125 rfl (lv_at hl 0 rfl) ?_
                refine gR X hH fl_X10_19 lC_0 rfl dX10_pass_126 ?_
                refine gR X hH fl_X10_114 lC_3 rfl dX10_pass_129 ?_
                refine gR X hH fl_X10_168 lC_11 rfl dX10_pass_132 ?_
                refine lv_iload_n hx hb dX10_pass_135 rfl (lv_at hl 1 rfl) ?_
                obtain ⟨hin7, hm⟩ := gIn_some hm
                refine ild X hH lC_12 hin7 dX10_pass_136 ?_
                obtain ⟨v8, hq, hm⟩ := bd1_some hm
                refine cSi (As := [.int (h 12 a1.toNatClampNeg)]) X hH kl_X10_171 ks_X10_antennaOrNone (mt_X10_antennaOrNone hq) rfl (by decide) hl.1 rfl (Nat.le_of_ble_eq_true rfl) dX10_pass_137 (fun H locs hH => ?_)
                cases hm
                exact retI X hH dX10_pass_140
              · rw [if_neg hc5] at hm
                by_cases hc6 : a2 = (6 : Int32)
                · rw [if_pos hc6] at hm
                  refine lv_tableIn hx hb dX10_pass_17 (by rw [hc6]; decide) (by rw [hc6]; decide) (off := 124) (by rw [hc6]; rfl) (tgt := 141) (by decide) ?_
                  refine lv_aload_n hx hb dX10_pass_141 rfl (lv_at hl 0 rfl) ?_
                  refine gR X hH fl_X10_19 lC_0 rfl dX10_pass_142 ?_
                  refine lv_iload_n hx hb dX10_pass_145 rfl (lv_at hl 1 rfl) ?_
                  obtain ⟨v9, hq, hm⟩ := bd1_some hm
                  refine cVi X hH kl_X10_174 kv_X4_fittingAntennas (mt_X4_fittingAntennas hq) lC_3 rfl rfl (by decide) hl.1 rfl (Nat.le_of_ble_eq_true rfl) dX10_pass_146 (fun H locs hH => ?_)
                  cases hm
                  exact retI X hH dX10_pass_149
                · rw [if_neg hc6] at hm
                  have q0 := lv_neT (a := 0) hc0 (by decide)
                  have q1 := lv_neT (a := 1) hc1 (by decide)
                  have q2 := lv_neT (a := 2) hc2 (by decide)
                  have q3 := lv_neT (a := 3) hc3 (by decide)
                  have q4 := lv_neT (a := 4) hc4 (by decide)
                  have q5 := lv_neT (a := 5) hc5 (by decide)
                  have q6 := lv_neT (a := 6) hc6 (by decide)
                  refine lv_tableOut hx hb dX10_pass_17 (by omega) (tgt := 150) (by decide) ?_
                  refine lv_iconst (v := (-1)) hx hb dX10_pass_150 (by decide) ?_
                  cases hm
                  exact retI X hH dX10_pass_151
  · rw [if_pos hc] at hm
    refine lv_iconst (v := (-1)) hx hb dX10_pass_14 (by decide) ?_
    cases hm
    exact retI X hH dX10_pass_15
/-! X5_covers -/
def mX5_covers (h : Mm) (a1 : Int32) (a2 : Int32) : Option Int32 := gIn a1 24 (if a2 < (h 5 a1.toNatClampNeg) then (some (0 : Int32)) else (gIn a1 24 (if (h 6 a1.toNatClampNeg) < a2 then (some (0 : Int32)) else (some (1 : Int32)))))
set_option maxRecDepth 4000 in
theorem mt_X5_covers {l : Launch} {D : va_G} {ad : Nat → Nat} {ac : Nat → ClassId} {h : Mm} {a1 : Int32} {a2 : Int32} {r : Int32} (hm : mX5_covers h a1 a2 = some r) : Mt l D ad ac LC rlC yX5_covers cX5_covers 3 (some .boolean) 0 [.ref (ad 4), .int a1, .int a2] h (some (.int r)) h := by
  refine Mt.of (own := RX5) (by decide) rfl (Nat.le_of_ble_eq_true rfl) ?_
  intro p e s m below meth c ls X hH hl
  obtain ⟨hx, hb, hml, hown, hts, hr, hlk, hC, hI, hR⟩ := id X
  have hl : lv_has ls 3 [(0, .ref (ad 4)), (1, .int a1), (2, .int a2)] := hl
  rw [mX5_covers] at hm
  refine lv_iload_n hx hb dX5_covers_0 rfl (lv_at hl 2 rfl) ?_
  refine lv_aload_n hx hb dX5_covers_1 rfl (lv_at hl 0 rfl) ?_
  refine gR X hH fl_X5_9 lC_4 rfl dX5_covers_2 ?_
  refine lv_iload_n hx hb dX5_covers_5 rfl (lv_at hl 1 rfl) ?_
  obtain ⟨hin1, hm⟩ := gIn_some hm
  refine ild X hH lC_5 hin1 dX5_covers_6 ?_
  refine lv_icmp_lt hx hb dX5_covers_7 (tgt := 24) (by decide) (fun hc => ?_) (fun hc => ?_)
  · rw [if_pos hc] at hm
    refine lv_iconst (v := 0) hx hb dX5_covers_24 (by decide) ?_
    cases hm
    exact retZ X hH rfl dX5_covers_25
  · rw [if_neg hc] at hm
    refine lv_iload_n hx hb dX5_covers_10 rfl (lv_at hl 2 rfl) ?_
    refine lv_aload_n hx hb dX5_covers_11 rfl (lv_at hl 0 rfl) ?_
    refine gR X hH fl_X5_15 lC_4 rfl dX5_covers_12 ?_
    refine lv_iload_n hx hb dX5_covers_15 rfl (lv_at hl 1 rfl) ?_
    obtain ⟨hin2, hm⟩ := gIn_some hm
    refine ild X hH lC_6 hin2 dX5_covers_16 ?_
    refine lv_icmp_gt hx hb dX5_covers_17 (tgt := 24) (by decide) (fun hc => ?_) (fun hc => ?_)
    · rw [if_pos hc] at hm
      refine lv_iconst (v := 0) hx hb dX5_covers_24 (by decide) ?_
      cases hm
      exact retZ X hH rfl dX5_covers_25
    · rw [if_neg hc] at hm
      refine lv_iconst (v := 1) hx hb dX5_covers_20 (by decide) ?_
      refine lv_goto hx hb dX5_covers_21 (tgt := 25) (by decide) ?_
      cases hm
      exact retZ X hH rfl dX5_covers_25
