/-! X8_copyFrom_g67_11 -/
def mX8_copyFrom_g67_11 (j0 : Nat) (h : Mm) : Option Mm := gCp (0 : Int32) (0 : Int32) (nI 24) 24 24 (mlet (va_up h (69 + 4 * j0) (va_cpy (h 12) (h (69 + 4 * j0)) (0 : Int32).toNatClampNeg (0 : Int32).toNatClampNeg (nI 24).toNatClampNeg)) (fun h1 => gCp (0 : Int32) (0 : Int32) (nI 4) 4 4 (mlet (va_up h1 (70 + 4 * j0) (va_cpy (h1 13) (h1 (70 + 4 * j0)) (0 : Int32).toNatClampNeg (0 : Int32).toNatClampNeg (nI 4).toNatClampNeg)) (fun h3 => gCp (0 : Int32) (0 : Int32) (nI 4) 4 4 (mlet (va_up h3 (71 + 4 * j0) (va_cpy (h3 14) (h3 (71 + 4 * j0)) (0 : Int32).toNatClampNeg (0 : Int32).toNatClampNeg (nI 4).toNatClampNeg)) (fun h5 => some h5))))))
set_option maxRecDepth 4000 in
theorem mt_X8_copyFrom_g67_11 {l : Launch} {D : va_G} {ad : Nat → Nat} {ac : Nat → ClassId} {h : Mm} {h' : Mm} {j0 : Nat} (hj0 : j0 < 6) (hm : mX8_copyFrom_g67_11 j0 h = some h') : Mt l D ad ac LC rlC yX8_copyFrom cX8_copyFrom 2 none 1 [.ref (ad (68 + 4 * j0)), .ref (ad 11)] h none h' := by
  refine Mt.of (own := RX8) (by decide) rfl (Nat.le_of_ble_eq_true rfl) ?_
  intro p e s m below meth c ls X hH hl
  obtain ⟨hx, hb, hml, hown, hts, hr, hlk, hC, hI, hR⟩ := id X
  have hl : lv_has ls 2 [(0, .ref (ad (68 + 4 * j0))), (1, .ref (ad 11))] := hl
  rw [mX8_copyFrom_g67_11] at hm
  refine lv_aload_n hx hb dX8_copyFrom_0 rfl (lv_at hl 1 rfl) ?_
  refine gR X hH fl_X8_9 lC_11 rfl dX8_copyFrom_1 ?_
  refine lv_iconst (v := 0) hx hb dX8_copyFrom_4 (by decide) ?_
  refine lv_aload_n hx hb dX8_copyFrom_5 rfl (lv_at hl 0 rfl) ?_
  refine gR X hH fl_X8_9 (gl_67_0 hj0) rfl dX8_copyFrom_6 ?_
  refine lv_iconst (v := 0) hx hb dX8_copyFrom_9 (by decide) ?_
  refine lv_aload_n hx hb dX8_copyFrom_10 rfl (lv_at hl 0 rfl) ?_
  refine gR X hH fl_X8_9 (gl_67_0 hj0) rfl dX8_copyFrom_11 ?_
  refine aln X hH (gl_67_1 hj0) (by decide) dX8_copyFrom_14 ?_
  obtain ⟨hcp2, hm⟩ := gCp_some hm
  obtain ⟨h1, eh1, hm⟩ := mlet_some hm
  refine acp X hH ml_X8_27 lC_12 (gl_67_1 hj0) hcp2 (by decide) hl.1 (Nat.le_of_ble_eq_true rfl) dX8_copyFrom_15 (fun H locs hH => ?_)
  rw [← eh1] at hH
  refine lv_aload_n hx hb dX8_copyFrom_18 rfl (lv_at hl 1 rfl) ?_
  refine gR X hH fl_X8_15 lC_11 rfl dX8_copyFrom_19 ?_
  refine lv_iconst (v := 0) hx hb dX8_copyFrom_22 (by decide) ?_
  refine lv_aload_n hx hb dX8_copyFrom_23 rfl (lv_at hl 0 rfl) ?_
  refine gR X hH fl_X8_15 (gl_67_0 hj0) rfl dX8_copyFrom_24 ?_
  refine lv_iconst (v := 0) hx hb dX8_copyFrom_27 (by decide) ?_
  refine lv_aload_n hx hb dX8_copyFrom_28 rfl (lv_at hl 0 rfl) ?_
  refine gR X hH fl_X8_15 (gl_67_0 hj0) rfl dX8_copyFrom_29 ?_
  refine aln X hH (gl_67_2 hj0) (by decide) dX8_copyFrom_32 ?_
  obtain ⟨hcp4, hm⟩ := gCp_some hm
  obtain ⟨h3, eh3, hm⟩ := mlet_some hm
  refine acp X hH ml_X8_27 lC_13 (gl_67_2 hj0) hcp4 (by decide) hl.1 (Nat.le_of_ble_eq_true rfl) dX8_copyFrom_33 (fun H locs hH => ?_)
  rw [← eh3] at hH
  refine lv_aload_n hx hb dX8_copyFrom_36 rfl (lv_at hl 1 rfl) ?_
  refine gR X hH fl_X8_18 lC_11 rfl dX8_copyFrom_37 ?_
  refine lv_iconst (v := 0) hx hb dX8_copyFrom_40 (by decide) ?_
  refine lv_aload_n hx hb dX8_copyFrom_41 rfl (lv_at hl 0 rfl) ?_
  refine gR X hH fl_X8_18 (gl_67_0 hj0) rfl dX8_copyFrom_42 ?_
  refine lv_iconst (v := 0) hx hb dX8_copyFrom_45 (by decide) ?_
  refine lv_aload_n hx hb dX8_copyFrom_46 rfl (lv_at hl 0 rfl) ?_
  refine gR X hH fl_X8_18 (gl_67_0 hj0) rfl dX8_copyFrom_47 ?_
  refine aln X hH (gl_67_3 hj0) (by decide) dX8_copyFrom_50 ?_
  obtain ⟨hcp6, hm⟩ := gCp_some hm
  obtain ⟨h5, eh5, hm⟩ := mlet_some hm
  refine acp X hH ml_X8_27 lC_14 (gl_67_3 hj0) hcp6 (by decide) hl.1 (Nat.le_of_ble_eq_true rfl) dX8_copyFrom_51 (fun H locs hH => ?_)
  rw [← eh5] at hH
  cases hm
  exact retV X hH dX8_copyFrom_54
/-! X1_keep -/
def mX1_keep (h : Mm) : Option Mm := gIn (h 66 1) 6 (bdh (mX8_copyFrom_g67_11 (h 66 1).toNatClampNeg h) (fun h2 => gNz (6 : Int32) (mlet (wr h2 66 1 (((h2 66 1) + (1 : Int32)) - ((h2 66 1) + (1 : Int32)) / (6 : Int32) * (6 : Int32))) (fun h3 => bd1 (mJ9_min_7cf53 h3 ((h3 66 2) + (1 : Int32)) (6 : Int32)) (fun v4 => mlet (wr h3 66 2 v4) (fun h5 => some h5))))))
set_option maxRecDepth 4000 in
theorem mt_X1_keep {l : Launch} {D : va_G} {ad : Nat → Nat} {ac : Nat → ClassId} {h : Mm} {h' : Mm} (hm : mX1_keep h = some h') : Mt l D ad ac LC rlC yX1_keep cX1_keep 2 none 2 [.ref (ad 66), .ref (ad 11)] h none h' := by
  refine Mt.of (own := RX1) (by decide) rfl (Nat.le_of_ble_eq_true rfl) ?_
  intro p e s m below meth c ls X hH hl
  obtain ⟨hx, hb, hml, hown, hts, hr, hlk, hC, hI, hR⟩ := id X
  have hl : lv_has ls 2 [(0, .ref (ad 66)), (1, .ref (ad 11))] := hl
  rw [mX1_keep] at hm
  refine lv_aload_n hx hb dX1_keep_0 rfl (lv_at hl 0 rfl) ?_
  refine gR X hH fl_X1_11 lC_66 rfl dX1_keep_1 ?_
  refine lv_aload_n hx hb dX1_keep_4 rfl (lv_at hl 0 rfl) ?_
  refine gI X hH fl_X1_22 lC_66 rfl dX1_keep_5 ?_
  obtain ⟨hin1, hm⟩ := gIn_some hm
  refine ald X hH lC_67 (Or.inl rfl) (fun q => hin1 (Or.inl q)) (gk_67 hin1) dX1_keep_8 ?_
  refine lv_aload_n hx hb dX1_keep_9 rfl (lv_at hl 1 rfl) ?_
  obtain ⟨h2, hq, hm⟩ := bdh_some hm
  refine cVv X hH kl_X1_25 kv_X8_copyFrom (mt_X8_copyFrom_g67_11 (vp_lt hin1) hq) (gl_67_0 (vp_lt hin1)) rfl rfl (by decide) hl.1 rfl (Nat.le_of_ble_eq_true rfl) dX1_keep_10 (fun H locs hH => ?_)
  refine lv_aload_n hx hb dX1_keep_13 rfl (lv_at hl 0 rfl) ?_
  refine lv_aload_n hx hb dX1_keep_14 rfl (lv_at hl 0 rfl) ?_
  refine gI X hH fl_X1_22 lC_66 rfl dX1_keep_15 ?_
  refine lv_iconst (v := 1) hx hb dX1_keep_18 (by decide) ?_
  refine lv_iadd hx hb dX1_keep_19 ?_
  refine lv_bipush (v := 6) hx hb dX1_keep_20 (by decide) ?_
  obtain ⟨hnz, hm⟩ := gNz_some hm
  refine lv_irem hx hb dX1_keep_22 hnz ?_
  obtain ⟨h3, eh3, hm⟩ := mlet_some hm
  refine pI X hH fl_X1_22 fw_1_1 lC_66 rfl dX1_keep_23 (fun H locs hH => ?_)
  rw [← eh3] at hH
  refine lv_aload_n hx hb dX1_keep_26 rfl (lv_at hl 0 rfl) ?_
  refine lv_aload_n hx hb dX1_keep_27 rfl (lv_at hl 0 rfl) ?_
  refine gI X hH fl_X1_18 lC_66 rfl dX1_keep_28 ?_
  refine lv_iconst (v := 1) hx hb dX1_keep_31 (by decide) ?_
  refine lv_iadd hx hb dX1_keep_32 ?_
  refine lv_bipush (v := 6) hx hb dX1_keep_33 (by decide) ?_
  obtain ⟨v4, hq, hm⟩ := bd1_some hm
  refine cSi (As := [.int ((h3 66 2) + (1 : Int32)), .int (6 : Int32)]) X hH kl_X1_29 ks_J9_min_7cf53 (mt_J9_min_7cf53 hq) rfl (by decide) hl.1 rfl (Nat.le_of_ble_eq_true rfl) dX1_keep_35 (fun H locs hH => ?_)
  obtain ⟨h5, eh5, hm⟩ := mlet_some hm
  refine pI X hH fl_X1_18 fw_1_2 lC_66 rfl dX1_keep_38 (fun H locs hH => ?_)
  rw [← eh5] at hH
  cases hm
  exact retV X hH dX1_keep_41
/-! X6_forget -/
def mX6_forget (h : Mm) : Option Mm := mlet (wr h 22 9 (0 : Int32)) (fun h1 => some h1)
set_option maxRecDepth 4000 in
theorem mt_X6_forget {l : Launch} {D : va_G} {ad : Nat → Nat} {ac : Nat → ClassId} {L : List CD} {h : Mm} {h' : Mm} (lk : LkC L) (hm : mX6_forget h = some h') : Mt l D ad ac L rlC yX6_forget cX6_forget 1 none 0 [.ref (ad 22)] h none h' := by
  refine Mt.of (own := RX6) (by decide) rfl (Nat.le_of_ble_eq_true rfl) ?_
  intro p e s m below meth c ls X hH hl
  obtain ⟨hx, hb, hml, hown, hts, hr, hlk, hC, hI, hR⟩ := id X
  have hl : lv_has ls 1 [(0, .ref (ad 22))] := hl
  rw [mX6_forget] at hm
  refine lv_aload_n hx hb dX6_forget_0 rfl (lv_at hl 0 rfl) ?_
  refine lv_iconst (v := 0) hx hb dX6_forget_1 (by decide) ?_
  obtain ⟨h1, eh1, hm⟩ := mlet_some hm
  refine pF X hH fl_X6_33 fw_6_9 (lk 22 _ (by decide) (by decide) lC_22) rfl (x := (0 : Int32)) rfl rfl dX6_forget_2 (fun H locs hH => ?_)
  rw [← eh1] at hH
  cases hm
  exact retV X hH dX6_forget_5
/-! X10_prepareChange -/
def mX10_prepareChange (h : Mm) : Option Mm := bdh (mX1_keep h) (fun h1 => bdh (mX6_forget h1) (fun h2 => some h2))
set_option maxRecDepth 4000 in
theorem mt_X10_prepareChange {l : Launch} {D : va_G} {ad : Nat → Nat} {ac : Nat → ClassId} {h : Mm} {h' : Mm} (hm : mX10_prepareChange h = some h') : Mt l D ad ac LC rlC yX10_prepareChange cX10_prepareChange 1 none 3 [.ref (ad 0)] h none h' := by
  refine Mt.of (own := RX10) (by decide) rfl (Nat.le_of_ble_eq_true rfl) ?_
  intro p e s m below meth c ls X hH hl
  obtain ⟨hx, hb, hml, hown, hts, hr, hlk, hC, hI, hR⟩ := id X
  have hl : lv_has ls 1 [(0, .ref (ad 0))] := hl
  rw [mX10_prepareChange] at hm
  refine lv_aload_n hx hb dX10_prepareChange_0 rfl (lv_at hl 0 rfl) ?_
  refine gR X hH fl_X10_26 lC_0 rfl dX10_prepareChange_1 ?_
  refine lv_aload_n hx hb dX10_prepareChange_4 rfl (lv_at hl 0 rfl) ?_
  refine gR X hH fl_X10_19 lC_0 rfl dX10_prepareChange_5 ?_
  refine gR X hH fl_X10_114 lC_3 rfl dX10_prepareChange_8 ?_
  obtain ⟨h1, hq, hm⟩ := bdh_some hm
  refine cVv X hH kl_X10_284 kv_X1_keep (mt_X1_keep hq) lC_66 rfl rfl (by decide) hl.1 rfl (Nat.le_of_ble_eq_true rfl) dX10_prepareChange_11 (fun H locs hH => ?_)
  refine lv_aload_n hx hb dX10_prepareChange_14 rfl (lv_at hl 0 rfl) ?_
  refine gR X hH fl_X10_47 lC_0 rfl dX10_prepareChange_15 ?_
  obtain ⟨h2, hq, hm⟩ := bdh_some hm
  refine cVv X hH kl_X10_204 kv_X6_forget (mt_X6_forget lkC hq) lC_22 rfl rfl (by decide) hl.1 rfl (Nat.le_of_ble_eq_true rfl) dX10_prepareChange_18 (fun H locs hH => ?_)
  cases hm
  exact retV X hH dX10_prepareChange_21
/-! X10_adopt -/
def mX10_adopt (h : Mm) (a1 : Int32) (a2 : Int32) (a3 : Int32) : Option (Int32 × Mm) := bd1 (mX10_isBadPlan h a1 a2 a3) (fun v1 => if v1 = 0 then (bdh (mX6_find h a1 a2 a3) (fun h2 => bdh (mX10_prepareChange h2) (fun h3 => bd1 (mX4_windowSize h3 a2) (fun v4 => gCp (0 : Int32) a2 v4 6 24 (mlet (va_up h3 12 (va_cpy (h3 29) (h3 12) (0 : Int32).toNatClampNeg a2.toNatClampNeg v4.toNatClampNeg)) (fun h5 => some ((h5 22 16), h5))))))) else (some ((-1 : Int32), h)))
set_option maxRecDepth 4000 in
theorem mt_X10_adopt {l : Launch} {D : va_G} {ad : Nat → Nat} {ac : Nat → ClassId} {h : Mm} {a1 : Int32} {a2 : Int32} {a3 : Int32} {r : Int32} {h' : Mm} (hm : mX10_adopt h a1 a2 a3 = some (r, h')) : Mt l D ad ac LC rlC yX10_adopt cX10_adopt 4 (some .int) 13 [.ref (ad 0), .int a1, .int a2, .int a3] h (some (.int r)) h' := by
  refine Mt.of (own := RX10) (by decide) rfl (Nat.le_of_ble_eq_true rfl) ?_
  intro p e s m below meth c ls X hH hl
  obtain ⟨hx, hb, hml, hown, hts, hr, hlk, hC, hI, hR⟩ := id X
  have hl : lv_has ls 4 [(0, .ref (ad 0)), (1, .int a1), (2, .int a2), (3, .int a3)] := hl
  rw [mX10_adopt] at hm
  refine lv_aload_n hx hb dX10_adopt_0 rfl (lv_at hl 0 rfl) ?_
  refine lv_iload_n hx hb dX10_adopt_1 rfl (lv_at hl 1 rfl) ?_
  refine lv_iload_n hx hb dX10_adopt_2 rfl (lv_at hl 2 rfl) ?_
  refine lv_iload_n hx hb dX10_adopt_3 rfl (lv_at hl 3 rfl) ?_
  obtain ⟨v1, hq, hm⟩ := bd1_some hm
  refine cVi X hH kl_X10_221 kv_X10_isBadPlan (mt_X10_isBadPlan hq) lC_0 rfl rfl (by decide) hl.1 rfl (Nat.le_of_ble_eq_true rfl) dX10_adopt_4 (fun H locs hH => ?_)
  refine lv_if_eq hx hb dX10_adopt_7 (tgt := 12) (by decide) (fun hc => ?_) (fun hc => ?_)
  · rw [if_pos hc] at hm
    refine lv_aload_n hx hb dX10_adopt_12 rfl (lv_at hl 0 rfl) ?_
    refine gR X hH fl_X10_47 lC_0 rfl dX10_adopt_13 ?_
    refine lv_aload_n hx hb dX10_adopt_16 rfl (lv_at hl 0 rfl) ?_
    refine gR X hH fl_X10_19 lC_0 rfl dX10_adopt_17 ?_
    refine lv_aload_n hx hb dX10_adopt_20 rfl (lv_at hl 0 rfl) ?_
    refine gR X hH fl_X10_33 lC_0 rfl dX10_adopt_21 ?_
    refine lv_iload_n hx hb dX10_adopt_24 rfl (lv_at hl 1 rfl) ?_
    refine lv_iload_n hx hb dX10_adopt_25 rfl (lv_at hl 2 rfl) ?_
    refine lv_iload_n hx hb dX10_adopt_26 rfl (lv_at hl 3 rfl) ?_
    obtain ⟨h2, hq, hm⟩ := bdh_some hm
    refine cVv X hH kl_X10_227 kv_X6_find (mt_X6_find hq) lC_22 rfl rfl (by decide) hl.1 rfl (Nat.le_of_ble_eq_true rfl) dX10_adopt_27 (fun H locs hH => ?_)
    refine lv_aload_n hx hb dX10_adopt_30 rfl (lv_at hl 0 rfl) ?_
    obtain ⟨h3, hq, hm⟩ := bdh_some hm
    refine cVv X hH kl_X10_187 kv_X10_prepareChange (mt_X10_prepareChange hq) lC_0 rfl rfl (by decide) hl.1 rfl (Nat.le_of_ble_eq_true rfl) dX10_adopt_31 (fun H locs hH => ?_)
    refine lv_aload_n hx hb dX10_adopt_34 rfl (lv_at hl 0 rfl) ?_
    refine gR X hH fl_X10_47 lC_0 rfl dX10_adopt_35 ?_
    refine gR X hH fl_X10_245 lC_22 rfl dX10_adopt_38 ?_
    refine lv_iconst (v := 0) hx hb dX10_adopt_41 (by decide) ?_
    refine lv_aload_n hx hb dX10_adopt_42 rfl (lv_at hl 0 rfl) ?_
    refine gR X hH fl_X10_19 lC_0 rfl dX10_adopt_43 ?_
    refine gR X hH fl_X10_114 lC_3 rfl dX10_adopt_46 ?_
    refine gR X hH fl_X10_168 lC_11 rfl dX10_adopt_49 ?_
    refine lv_iload_n hx hb dX10_adopt_52 rfl (lv_at hl 2 rfl) ?_
    refine lv_aload_n hx hb dX10_adopt_53 rfl (lv_at hl 0 rfl) ?_
    refine gR X hH fl_X10_19 lC_0 rfl dX10_adopt_54 ?_
    refine lv_iload_n hx hb dX10_adopt_57 rfl (lv_at hl 2 rfl) ?_
    obtain ⟨v4, hq, hm⟩ := bd1_some hm
    refine cVi X hH kl_X10_224 kv_X4_windowSize (mt_X4_windowSize hq) lC_3 rfl rfl (by decide) hl.1 rfl (Nat.le_of_ble_eq_true rfl) dX10_adopt_58 (fun H locs hH => ?_)
    obtain ⟨hcp6, hm⟩ := gCp_some hm
    obtain ⟨h5, eh5, hm⟩ := mlet_some hm
    refine acp X hH ml_X10_248 lC_29 lC_12 hcp6 (by decide) hl.1 (Nat.le_of_ble_eq_true rfl) dX10_adopt_61 (fun H locs hH => ?_)
    rw [← eh5] at hH
    refine lv_aload_n hx hb dX10_adopt_64 rfl (lv_at hl 0 rfl) ?_
    refine gR X hH fl_X10_47 lC_0 rfl dX10_adopt_65 ?_
    refine gI X hH fl_X10_242 lC_22 rfl dX10_adopt_68 ?_
    cases hm
    exact retI X hH dX10_adopt_71
  · rw [if_neg hc] at hm
    refine lv_iconst (v := (-1)) hx hb dX10_adopt_10 (by decide) ?_
    cases hm
    exact retI X hH dX10_adopt_11
/-! X2_has_42 -/
def mX2_has_42 (h : Mm) (a1 : Int32) : Option Int32 := if a1 < 0 then (some (0 : Int32)) else (if (h 42 3) ≤ a1 then (some (0 : Int32)) else (some (1 : Int32)))
set_option maxRecDepth 4000 in
theorem mt_X2_has_42 {l : Launch} {D : va_G} {ad : Nat → Nat} {ac : Nat → ClassId} {h : Mm} {a1 : Int32} {r : Int32} (hm : mX2_has_42 h a1 = some r) : Mt l D ad ac LC rlC yX2_has cX2_has 2 (some .boolean) 0 [.ref (ad 42), .int a1] h (some (.int r)) h := by
  refine Mt.of (own := RX2) (by decide) rfl (Nat.le_of_ble_eq_true rfl) ?_
  intro p e s m below meth c ls X hH hl
  obtain ⟨hx, hb, hml, hown, hts, hr, hlk, hC, hI, hR⟩ := id X
  have hl : lv_has ls 2 [(0, .ref (ad 42)), (1, .int a1)] := hl
  rw [mX2_has_42] at hm
  refine lv_iload_n hx hb dX2_has_0 rfl (lv_at hl 1 rfl) ?_
  refine lv_if_lt hx hb dX2_has_1 (tgt := 16) (by decide) (fun hc => ?_) (fun hc => ?_)
  · rw [if_pos hc] at hm
    refine lv_iconst (v := 0) hx hb dX2_has_16 (by decide) ?_
    cases hm
    exact retZ X hH rfl dX2_has_17
  · rw [if_neg hc] at hm
    refine lv_iload_n hx hb dX2_has_4 rfl (lv_at hl 1 rfl) ?_
    refine lv_aload_n hx hb dX2_has_5 rfl (lv_at hl 0 rfl) ?_
    refine gI X hH fl_X2_21 lC_42 rfl dX2_has_6 ?_
    refine lv_icmp_ge hx hb dX2_has_9 (tgt := 16) (by decide) (fun hc => ?_) (fun hc => ?_)
    · rw [if_pos hc] at hm
      refine lv_iconst (v := 0) hx hb dX2_has_16 (by decide) ?_
      cases hm
      exact retZ X hH rfl dX2_has_17
    · rw [if_neg hc] at hm
      refine lv_iconst (v := 1) hx hb dX2_has_12 (by decide) ?_
      refine lv_goto hx hb dX2_has_13 (tgt := 17) (by decide) ?_
      cases hm
      exact retZ X hH rfl dX2_has_17
/-! X4_contactsOfAntenna -/
def mX4_contactsOfAntenna_34 (h : Mm) (k4 : Int32 → Int32 → Int32 → Option Int32) (x1 : Int32) (x3 : Int32) (t0 : Int32) (t1 : Int32) : Option Int32 := mlet (t1 + t0) (fun u1 => k4 x1 u1 (x3 + 1))
set_option maxRecDepth 4000 in
theorem wX4_contactsOfAntenna_34 {p : Program} {l : Launch} {e : Env} {s : State} {m : MethodId} {args : Array Value} {below : List Frame} {meth : Method} {c : Code} {D : va_G} {ad : Nat → Nat} {ac : Nat → ClassId} {h : Mm} {r : Int32} (X : Fx p s m args meth c cX4_contactsOfAntenna 4 RX4 (some .int) D ad ac LC rlC) {k4 : Int32 → Int32 → Int32 → Option Int32} (ih4 : ∀ (x1 : Int32) (x2 : Int32) (x3 : Int32) (H : Heap) (locs : List Loc) (ls : Array Slot), k4 x1 x2 x3 = some r → Hp D ad ac LC h s H locs → lv_has ls 4 [(0, .ref (ad 3)), (1, .int x1), (2, .int x2), (3, .int x3)] → W p l e (rmD 0) s m args below meth c H locs 0 0 (MQ below (QU D ad ac LC (some (.int r)) h s.heap.size) args s 0 0 (Aa ad LC.length s.heap.size)) (F0 m 4 ls [])) : ∀ (x1 : Int32) (x3 : Int32) (t0 : Int32) (t1 : Int32) (H : Heap) (locs : List Loc) (ls : Array Slot), mX4_contactsOfAntenna_34 h k4 x1 x3 t0 t1 = some r → Hp D ad ac LC h s H locs → lv_has ls 4 [(0, .ref (ad 3)), (1, .int x1), (3, .int x3)] → W p l e (rmD 0) s m args below meth c H locs 0 0 (MQ below (QU D ad ac LC (some (.int r)) h s.heap.size) args s 0 0 (Aa ad LC.length s.heap.size)) (F0 m 34 ls [.int t0, .int t1]) := by
  obtain ⟨hx, hb, hml, hown, hts, hr, hlk, hC, hI, hR⟩ := id X
  intro x1 x3 t0 t1 H locs ls hm hH hl
  rw [mX4_contactsOfAntenna_34] at hm
  refine lv_iadd hx hb dX4_contactsOfAntenna_34 ?_
  obtain ⟨u1, eu1, hm⟩ := mlet_some hm
  refine W.eq (g2 := F0 m 35 ls (.int u1 :: [])) (by rw [eu1]) ?_
  refine lv_istore_n (lv' := [(2, .int u1), (0, .ref (ad 3)), (1, .int x1), (3, .int x3)]) hx hb dX4_contactsOfAntenna_35 rfl hl (by decide) rfl (fun ls hl => ?_)
  refine lv_iinc (k := 3) (v := (x3 + 1)) (lv' := [(3, .int (x3 + 1)), (2, .int u1), (0, .ref (ad 3)), (1, .int x1)]) hx hb dX4_contactsOfAntenna_36 hl rfl rfl (by decide) rfl (fun ls hl => ?_)
  refine lv_goto hx hb dX4_contactsOfAntenna_39 (tgt := 4) (by decide) ?_
  exact ih4 x1 u1 (x3 + 1) _ _ _ hm hH (lv_sub hl [2, 3, 1, 0] rfl)
def mX4_contactsOfAntenna_4 (h : Mm) : Nat → Int32 → Int32 → Int32 → Option Int32
  | 0, _, _, _ => none
  | n + 1, x1, x2, x3 => if (h 4 6) ≤ x3 then (some x2) else (gIn x3 24 (if (h 12 x3.toNatClampNeg) = x1 then (mX4_contactsOfAntenna_34 h (mX4_contactsOfAntenna_4 h n) x1 x3 (1 : Int32) x2) else (mX4_contactsOfAntenna_34 h (mX4_contactsOfAntenna_4 h n) x1 x3 (0 : Int32) x2)))
set_option maxRecDepth 4000 in
theorem wX4_contactsOfAntenna_4 {p : Program} {l : Launch} {e : Env} {s : State} {m : MethodId} {args : Array Value} {below : List Frame} {meth : Method} {c : Code} {D : va_G} {ad : Nat → Nat} {ac : Nat → ClassId} {h : Mm} {r : Int32} (X : Fx p s m args meth c cX4_contactsOfAntenna 4 RX4 (some .int) D ad ac LC rlC) : ∀ (n : Nat) (x1 : Int32) (x2 : Int32) (x3 : Int32) (H : Heap) (locs : List Loc) (ls : Array Slot), mX4_contactsOfAntenna_4 h n x1 x2 x3 = some r → Hp D ad ac LC h s H locs → lv_has ls 4 [(0, .ref (ad 3)), (1, .int x1), (2, .int x2), (3, .int x3)] → W p l e (rmD 0) s m args below meth c H locs 0 0 (MQ below (QU D ad ac LC (some (.int r)) h s.heap.size) args s 0 0 (Aa ad LC.length s.heap.size)) (F0 m 4 ls []) := by
  obtain ⟨hx, hb, hml, hown, hts, hr, hlk, hC, hI, hR⟩ := id X
  intro n
  induction n with
  | zero => intro x1 x2 x3 H locs ls hm; rw [mX4_contactsOfAntenna_4] at hm; cases hm
  | succ n ih =>
    intro x1 x2 x3 H locs ls hm hH hl
    rw [mX4_contactsOfAntenna_4] at hm
    refine lv_iload_n hx hb dX4_contactsOfAntenna_4 rfl (lv_at hl 3 rfl) ?_
    refine lv_aload_n hx hb dX4_contactsOfAntenna_5 rfl (lv_at hl 0 rfl) ?_
    refine gR X hH fl_X4_21 lC_3 rfl dX4_contactsOfAntenna_6 ?_
    refine gI X hH fl_X4_39 lC_4 rfl dX4_contactsOfAntenna_9 ?_
    refine lv_icmp_ge hx hb dX4_contactsOfAntenna_12 (tgt := 42) (by decide) (fun hc => ?_) (fun hc => ?_)
    · rw [if_pos hc] at hm
      refine lv_iload_n hx hb dX4_contactsOfAntenna_42 rfl (lv_at hl 2 rfl) ?_
      cases hm
      exact retI X hH dX4_contactsOfAntenna_43
    · rw [if_neg hc] at hm
      refine lv_iload_n hx hb dX4_contactsOfAntenna_15 rfl (lv_at hl 2 rfl) ?_
      refine lv_aload_n hx hb dX4_contactsOfAntenna_16 rfl (lv_at hl 0 rfl) ?_
      refine gR X hH fl_X4_28 lC_3 rfl dX4_contactsOfAntenna_17 ?_
      refine gR X hH fl_X4_49 lC_11 rfl dX4_contactsOfAntenna_20 ?_
      refine lv_iload_n hx hb dX4_contactsOfAntenna_23 rfl (lv_at hl 3 rfl) ?_
      obtain ⟨hin1, hm⟩ := gIn_some hm
      refine ild X hH lC_12 hin1 dX4_contactsOfAntenna_24 ?_
      refine lv_iload_n hx hb dX4_contactsOfAntenna_25 rfl (lv_at hl 1 rfl) ?_
      refine lv_icmp_ne hx hb dX4_contactsOfAntenna_26 (tgt := 33) (by decide) (fun hc => ?_) (fun hc => ?_)
      · rw [if_neg hc] at hm
        refine lv_iconst (v := 0) hx hb dX4_contactsOfAntenna_33 (by decide) ?_
        exact wX4_contactsOfAntenna_34 X ih x1 x3 (0 : Int32) x2 _ _ _ hm hH (lv_sub hl [0, 1, 3] rfl)
      · rw [if_pos hc] at hm
        refine lv_iconst (v := 1) hx hb dX4_contactsOfAntenna_29 (by decide) ?_
        refine lv_goto hx hb dX4_contactsOfAntenna_30 (tgt := 34) (by decide) ?_
        exact wX4_contactsOfAntenna_34 X ih x1 x3 (1 : Int32) x2 _ _ _ hm hH (lv_sub hl [0, 1, 3] rfl)
def mX4_contactsOfAntenna (h : Mm) (a1 : Int32) : Option Int32 := mX4_contactsOfAntenna_4 h FU a1 (0 : Int32) (0 : Int32)
set_option maxRecDepth 4000 in
theorem mt_X4_contactsOfAntenna {l : Launch} {D : va_G} {ad : Nat → Nat} {ac : Nat → ClassId} {h : Mm} {a1 : Int32} {r : Int32} (hm : mX4_contactsOfAntenna h a1 = some r) : Mt l D ad ac LC rlC yX4_contactsOfAntenna cX4_contactsOfAntenna 4 (some .int) 0 [.ref (ad 3), .int a1] h (some (.int r)) h := by
  refine Mt.of (own := RX4) (by decide) rfl (Nat.le_of_ble_eq_true rfl) ?_
  intro p e s m below meth c ls X hH hl
  obtain ⟨hx, hb, hml, hown, hts, hr, hlk, hC, hI, hR⟩ := id X
  have hl : lv_has ls 4 [(0, .ref (ad 3)), (1, .int a1)] := hl
  rw [mX4_contactsOfAntenna] at hm
  refine lv_iconst (v := 0) hx hb dX4_contactsOfAntenna_0 (by decide) ?_
  refine lv_istore_n (lv' := [(2, .int (0 : Int32)), (0, .ref (ad 3)), (1, .int a1)]) hx hb dX4_contactsOfAntenna_1 rfl hl (by decide) rfl (fun ls hl => ?_)
  refine lv_iconst (v := 0) hx hb dX4_contactsOfAntenna_2 (by decide) ?_
  refine lv_istore_n (lv' := [(3, .int (0 : Int32)), (2, .int (0 : Int32)), (0, .ref (ad 3)), (1, .int a1)]) hx hb dX4_contactsOfAntenna_3 rfl hl (by decide) rfl (fun ls hl => ?_)
  exact wX4_contactsOfAntenna_4 X FU a1 (0 : Int32) (0 : Int32) _ _ _ hm hH (lv_sub hl [2, 3, 1, 0] rfl)
/-! X4_busySlotsOfAntenna -/
def mX4_busySlotsOfAntenna_54 (h : Mm) (k4 : Int32 → Int32 → Int32 → Option Int32) (x1 : Int32) (x3 : Int32) (t0 : Int32) (t1 : Int32) : Option Int32 := mlet (t1 + t0) (fun u1 => k4 x1 u1 (x3 + 1))
set_option maxRecDepth 4000 in
theorem wX4_busySlotsOfAntenna_54 {p : Program} {l : Launch} {e : Env} {s : State} {m : MethodId} {args : Array Value} {below : List Frame} {meth : Method} {c : Code} {D : va_G} {ad : Nat → Nat} {ac : Nat → ClassId} {h : Mm} {r : Int32} (X : Fx p s m args meth c cX4_busySlotsOfAntenna 4 RX4 (some .int) D ad ac LC rlC) {k4 : Int32 → Int32 → Int32 → Option Int32} (ih4 : ∀ (x1 : Int32) (x2 : Int32) (x3 : Int32) (H : Heap) (locs : List Loc) (ls : Array Slot), k4 x1 x2 x3 = some r → Hp D ad ac LC h s H locs → lv_has ls 4 [(0, .ref (ad 3)), (1, .int x1), (2, .int x2), (3, .int x3)] → W p l e (rmD 0) s m args below meth c H locs 0 0 (MQ below (QU D ad ac LC (some (.int r)) h s.heap.size) args s 0 0 (Aa ad LC.length s.heap.size)) (F0 m 4 ls [])) : ∀ (x1 : Int32) (x3 : Int32) (t0 : Int32) (t1 : Int32) (H : Heap) (locs : List Loc) (ls : Array Slot), mX4_busySlotsOfAntenna_54 h k4 x1 x3 t0 t1 = some r → Hp D ad ac LC h s H locs → lv_has ls 4 [(0, .ref (ad 3)), (1, .int x1), (3, .int x3)] → W p l e (rmD 0) s m args below meth c H locs 0 0 (MQ below (QU D ad ac LC (some (.int r)) h s.heap.size) args s 0 0 (Aa ad LC.length s.heap.size)) (F0 m 54 ls [.int t0, .int t1]) := by
  obtain ⟨hx, hb, hml, hown, hts, hr, hlk, hC, hI, hR⟩ := id X
  intro x1 x3 t0 t1 H locs ls hm hH hl
  rw [mX4_busySlotsOfAntenna_54] at hm
  refine lv_iadd hx hb dX4_busySlotsOfAntenna_54 ?_
  obtain ⟨u1, eu1, hm⟩ := mlet_some hm
  refine W.eq (g2 := F0 m 55 ls (.int u1 :: [])) (by rw [eu1]) ?_
  refine lv_istore_n (lv' := [(2, .int u1), (0, .ref (ad 3)), (1, .int x1), (3, .int x3)]) hx hb dX4_busySlotsOfAntenna_55 rfl hl (by decide) rfl (fun ls hl => ?_)
  refine lv_iinc (k := 3) (v := (x3 + 1)) (lv' := [(3, .int (x3 + 1)), (2, .int u1), (0, .ref (ad 3)), (1, .int x1)]) hx hb dX4_busySlotsOfAntenna_56 hl rfl rfl (by decide) rfl (fun ls hl => ?_)
  refine lv_goto hx hb dX4_busySlotsOfAntenna_59 (tgt := 4) (by decide) ?_
  exact ih4 x1 u1 (x3 + 1) _ _ _ hm hH (lv_sub hl [2, 3, 1, 0] rfl)
def mX4_busySlotsOfAntenna_4 (h : Mm) : Nat → Int32 → Int32 → Int32 → Option Int32
  | 0, _, _, _ => none
  | n + 1, x1, x2, x3 => if (h 4 6) ≤ x3 then (some x2) else (gIn x3 24 (if (h 12 x3.toNatClampNeg) = x1 then (gIn x3 24 (gIn x3 24 (mX4_busySlotsOfAntenna_54 h (mX4_busySlotsOfAntenna_4 h n) x1 x3 (((h 6 x3.toNatClampNeg) - (h 5 x3.toNatClampNeg)) + (1 : Int32)) x2))) else (mX4_busySlotsOfAntenna_54 h (mX4_busySlotsOfAntenna_4 h n) x1 x3 (0 : Int32) x2)))
set_option maxRecDepth 4000 in
theorem wX4_busySlotsOfAntenna_4 {p : Program} {l : Launch} {e : Env} {s : State} {m : MethodId} {args : Array Value} {below : List Frame} {meth : Method} {c : Code} {D : va_G} {ad : Nat → Nat} {ac : Nat → ClassId} {h : Mm} {r : Int32} (X : Fx p s m args meth c cX4_busySlotsOfAntenna 4 RX4 (some .int) D ad ac LC rlC) : ∀ (n : Nat) (x1 : Int32) (x2 : Int32) (x3 : Int32) (H : Heap) (locs : List Loc) (ls : Array Slot), mX4_busySlotsOfAntenna_4 h n x1 x2 x3 = some r → Hp D ad ac LC h s H locs → lv_has ls 4 [(0, .ref (ad 3)), (1, .int x1), (2, .int x2), (3, .int x3)] → W p l e (rmD 0) s m args below meth c H locs 0 0 (MQ below (QU D ad ac LC (some (.int r)) h s.heap.size) args s 0 0 (Aa ad LC.length s.heap.size)) (F0 m 4 ls []) := by
  obtain ⟨hx, hb, hml, hown, hts, hr, hlk, hC, hI, hR⟩ := id X
  intro n
  induction n with
  | zero => intro x1 x2 x3 H locs ls hm; rw [mX4_busySlotsOfAntenna_4] at hm; cases hm
  | succ n ih =>
    intro x1 x2 x3 H locs ls hm hH hl
    rw [mX4_busySlotsOfAntenna_4] at hm
    refine lv_iload_n hx hb dX4_busySlotsOfAntenna_4 rfl (lv_at hl 3 rfl) ?_
    refine lv_aload_n hx hb dX4_busySlotsOfAntenna_5 rfl (lv_at hl 0 rfl) ?_
    refine gR X hH fl_X4_21 lC_3 rfl dX4_busySlotsOfAntenna_6 ?_
    refine gI X hH fl_X4_39 lC_4 rfl dX4_busySlotsOfAntenna_9 ?_
    refine lv_icmp_ge hx hb dX4_busySlotsOfAntenna_12 (tgt := 62) (by decide) (fun hc => ?_) (fun hc => ?_)
    · rw [if_pos hc] at hm
      refine lv_iload_n hx hb dX4_busySlotsOfAntenna_62 rfl (lv_at hl 2 rfl) ?_
      cases hm
      exact retI X hH dX4_busySlotsOfAntenna_63
    · rw [if_neg hc] at hm
      refine lv_iload_n hx hb dX4_busySlotsOfAntenna_15 rfl (lv_at hl 2 rfl) ?_
      refine lv_aload_n hx hb dX4_busySlotsOfAntenna_16 rfl (lv_at hl 0 rfl) ?_
      refine gR X hH fl_X4_28 lC_3 rfl dX4_busySlotsOfAntenna_17 ?_
      refine gR X hH fl_X4_49 lC_11 rfl dX4_busySlotsOfAntenna_20 ?_
      refine lv_iload_n hx hb dX4_busySlotsOfAntenna_23 rfl (lv_at hl 3 rfl) ?_
      obtain ⟨hin1, hm⟩ := gIn_some hm
      refine ild X hH lC_12 hin1 dX4_busySlotsOfAntenna_24 ?_
      refine lv_iload_n hx hb dX4_busySlotsOfAntenna_25 rfl (lv_at hl 1 rfl) ?_
      refine lv_icmp_ne hx hb dX4_busySlotsOfAntenna_26 (tgt := 53) (by decide) (fun hc => ?_) (fun hc => ?_)
      · rw [if_neg hc] at hm
        refine lv_iconst (v := 0) hx hb dX4_busySlotsOfAntenna_53 (by decide) ?_
        exact wX4_busySlotsOfAntenna_54 X ih x1 x3 (0 : Int32) x2 _ _ _ hm hH (lv_sub hl [0, 1, 3] rfl)
      · rw [if_pos hc] at hm
        refine lv_aload_n hx hb dX4_busySlotsOfAntenna_29 rfl (lv_at hl 0 rfl) ?_
        refine gR X hH fl_X4_21 lC_3 rfl dX4_busySlotsOfAntenna_30 ?_
        refine gR X hH fl_X4_59 lC_4 rfl dX4_busySlotsOfAntenna_33 ?_
        refine lv_iload_n hx hb dX4_busySlotsOfAntenna_36 rfl (lv_at hl 3 rfl) ?_
        obtain ⟨hin2, hm⟩ := gIn_some hm
        refine ild X hH lC_6 hin2 dX4_busySlotsOfAntenna_37 ?_
        refine lv_aload_n hx hb dX4_busySlotsOfAntenna_38 rfl (lv_at hl 0 rfl) ?_
        refine gR X hH fl_X4_21 lC_3 rfl dX4_busySlotsOfAntenna_39 ?_
        refine gR X hH fl_X4_62 lC_4 rfl dX4_busySlotsOfAntenna_42 ?_
        refine lv_iload_n hx hb dX4_busySlotsOfAntenna_45 rfl (lv_at hl 3 rfl) ?_
        obtain ⟨hin3, hm⟩ := gIn_some hm
        refine ild X hH lC_5 hin3 dX4_busySlotsOfAntenna_46 ?_
        refine lv_isub hx hb dX4_busySlotsOfAntenna_47 ?_
        refine lv_iconst (v := 1) hx hb dX4_busySlotsOfAntenna_48 (by decide) ?_
        refine lv_iadd hx hb dX4_busySlotsOfAntenna_49 ?_
        refine lv_goto hx hb dX4_busySlotsOfAntenna_50 (tgt := 54) (by decide) ?_
        exact wX4_busySlotsOfAntenna_54 X ih x1 x3 (((h 6 x3.toNatClampNeg) - (h 5 x3.toNatClampNeg)) + (1 : Int32)) x2 _ _ _ hm hH (lv_sub hl [0, 1, 3] rfl)
def mX4_busySlotsOfAntenna (h : Mm) (a1 : Int32) : Option Int32 := mX4_busySlotsOfAntenna_4 h FU a1 (0 : Int32) (0 : Int32)
set_option maxRecDepth 4000 in
theorem mt_X4_busySlotsOfAntenna {l : Launch} {D : va_G} {ad : Nat → Nat} {ac : Nat → ClassId} {h : Mm} {a1 : Int32} {r : Int32} (hm : mX4_busySlotsOfAntenna h a1 = some r) : Mt l D ad ac LC rlC yX4_busySlotsOfAntenna cX4_busySlotsOfAntenna 4 (some .int) 0 [.ref (ad 3), .int a1] h (some (.int r)) h := by
  refine Mt.of (own := RX4) (by decide) rfl (Nat.le_of_ble_eq_true rfl) ?_
  intro p e s m below meth c ls X hH hl
  obtain ⟨hx, hb, hml, hown, hts, hr, hlk, hC, hI, hR⟩ := id X
  have hl : lv_has ls 4 [(0, .ref (ad 3)), (1, .int a1)] := hl
  rw [mX4_busySlotsOfAntenna] at hm
  refine lv_iconst (v := 0) hx hb dX4_busySlotsOfAntenna_0 (by decide) ?_
  refine lv_istore_n (lv' := [(2, .int (0 : Int32)), (0, .ref (ad 3)), (1, .int a1)]) hx hb dX4_busySlotsOfAntenna_1 rfl hl (by decide) rfl (fun ls hl => ?_)
  refine lv_iconst (v := 0) hx hb dX4_busySlotsOfAntenna_2 (by decide) ?_
  refine lv_istore_n (lv' := [(3, .int (0 : Int32)), (2, .int (0 : Int32)), (0, .ref (ad 3)), (1, .int a1)]) hx hb dX4_busySlotsOfAntenna_3 rfl hl (by decide) rfl (fun ls hl => ?_)
  exact wX4_busySlotsOfAntenna_4 X FU a1 (0 : Int32) (0 : Int32) _ _ _ hm hH (lv_sub hl [2, 3, 1, 0] rfl)
/-! X10_antenna -/
def mX10_antenna (h : Mm) (a1 : Int32) (a2 : Int32) : Option Int32 := bd1 (mX2_has_42 h a1) (fun v1 => if v1 = 0 then (some (-1 : Int32)) else (if a2 < 0 then (some (-1 : Int32)) else (if a2 ≤ (6 : Int32) then (if a2 = (3 : Int32) then (bd1 (mX8_isOut h a1) (fun v3 => if v3 = 0 then (some (-4 : Int32)) else (gIn a1 4 (some (h 13 a1.toNatClampNeg))))) else (if a2 = (4 : Int32) then (bd1 (mX8_isOut h a1) (fun v5 => if v5 = 0 then (some (-4 : Int32)) else (gIn a1 4 (some (h 14 a1.toNatClampNeg))))) else (if a2 = (5 : Int32) then (bd1 (mX4_contactsOfAntenna h a1) (fun v7 => some v7)) else (if a2 = (6 : Int32) then (bd1 (mX4_busySlotsOfAntenna h a1) (fun v8 => some v8)) else (bd1 (mX2_number_42 h a1 a2) (fun v2 => some v2)))))) else (some (-1 : Int32)))))
set_option maxRecDepth 4000 in
theorem mt_X10_antenna {l : Launch} {D : va_G} {ad : Nat → Nat} {ac : Nat → ClassId} {h : Mm} {a1 : Int32} {a2 : Int32} {r : Int32} (hm : mX10_antenna h a1 a2 = some r) : Mt l D ad ac LC rlC yX10_antenna cX10_antenna 3 (some .int) 1 [.ref (ad 0), .int a1, .int a2] h (some (.int r)) h := by
  refine Mt.of (own := RX10) (by decide) rfl (Nat.le_of_ble_eq_true rfl) ?_
  intro p e s m below meth c ls X hH hl
  obtain ⟨hx, hb, hml, hown, hts, hr, hlk, hC, hI, hR⟩ := id X
  have hl : lv_has ls 3 [(0, .ref (ad 0)), (1, .int a1), (2, .int a2)] := hl
  rw [mX10_antenna] at hm
  refine lv_aload_n hx hb dX10_antenna_0 rfl (lv_at hl 0 rfl) ?_
  refine gR X hH fl_X10_19 lC_0 rfl dX10_antenna_1 ?_
  refine gR X hH fl_X10_87 lC_3 rfl dX10_antenna_4 ?_
  refine gR X hH fl_X10_111 lC_30 rfl dX10_antenna_7 ?_
  refine lv_iload_n hx hb dX10_antenna_10 rfl (lv_at hl 1 rfl) ?_
  obtain ⟨v1, hq, hm⟩ := bd1_some hm
  refine cVi X hH kl_X10_94 kv_X2_has (mt_X2_has_42 hq) lC_42 rfl rfl (by decide) hl.1 rfl (Nat.le_of_ble_eq_true rfl) dX10_antenna_11 (fun H locs hH => ?_)
  refine lv_if_eq hx hb dX10_antenna_14 (tgt := 27) (by decide) (fun hc => ?_) (fun hc => ?_)
  · rw [if_pos hc] at hm
    refine lv_iconst (v := (-1)) hx hb dX10_antenna_27 (by decide) ?_
    cases hm
    exact retI X hH dX10_antenna_28
  · rw [if_neg hc] at hm
    refine lv_iload_n hx hb dX10_antenna_17 rfl (lv_at hl 2 rfl) ?_
    refine lv_if_lt hx hb dX10_antenna_18 (tgt := 27) (by decide) (fun hc => ?_) (fun hc => ?_)
    · rw [if_pos hc] at hm
      refine lv_iconst (v := (-1)) hx hb dX10_antenna_27 (by decide) ?_
      cases hm
      exact retI X hH dX10_antenna_28
    · rw [if_neg hc] at hm
      refine lv_iload_n hx hb dX10_antenna_21 rfl (lv_at hl 2 rfl) ?_
      refine lv_bipush (v := 6) hx hb dX10_antenna_22 (by decide) ?_
      refine lv_icmp_le hx hb dX10_antenna_24 (tgt := 29) (by decide) (fun hc => ?_) (fun hc => ?_)
      · rw [if_pos hc] at hm
        refine lv_iload_n hx hb dX10_antenna_29 rfl (lv_at hl 2 rfl) ?_
        by_cases hc0 : a2 = (3 : Int32)
        · rw [if_pos hc0] at hm
          refine lv_tableIn hx hb dX10_antenna_30 (by rw [hc0]; decide) (by rw [hc0]; decide) (off := 30) (by rw [hc0]; rfl) (tgt := 60) (by decide) ?_
          refine lv_aload_n hx hb dX10_antenna_60 rfl (lv_at hl 0 rfl) ?_
          refine gR X hH fl_X10_19 lC_0 rfl dX10_antenna_61 ?_
          refine gR X hH fl_X10_114 lC_3 rfl dX10_antenna_64 ?_
          refine lv_iload_n hx hb dX10_antenna_67 rfl (lv_at hl 1 rfl) ?_
          obtain ⟨v3, hq, hm⟩ := bd1_some hm
          refine cVi X hH kl_X10_118 kv_X8_isOut (mt_X8_isOut hq) lC_11 rfl rfl (by decide) hl.1 rfl (Nat.le_of_ble_eq_true rfl) dX10_antenna_68 (fun H locs hH => ?_)
          refine lv_if_eq hx hb dX10_antenna_71 (tgt := 89) (by decide) (fun hc => ?_) (fun hc => ?_)
          · rw [if_pos hc] at hm
            refine lv_bipush (v := (-4)) hx hb dX10_antenna_89 (by decide) ?_
            cases hm
            exact retI X hH dX10_antenna_91
          · rw [if_neg hc] at hm
            refine lv_aload_n hx hb dX10_antenna_74 rfl (lv_at hl 0 rfl) ?_
            refine gR X hH fl_X10_19 lC_0 rfl dX10_antenna_75 ?_
            refine gR X hH fl_X10_114 lC_3 rfl dX10_antenna_78 ?_
            refine gR X hH fl_X10_123 lC_11 rfl dX10_antenna_81 ?_
            refine lv_iload_n hx hb dX10_antenna_84 rfl (lv_at hl 1 rfl) ?_
            obtain ⟨hin4, hm⟩ := gIn_some hm
            refine ild X hH lC_13 hin4 dX10_antenna_85 ?_
            refine lv_goto hx hb dX10_antenna_86 (tgt := 91) (by decide) ?_
            cases hm
            exact retI X hH dX10_antenna_91
        · rw [if_neg hc0] at hm
          by_cases hc1 : a2 = (4 : Int32)
          · rw [if_pos hc1] at hm
            refine lv_tableIn hx hb dX10_antenna_30 (by rw [hc1]; decide) (by rw [hc1]; decide) (off := 62) (by rw [hc1]; rfl) (tgt := 92) (by decide) ?_
            refine lv_aload_n hx hb dX10_antenna_92 rfl (lv_at hl 0 rfl) ?_
            refine gR X hH fl_X10_19 lC_0 rfl dX10_antenna_93 ?_
            refine gR X hH fl_X10_114 lC_3 rfl dX10_antenna_96 ?_
            refine lv_iload_n hx hb dX10_antenna_99 rfl (lv_at hl 1 rfl) ?_
            obtain ⟨v5, hq, hm⟩ := bd1_some hm
            refine cVi X hH kl_X10_118 kv_X8_isOut (mt_X8_isOut hq) lC_11 rfl rfl (by decide) hl.1 rfl (Nat.le_of_ble_eq_true rfl) dX10_antenna_100 (fun H locs hH => ?_)
            refine lv_if_eq hx hb dX10_antenna_103 (tgt := 121) (by decide) (fun hc => ?_) (fun hc => ?_)
            · rw [if_pos hc] at hm
              refine lv_bipush (v := (-4)) hx hb dX10_antenna_121 (by decide) ?_
              cases hm
              exact retI X hH dX10_antenna_123
            · rw [if_neg hc] at hm
              refine lv_aload_n hx hb dX10_antenna_106 rfl (lv_at hl 0 rfl) ?_
              refine gR X hH fl_X10_19 lC_0 rfl dX10_antenna_107 ?_
              refine gR X hH fl_X10_114 lC_3 rfl dX10_antenna_110 ?_
              refine gR X hH fl_X10_127 lC_11 rfl dX10_antenna_113 ?_
              refine lv_iload_n hx hb dX10_antenna_116 rfl (lv_at hl 1 rfl) ?_
              obtain ⟨hin6, hm⟩ := gIn_some hm
              refine ild X hH lC_14 hin6 dX10_antenna_117 ?_
              refine lv_goto hx hb dX10_antenna_118 (tgt := 123) (by decide) ?_
              cases hm
              exact retI X hH dX10_antenna_123
          · rw [if_neg hc1] at hm
            by_cases hc2 : a2 = (5 : Int32)
            · rw [if_pos hc2] at hm
              refine lv_tableIn hx hb dX10_antenna_30 (by rw [hc2]; decide) (by rw [hc2]; decide) (off := 94) (by rw [hc2]; rfl) (tgt := 124) (by decide) ?_
              refine lv_aload_n hx hb dX10_antenna_124 rfl (lv_at hl 0 rfl) ?_
              refine gR X hH fl_X10_19 lC_0 rfl dX10_antenna_125 ?_
              refine lv_iload_n hx hb dX10_antenna_128 rfl (lv_at hl 1 rfl) ?_
              obtain ⟨v7, hq, hm⟩ := bd1_some hm
              refine cVi X hH kl_X10_130 kv_X4_contactsOfAntenna (mt_X4_contactsOfAntenna hq) lC_3 rfl rfl (by decide) hl.1 rfl (Nat.le_of_ble_eq_true rfl) dX10_antenna_129 (fun H locs hH => ?_)
              cases hm
              exact retI X hH dX10_antenna_132
            · rw [if_neg hc2] at hm
              by_cases hc3 : a2 = (6 : Int32)
              · rw [if_pos hc3] at hm
                refine lv_tableIn hx hb dX10_antenna_30 (by rw [hc3]; decide) (by rw [hc3]; decide) (off := 103) (by rw [hc3]; rfl) (tgt := 133) (by decide) ?_
                refine lv_aload_n hx hb dX10_antenna_133 rfl (lv_at hl 0 rfl) ?_
                refine gR X hH fl_X10_19 lC_0 rfl dX10_antenna_134 ?_
                refine lv_iload_n hx hb dX10_antenna_137 rfl (lv_at hl 1 rfl) ?_
                obtain ⟨v8, hq, hm⟩ := bd1_some hm
                refine cVi X hH kl_X10_133 kv_X4_busySlotsOfAntenna (mt_X4_busySlotsOfAntenna hq) lC_3 rfl rfl (by decide) hl.1 rfl (Nat.le_of_ble_eq_true rfl) dX10_antenna_138 (fun H locs hH => ?_)
                cases hm
                exact retI X hH dX10_antenna_141
              · rw [if_neg hc3] at hm
                have q0 := lv_neT (a := 3) hc0 (by decide)
                have q1 := lv_neT (a := 4) hc1 (by decide)
                have q2 := lv_neT (a := 5) hc2 (by decide)
                have q3 := lv_neT (a := 6) hc3 (by decide)
                refine lv_tableOut hx hb dX10_antenna_30 (by omega) (tgt := 142) (by decide) ?_
                refine lv_aload_n hx hb dX10_antenna_142 rfl (lv_at hl 0 rfl) ?_
                refine gR X hH fl_X10_19 lC_0 rfl dX10_antenna_143 ?_
                refine gR X hH fl_X10_87 lC_3 rfl dX10_antenna_146 ?_
                refine gR X hH fl_X10_111 lC_30 rfl dX10_antenna_149 ?_
                refine lv_iload_n hx hb dX10_antenna_152 rfl (lv_at hl 1 rfl) ?_
                refine lv_iload_n hx hb dX10_antenna_153 rfl (lv_at hl 2 rfl) ?_
                obtain ⟨v2, hq, hm⟩ := bd1_some hm
                refine cVi X hH kl_X10_107 kv_X2_number (mt_X2_number_42 hq) lC_42 rfl rfl (by decide) hl.1 rfl (Nat.le_of_ble_eq_true rfl) dX10_antenna_154 (fun H locs hH => ?_)
                cases hm
                exact retI X hH dX10_antenna_157
      · rw [if_neg hc] at hm
        refine lv_iconst (v := (-1)) hx hb dX10_antenna_27 (by decide) ?_
        cases hm
        exact retI X hH dX10_antenna_28
/-! X10_antennaOrNone -/
def mX10_antennaOrNone (h : Mm) (a0 : Int32) : Option Int32 := if a0 = (-1 : Int32) then (some (-4 : Int32)) else (some a0)
set_option maxRecDepth 4000 in
theorem mt_X10_antennaOrNone {l : Launch} {D : va_G} {ad : Nat → Nat} {ac : Nat → ClassId} {L : List CD} {rl : RomL} {h : Mm} {a0 : Int32} {r : Int32} (hm : mX10_antennaOrNone h a0 = some r) : Mt l D ad ac L rl yX10_antennaOrNone cX10_antennaOrNone 1 (some .int) 0 [.int a0] h (some (.int r)) h := by
  refine Mt.of (own := RX10) (by decide) rfl (Nat.le_of_ble_eq_true rfl) ?_
  intro p e s m below meth c ls X hH hl
  obtain ⟨hx, hb, hml, hown, hts, hr, hlk, hC, hI, hR⟩ := id X
  have hl : lv_has ls 1 [(0, .int a0)] := hl
  rw [mX10_antennaOrNone] at hm
  refine lv_iload_n hx hb dX10_antennaOrNone_0 rfl (lv_at hl 0 rfl) ?_
  refine lv_iconst (v := (-1)) hx hb dX10_antennaOrNone_1 (by decide) ?_
  refine lv_icmp_ne hx hb dX10_antennaOrNone_2 (tgt := 10) (by decide) (fun hc => ?_) (fun hc => ?_)
  · rw [if_neg hc] at hm
    refine lv_iload_n hx hb dX10_antennaOrNone_10 rfl (lv_at hl 0 rfl) ?_
    cases hm
    exact retI X hH dX10_antennaOrNone_11
  · rw [if_pos hc] at hm
    refine lv_bipush (v := (-4)) hx hb dX10_antennaOrNone_5 (by decide) ?_
    refine lv_goto hx hb dX10_antennaOrNone_7 (tgt := 11) (by decide) ?_
    cases hm
    exact retI X hH dX10_antennaOrNone_11
/-! X0_tryHead -/
def mX0_tryHead_97 (x3 : Int32) (x4 : Int32) (x5 : Int32) (x6 : Int32) (h : Mm) : Option Mm := gIn x3 25 (mlet (wr h 18 x3.toNatClampNeg x5) (fun h1 => gIn x3 25 (mlet (wr h1 19 x3.toNatClampNeg x6) (fun h3 => gIn x3 25 (mlet (wr h3 20 x3.toNatClampNeg x3) (fun h5 => gIn x3 25 (mlet (wr h5 21 x3.toNatClampNeg x4) (fun h7 => some h7))))))))
set_option maxRecDepth 4000 in
theorem wX0_tryHead_97 {p : Program} {l : Launch} {e : Env} {s : State} {m : MethodId} {args : Array Value} {below : List Frame} {meth : Method} {c : Code} {D : va_G} {ad : Nat → Nat} {ac : Nat → ClassId} {h' : Mm} (X : Fx p s m args meth c cX0_tryHead 7 RX0 none D ad ac LC rlC) : ∀ (x3 : Int32) (x4 : Int32) (x5 : Int32) (x6 : Int32) (h : Mm) (H : Heap) (locs : List Loc) (ls : Array Slot), mX0_tryHead_97 x3 x4 x5 x6 h = some h' → Hp D ad ac LC h s H locs → lv_has ls 7 [(0, .ref (ad 17)), (3, .int x3), (4, .int x4), (5, .int x5), (6, .int x6)] → W p l e (rmD 2) s m args below meth c H locs 0 0 (MQ below (QU D ad ac LC none h' s.heap.size) args s 0 0 (Aa ad LC.length s.heap.size)) (F0 m 97 ls []) := by
  obtain ⟨hx, hb, hml, hown, hts, hr, hlk, hC, hI, hR⟩ := id X
  intro x3 x4 x5 x6 h H locs ls hm hH hl
  rw [mX0_tryHead_97] at hm
  refine lv_aload_n hx hb dX0_tryHead_97 rfl (lv_at hl 0 rfl) ?_
  refine gR X hH fl_X0_9 lC_17 rfl dX0_tryHead_98 ?_
  refine lv_iload_n hx hb dX0_tryHead_101 rfl (lv_at hl 1 rfl) ?_
  refine lv_iload hx hb dX0_tryHead_102 (lv_at hl 3 rfl) ?_
  obtain ⟨hin2, hm⟩ := gIn_some hm
  obtain ⟨h1, eh1, hm⟩ := mlet_some hm
  refine ist X hH lC_18 hin2 dX0_tryHead_104 (fun H locs hH => ?_)
  rw [← eh1] at hH
  refine lv_aload_n hx hb dX0_tryHead_105 rfl (lv_at hl 0 rfl) ?_
  refine gR X hH fl_X0_15 lC_17 rfl dX0_tryHead_106 ?_
  refine lv_iload_n hx hb dX0_tryHead_109 rfl (lv_at hl 1 rfl) ?_
  refine lv_iload hx hb dX0_tryHead_110 (lv_at hl 4 rfl) ?_
  obtain ⟨hin4, hm⟩ := gIn_some hm
  obtain ⟨h3, eh3, hm⟩ := mlet_some hm
  refine ist X hH lC_19 hin4 dX0_tryHead_112 (fun H locs hH => ?_)
  rw [← eh3] at hH
  refine lv_aload_n hx hb dX0_tryHead_113 rfl (lv_at hl 0 rfl) ?_
  refine gR X hH fl_X0_18 lC_17 rfl dX0_tryHead_114 ?_
  refine lv_iload_n hx hb dX0_tryHead_117 rfl (lv_at hl 1 rfl) ?_
  refine lv_iload_n hx hb dX0_tryHead_118 rfl (lv_at hl 1 rfl) ?_
  obtain ⟨hin6, hm⟩ := gIn_some hm
  obtain ⟨h5, eh5, hm⟩ := mlet_some hm
  refine ist X hH lC_20 hin6 dX0_tryHead_119 (fun H locs hH => ?_)
  rw [← eh5] at hH
  refine lv_aload_n hx hb dX0_tryHead_120 rfl (lv_at hl 0 rfl) ?_
  refine gR X hH fl_X0_21 lC_17 rfl dX0_tryHead_121 ?_
  refine lv_iload_n hx hb dX0_tryHead_124 rfl (lv_at hl 1 rfl) ?_
  refine lv_iload hx hb dX0_tryHead_125 (lv_at hl 2 rfl) ?_
  obtain ⟨hin8, hm⟩ := gIn_some hm
  obtain ⟨h7, eh7, hm⟩ := mlet_some hm
  refine ist X hH lC_21 hin8 dX0_tryHead_127 (fun H locs hH => ?_)
  rw [← eh7] at hH
  cases hm
  exact retV X hH dX0_tryHead_128
def mX0_tryHead_34 (x3 : Int32) (x4 : Int32) (h : Mm) : Option Mm := gIn x3 24 (gIn x4 25 (mlet ((h 9 x3.toNatClampNeg) + (h 18 x4.toNatClampNeg)) (fun u3 => gIn x4 25 (mlet ((1 : Int32) + (h 19 x4.toNatClampNeg)) (fun u5 => gIn x3 25 (if (h 18 x3.toNatClampNeg) < u3 then (mX0_tryHead_97 x3 x4 u3 u5 h) else (gIn x3 25 (if u3 = (h 18 x3.toNatClampNeg) then (gIn x3 25 (if (h 19 x3.toNatClampNeg) < u5 then (some h) else (mX0_tryHead_97 x3 x4 u3 u5 h))) else (some h)))))))))
set_option maxRecDepth 4000 in
theorem wX0_tryHead_34 {p : Program} {l : Launch} {e : Env} {s : State} {m : MethodId} {args : Array Value} {below : List Frame} {meth : Method} {c : Code} {D : va_G} {ad : Nat → Nat} {ac : Nat → ClassId} {h' : Mm} (X : Fx p s m args meth c cX0_tryHead 7 RX0 none D ad ac LC rlC) : ∀ (x3 : Int32) (x4 : Int32) (h : Mm) (H : Heap) (locs : List Loc) (ls : Array Slot), mX0_tryHead_34 x3 x4 h = some h' → Hp D ad ac LC h s H locs → lv_has ls 7 [(0, .ref (ad 17)), (1, .ref (ad 3)), (3, .int x3), (4, .int x4)] → W p l e (rmD 2) s m args below meth c H locs 0 0 (MQ below (QU D ad ac LC none h' s.heap.size) args s 0 0 (Aa ad LC.length s.heap.size)) (F0 m 34 ls []) := by
  obtain ⟨hx, hb, hml, hown, hts, hr, hlk, hC, hI, hR⟩ := id X
  intro x3 x4 h H locs ls hm hH hl
  rw [mX0_tryHead_34] at hm
  refine lv_aload_n hx hb dX0_tryHead_34 rfl (lv_at hl 1 rfl) ?_
  refine gR X hH fl_X0_24 lC_3 rfl dX0_tryHead_35 ?_
  refine gR X hH fl_X0_48 lC_4 rfl dX0_tryHead_38 ?_
  refine lv_iload_n hx hb dX0_tryHead_41 rfl (lv_at hl 2 rfl) ?_
  obtain ⟨hin1, hm⟩ := gIn_some hm
  refine ild X hH lC_9 hin1 dX0_tryHead_42 ?_
  refine lv_aload_n hx hb dX0_tryHead_43 rfl (lv_at hl 0 rfl) ?_
  refine gR X hH fl_X0_9 lC_17 rfl dX0_tryHead_44 ?_
  refine lv_iload hx hb dX0_tryHead_47 (lv_at hl 3 rfl) ?_
  obtain ⟨hin2, hm⟩ := gIn_some hm
  refine ild X hH lC_18 hin2 dX0_tryHead_49 ?_
  refine lv_iadd hx hb dX0_tryHead_50 ?_
  obtain ⟨u3, eu3, hm⟩ := mlet_some hm
  refine W.eq (g2 := F0 m 51 ls (.int u3 :: [])) (by rw [eu3]) ?_
  refine lv_istore (lv' := [(5, .int u3), (0, .ref (ad 17)), (1, .ref (ad 3)), (3, .int x3), (4, .int x4)]) hx hb dX0_tryHead_51 hl (by decide) rfl (fun ls hl => ?_)
  refine lv_iconst (v := 1) hx hb dX0_tryHead_53 (by decide) ?_
  refine lv_aload_n hx hb dX0_tryHead_54 rfl (lv_at hl 1 rfl) ?_
  refine gR X hH fl_X0_15 lC_17 rfl dX0_tryHead_55 ?_
  refine lv_iload hx hb dX0_tryHead_58 (lv_at hl 4 rfl) ?_
  obtain ⟨hin4, hm⟩ := gIn_some hm
  refine ild X hH lC_19 hin4 dX0_tryHead_60 ?_
  refine lv_iadd hx hb dX0_tryHead_61 ?_
  obtain ⟨u5, eu5, hm⟩ := mlet_some hm
  refine W.eq (g2 := F0 m 62 ls (.int u5 :: [])) (by rw [eu5]) ?_
  refine lv_istore (lv' := [(6, .int u5), (5, .int u3), (0, .ref (ad 17)), (1, .ref (ad 3)), (3, .int x3), (4, .int x4)]) hx hb dX0_tryHead_62 hl (by decide) rfl (fun ls hl => ?_)
  refine lv_iload hx hb dX0_tryHead_64 (lv_at hl 1 rfl) ?_
  refine lv_aload_n hx hb dX0_tryHead_66 rfl (lv_at hl 2 rfl) ?_
  refine gR X hH fl_X0_9 lC_17 rfl dX0_tryHead_67 ?_
  refine lv_iload_n hx hb dX0_tryHead_70 rfl (lv_at hl 4 rfl) ?_
  obtain ⟨hin6, hm⟩ := gIn_some hm
  refine ild X hH lC_18 hin6 dX0_tryHead_71 ?_
  refine lv_icmp_gt hx hb dX0_tryHead_72 (tgt := 97) (by decide) (fun hc => ?_) (fun hc => ?_)
  · rw [if_pos hc] at hm
    exact wX0_tryHead_97 X x3 x4 u3 u5 h _ _ _ hm hH (lv_sub hl [2, 4, 5, 1, 0] rfl)
  · rw [if_neg hc] at hm
    refine lv_iload hx hb dX0_tryHead_75 (lv_at hl 1 rfl) ?_
    refine lv_aload_n hx hb dX0_tryHead_77 rfl (lv_at hl 2 rfl) ?_
    refine gR X hH fl_X0_9 lC_17 rfl dX0_tryHead_78 ?_
    refine lv_iload_n hx hb dX0_tryHead_81 rfl (lv_at hl 4 rfl) ?_
    obtain ⟨hin7, hm⟩ := gIn_some hm
    refine ild X hH lC_18 hin7 dX0_tryHead_82 ?_
    refine lv_icmp_ne hx hb dX0_tryHead_83 (tgt := 128) (by decide) (fun hc => ?_) (fun hc => ?_)
    · rw [if_neg hc] at hm
      cases hm
      exact retV X hH dX0_tryHead_128
    · rw [if_pos hc] at hm
      refine lv_iload hx hb dX0_tryHead_86 (lv_at hl 0 rfl) ?_
      refine lv_aload_n hx hb dX0_tryHead_88 rfl (lv_at hl 2 rfl) ?_
      refine gR X hH fl_X0_15 lC_17 rfl dX0_tryHead_89 ?_
      refine lv_iload_n hx hb dX0_tryHead_92 rfl (lv_at hl 4 rfl) ?_
      obtain ⟨hin8, hm⟩ := gIn_some hm
      refine ild X hH lC_19 hin8 dX0_tryHead_93 ?_
      refine lv_icmp_gt hx hb dX0_tryHead_94 (tgt := 128) (by decide) (fun hc => ?_) (fun hc => ?_)
      · rw [if_pos hc] at hm
        cases hm
        exact retV X hH dX0_tryHead_128
      · rw [if_neg hc] at hm
        exact wX0_tryHead_97 X x3 x4 u3 u5 h _ _ _ hm hH (lv_sub hl [2, 4, 5, 1, 0] rfl)
def mX0_tryHead_5 : Nat → Int32 → Int32 → Int32 → Mm → Option Mm
  | 0, _, _, _, _ => none
  | n + 1, x2, x3, x4, h => if (h 4 6) ≤ x4 then (mX0_tryHead_34 x3 x4 h) else (bd1 (mX4_goTogether h x3 x4 x2) (fun v1 => if v1 = 0 then (mX0_tryHead_5 n x2 x3 (x4 + 1) h) else (mX0_tryHead_34 x3 x4 h)))
set_option maxRecDepth 4000 in
theorem wX0_tryHead_5 {p : Program} {l : Launch} {e : Env} {s : State} {m : MethodId} {args : Array Value} {below : List Frame} {meth : Method} {c : Code} {D : va_G} {ad : Nat → Nat} {ac : Nat → ClassId} {h' : Mm} (X : Fx p s m args meth c cX0_tryHead 7 RX0 none D ad ac LC rlC) : ∀ (n : Nat) (x2 : Int32) (x3 : Int32) (x4 : Int32) (h : Mm) (H : Heap) (locs : List Loc) (ls : Array Slot), mX0_tryHead_5 n x2 x3 x4 h = some h' → Hp D ad ac LC h s H locs → lv_has ls 7 [(0, .ref (ad 17)), (1, .ref (ad 3)), (2, .int x2), (3, .int x3), (4, .int x4)] → W p l e (rmD 2) s m args below meth c H locs 0 0 (MQ below (QU D ad ac LC none h' s.heap.size) args s 0 0 (Aa ad LC.length s.heap.size)) (F0 m 5 ls []) := by
  obtain ⟨hx, hb, hml, hown, hts, hr, hlk, hC, hI, hR⟩ := id X
  intro n
  induction n with
  | zero => intro x2 x3 x4 h H locs ls hm; rw [mX0_tryHead_5] at hm; cases hm
  | succ n ih =>
    intro x2 x3 x4 h H locs ls hm hH hl
    rw [mX0_tryHead_5] at hm
    refine lv_iload hx hb dX0_tryHead_5 (lv_at hl 4 rfl) ?_
    refine lv_aload_n hx hb dX0_tryHead_7 rfl (lv_at hl 1 rfl) ?_
    refine gR X hH fl_X0_24 lC_3 rfl dX0_tryHead_8 ?_
    refine gI X hH fl_X0_30 lC_4 rfl dX0_tryHead_11 ?_
    refine lv_icmp_ge hx hb dX0_tryHead_14 (tgt := 34) (by decide) (fun hc => ?_) (fun hc => ?_)
    · rw [if_pos hc] at hm
      exact wX0_tryHead_34 X x3 x4 h _ _ _ hm hH (lv_sub hl [0, 1, 3, 4] rfl)
    · rw [if_neg hc] at hm
      refine lv_aload_n hx hb dX0_tryHead_17 rfl (lv_at hl 1 rfl) ?_
      refine lv_iload_n hx hb dX0_tryHead_18 rfl (lv_at hl 3 rfl) ?_
      refine lv_iload hx hb dX0_tryHead_19 (lv_at hl 4 rfl) ?_
      refine lv_iload_n hx hb dX0_tryHead_21 rfl (lv_at hl 2 rfl) ?_
      obtain ⟨v1, hq, hm⟩ := bd1_some hm
      refine cVi X hH kl_X0_44 kv_X4_goTogether (mt_X4_goTogether hq) lC_3 rfl rfl (by decide) hl.1 rfl (Nat.le_of_ble_eq_true rfl) dX0_tryHead_22 (fun H locs hH => ?_)
      refine lv_if_ne hx hb dX0_tryHead_25 (tgt := 34) (by decide) (fun hc => ?_) (fun hc => ?_)
      · rw [if_neg hc] at hm
        exact wX0_tryHead_34 X x3 x4 h _ _ _ hm hH (lv_sub hl [0, 1, 3, 4] rfl)
      · rw [if_pos hc] at hm
        refine lv_iinc (k := 4) (v := (x4 + 1)) (lv' := [(4, .int (x4 + 1)), (0, .ref (ad 17)), (1, .ref (ad 3)), (2, .int x2), (3, .int x3)]) hx hb dX0_tryHead_28 hl rfl rfl (by decide) rfl (fun ls hl => ?_)
        refine lv_goto hx hb dX0_tryHead_31 (tgt := 5) (by decide) ?_
        exact ih x2 x3 (x4 + 1) h _ _ _ hm hH (lv_sub hl [1, 2, 3, 4, 0] rfl)
def mX0_tryHead (h : Mm) (a2 : Int32) (a3 : Int32) : Option Mm := mlet (a3 + (1 : Int32)) (fun u1 => mX0_tryHead_5 FU a2 a3 u1 h)
set_option maxRecDepth 4000 in
theorem mt_X0_tryHead {l : Launch} {D : va_G} {ad : Nat → Nat} {ac : Nat → ClassId} {h : Mm} {a2 : Int32} {a3 : Int32} {h' : Mm} (hm : mX0_tryHead h a2 a3 = some h') : Mt l D ad ac LC rlC yX0_tryHead cX0_tryHead 7 none 2 [.ref (ad 17), .ref (ad 3), .int a2, .int a3] h none h' := by
  refine Mt.of (own := RX0) (by decide) rfl (Nat.le_of_ble_eq_true rfl) ?_
  intro p e s m below meth c ls X hH hl
  obtain ⟨hx, hb, hml, hown, hts, hr, hlk, hC, hI, hR⟩ := id X
  have hl : lv_has ls 7 [(0, .ref (ad 17)), (1, .ref (ad 3)), (2, .int a2), (3, .int a3)] := hl
  rw [mX0_tryHead] at hm
  refine lv_iload_n hx hb dX0_tryHead_0 rfl (lv_at hl 3 rfl) ?_
  refine lv_iconst (v := 1) hx hb dX0_tryHead_1 (by decide) ?_
  refine lv_iadd hx hb dX0_tryHead_2 ?_
  obtain ⟨u1, eu1, hm⟩ := mlet_some hm
  refine W.eq (g2 := F0 m 3 ls (.int u1 :: [])) (by rw [eu1]) ?_
  refine lv_istore (lv' := [(4, .int u1), (0, .ref (ad 17)), (1, .ref (ad 3)), (2, .int a2), (3, .int a3)]) hx hb dX0_tryHead_3 hl (by decide) rfl (fun ls hl => ?_)
  exact wX0_tryHead_5 X FU a2 a3 u1 h _ _ _ hm hH (lv_sub hl [1, 2, 3, 4, 0] rfl)
