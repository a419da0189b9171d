/-! X10_seen -/
def mX10_seen (h : Mm) (a1 : Int32) (a2 : Int32) (a3 : Int32) : Option Int32 := bd1 (mX2_has_31 h a1) (fun v1 => if v1 = 0 then (some (-1 : Int32)) else (bd1 (mX2_has_37 h a2) (fun v2 => if v2 = 0 then (some (-1 : Int32)) else (bd1 (mX10_isSlot h a3) (fun v3 => if v3 = 0 then (some (-1 : Int32)) else (bd1 (mX7_sees_30 h a1 a2 a3) (fun v4 => if v4 = 0 then (some (0 : Int32)) else (some (1 : Int32)))))))))
set_option maxRecDepth 4000 in
theorem mt_X10_seen {l : Launch} {D : va_G} {ad : Nat → Nat} {ac : Nat → ClassId} {h : Mm} {a1 : Int32} {a2 : Int32} {a3 : Int32} {r : Int32} (hm : mX10_seen h a1 a2 a3 = some r) : Mt l D ad ac LC rlC yX10_seen cX10_seen 4 (some .int) 2 [.ref (ad 0), .int a1, .int a2, .int a3] h (some (.int r)) h := by
  refine Mt.of (own := RX10) (by decide) rfl (Nat.le_of_ble_eq_true rfl) ?_
  intro p e s m below meth c ls X hH hl
  obtain ⟨hx, hb, hml, hown, hts, hr, hlk, hC, hI, hR⟩ := id X
  have hl : lv_has ls 4 [(0, .ref (ad 0)), (1, .int a1), (2, .int a2), (3, .int a3)] := hl
  rw [mX10_seen] at hm
  refine lv_aload_n hx hb dX10_seen_0 rfl (lv_at hl 0 rfl) ?_
  refine gR X hH fl_X10_19 lC_0 rfl dX10_seen_1 ?_
  refine gR X hH fl_X10_87 lC_3 rfl dX10_seen_4 ?_
  refine gR X hH fl_X10_90 lC_30 rfl dX10_seen_7 ?_
  refine lv_iload_n hx hb dX10_seen_10 rfl (lv_at hl 1 rfl) ?_
  obtain ⟨v1, hq, hm⟩ := bd1_some hm
  refine cVi X hH kl_X10_94 kv_X2_has (mt_X2_has_31 hq) lC_31 rfl rfl (by decide) hl.1 rfl (Nat.le_of_ble_eq_true rfl) dX10_seen_11 (fun H locs hH => ?_)
  refine lv_if_eq hx hb dX10_seen_14 (tgt := 41) (by decide) (fun hc => ?_) (fun hc => ?_)
  · rw [if_pos hc] at hm
    refine lv_iconst (v := (-1)) hx hb dX10_seen_41 (by decide) ?_
    cases hm
    exact retI X hH dX10_seen_42
  · rw [if_neg hc] at hm
    refine lv_aload_n hx hb dX10_seen_17 rfl (lv_at hl 0 rfl) ?_
    refine gR X hH fl_X10_19 lC_0 rfl dX10_seen_18 ?_
    refine gR X hH fl_X10_87 lC_3 rfl dX10_seen_21 ?_
    refine gR X hH fl_X10_136 lC_30 rfl dX10_seen_24 ?_
    refine lv_iload_n hx hb dX10_seen_27 rfl (lv_at hl 2 rfl) ?_
    obtain ⟨v2, hq, hm⟩ := bd1_some hm
    refine cVi X hH kl_X10_94 kv_X2_has (mt_X2_has_37 hq) lC_37 rfl rfl (by decide) hl.1 rfl (Nat.le_of_ble_eq_true rfl) dX10_seen_28 (fun H locs hH => ?_)
    refine lv_if_eq hx hb dX10_seen_31 (tgt := 41) (by decide) (fun hc => ?_) (fun hc => ?_)
    · rw [if_pos hc] at hm
      refine lv_iconst (v := (-1)) hx hb dX10_seen_41 (by decide) ?_
      cases hm
      exact retI X hH dX10_seen_42
    · rw [if_neg hc] at hm
      refine lv_iload_n hx hb dX10_seen_34 rfl (lv_at hl 3 rfl) ?_
      obtain ⟨v3, hq, hm⟩ := bd1_some hm
      refine cSi (As := [.int a3]) X hH kl_X10_139 ks_X10_isSlot (mt_X10_isSlot hq) rfl (by decide) hl.1 rfl (Nat.le_of_ble_eq_true rfl) dX10_seen_35 (fun H locs hH => ?_)
      refine lv_if_ne hx hb dX10_seen_38 (tgt := 43) (by decide) (fun hc => ?_) (fun hc => ?_)
      · rw [if_neg hc] at hm
        refine lv_aload_n hx hb dX10_seen_43 rfl (lv_at hl 0 rfl) ?_
        refine gR X hH fl_X10_19 lC_0 rfl dX10_seen_44 ?_
        refine gR X hH fl_X10_87 lC_3 rfl dX10_seen_47 ?_
        refine lv_iload_n hx hb dX10_seen_50 rfl (lv_at hl 1 rfl) ?_
        refine lv_iload_n hx hb dX10_seen_51 rfl (lv_at hl 2 rfl) ?_
        refine lv_iload_n hx hb dX10_seen_52 rfl (lv_at hl 3 rfl) ?_
        obtain ⟨v4, hq, hm⟩ := bd1_some hm
        refine cVi X hH kl_X10_142 kv_X7_sees (mt_X7_sees_30 hq) lC_30 rfl rfl (by decide) hl.1 rfl (Nat.le_of_ble_eq_true rfl) dX10_seen_53 (fun H locs hH => ?_)
        refine lv_if_eq hx hb dX10_seen_56 (tgt := 63) (by decide) (fun hc => ?_) (fun hc => ?_)
        · rw [if_pos hc] at hm
          refine lv_iconst (v := 0) hx hb dX10_seen_63 (by decide) ?_
          cases hm
          exact retI X hH dX10_seen_64
        · rw [if_neg hc] at hm
          refine lv_iconst (v := 1) hx hb dX10_seen_59 (by decide) ?_
          refine lv_goto hx hb dX10_seen_60 (tgt := 64) (by decide) ?_
          cases hm
          exact retI X hH dX10_seen_64
      · rw [if_pos hc] at hm
        refine lv_iconst (v := (-1)) hx hb dX10_seen_41 (by decide) ?_
        cases hm
        exact retI X hH dX10_seen_42
/-! X10_store -/
def mX10_store (h : Mm) (a1 : Int32) (a2 : Int32) (a3 : Int32) : Option (Int32 × Mm) := bd1 (mX2_has_31 h a1) (fun v1 => if v1 = 0 then (some ((-1 : Int32), h)) else (bd1 (mX10_isSlot h a2) (fun v2 => if v2 = 0 then (some ((-1 : Int32), h)) else (bd1 (mX4_contactBits h) (fun v3 => bdh (mX9_follow h a1 v3 a2) (fun h4 => if a3 = (0 : Int32) then (some ((h4 15 1), h4)) else (if a3 = (1 : Int32) then (some ((h4 15 2), h4)) else (if a3 = (2 : Int32) then (some ((h4 15 3), h4)) else (some ((-1 : Int32), h4))))))))))
set_option maxRecDepth 4000 in
theorem mt_X10_store {l : Launch} {D : va_G} {ad : Nat → Nat} {ac : Nat → ClassId} {h : Mm} {a1 : Int32} {a2 : Int32} {a3 : Int32} {r : Int32} {h' : Mm} (hm : mX10_store h a1 a2 a3 = some (r, h')) : Mt l D ad ac LC rlC yX10_store cX10_store 4 (some .int) 4 [.ref (ad 0), .int a1, .int a2, .int a3] h (some (.int r)) h' := by
  refine Mt.of (own := RX10) (by decide) rfl (Nat.le_of_ble_eq_true rfl) ?_
  intro p e s m below meth c ls X hH hl
  obtain ⟨hx, hb, hml, hown, hts, hr, hlk, hC, hI, hR⟩ := id X
  have hl : lv_has ls 4 [(0, .ref (ad 0)), (1, .int a1), (2, .int a2), (3, .int a3)] := hl
  rw [mX10_store] at hm
  refine lv_aload_n hx hb dX10_store_0 rfl (lv_at hl 0 rfl) ?_
  refine gR X hH fl_X10_19 lC_0 rfl dX10_store_1 ?_
  refine gR X hH fl_X10_87 lC_3 rfl dX10_store_4 ?_
  refine gR X hH fl_X10_90 lC_30 rfl dX10_store_7 ?_
  refine lv_iload_n hx hb dX10_store_10 rfl (lv_at hl 1 rfl) ?_
  obtain ⟨v1, hq, hm⟩ := bd1_some hm
  refine cVi X hH kl_X10_94 kv_X2_has (mt_X2_has_31 hq) lC_31 rfl rfl (by decide) hl.1 rfl (Nat.le_of_ble_eq_true rfl) dX10_store_11 (fun H locs hH => ?_)
  refine lv_if_eq hx hb dX10_store_14 (tgt := 24) (by decide) (fun hc => ?_) (fun hc => ?_)
  · rw [if_pos hc] at hm
    refine lv_iconst (v := (-1)) hx hb dX10_store_24 (by decide) ?_
    cases hm
    exact retI X hH dX10_store_25
  · rw [if_neg hc] at hm
    refine lv_iload_n hx hb dX10_store_17 rfl (lv_at hl 2 rfl) ?_
    obtain ⟨v2, hq, hm⟩ := bd1_some hm
    refine cSi (As := [.int a2]) X hH kl_X10_139 ks_X10_isSlot (mt_X10_isSlot hq) rfl (by decide) hl.1 rfl (Nat.le_of_ble_eq_true rfl) dX10_store_18 (fun H locs hH => ?_)
    refine lv_if_ne hx hb dX10_store_21 (tgt := 26) (by decide) (fun hc => ?_) (fun hc => ?_)
    · rw [if_neg hc] at hm
      refine lv_aload_n hx hb dX10_store_26 rfl (lv_at hl 0 rfl) ?_
      refine gR X hH fl_X10_33 lC_0 rfl dX10_store_27 ?_
      refine lv_aload_n hx hb dX10_store_30 rfl (lv_at hl 0 rfl) ?_
      refine gR X hH fl_X10_19 lC_0 rfl dX10_store_31 ?_
      refine lv_iload_n hx hb dX10_store_34 rfl (lv_at hl 1 rfl) ?_
      refine lv_aload_n hx hb dX10_store_35 rfl (lv_at hl 0 rfl) ?_
      refine gR X hH fl_X10_19 lC_0 rfl dX10_store_36 ?_
      obtain ⟨v3, hq, hm⟩ := bd1_some hm
      refine cVi X hH kl_X10_190 kv_X4_contactBits (mt_X4_contactBits hq) lC_3 rfl rfl (by decide) hl.1 rfl (Nat.le_of_ble_eq_true rfl) dX10_store_39 (fun H locs hH => ?_)
      refine lv_iload_n hx hb dX10_store_42 rfl (lv_at hl 2 rfl) ?_
      obtain ⟨h4, hq, hm⟩ := bdh_some hm
      refine cVv X hH kl_X10_254 kv_X9_follow (mt_X9_follow hq) lC_15 rfl rfl (by decide) hl.1 rfl (Nat.le_of_ble_eq_true rfl) dX10_store_43 (fun H locs hH => ?_)
      refine lv_iload_n hx hb dX10_store_46 rfl (lv_at hl 3 rfl) ?_
      by_cases hc0 : a3 = (0 : Int32)
      · rw [if_pos hc0] at hm
        refine lv_tableIn hx hb dX10_store_47 (by rw [hc0]; decide) (by rw [hc0]; decide) (off := 25) (by rw [hc0]; rfl) (tgt := 72) (by decide) ?_
        refine lv_aload_n hx hb dX10_store_72 rfl (lv_at hl 0 rfl) ?_
        refine gR X hH fl_X10_33 lC_0 rfl dX10_store_73 ?_
        refine gI X hH fl_X10_258 lC_15 rfl dX10_store_76 ?_
        cases hm
        exact retI X hH dX10_store_79
      · rw [if_neg hc0] at hm
        by_cases hc1 : a3 = (1 : Int32)
        · rw [if_pos hc1] at hm
          refine lv_tableIn hx hb dX10_store_47 (by rw [hc1]; decide) (by rw [hc1]; decide) (off := 33) (by rw [hc1]; rfl) (tgt := 80) (by decide) ?_
          refine lv_aload_n hx hb dX10_store_80 rfl (lv_at hl 0 rfl) ?_
          refine gR X hH fl_X10_33 lC_0 rfl dX10_store_81 ?_
          refine gI X hH fl_X10_261 lC_15 rfl dX10_store_84 ?_
          cases hm
          exact retI X hH dX10_store_87
        · rw [if_neg hc1] at hm
          by_cases hc2 : a3 = (2 : Int32)
          · rw [if_pos hc2] at hm
            refine lv_tableIn hx hb dX10_store_47 (by rw [hc2]; decide) (by rw [hc2]; decide) (off := 41) (by rw [hc2]; rfl) (tgt := 88) (by decide) ?_
            refine lv_aload_n hx hb dX10_store_88 rfl (lv_at hl 0 rfl) ?_
            refine gR X hH fl_X10_33 lC_0 rfl dX10_store_89 ?_
            refine gI X hH fl_X10_264 lC_15 rfl dX10_store_92 ?_
            cases hm
            exact retI X hH dX10_store_95
          · rw [if_neg hc2] at hm
            have q0 := lv_neT (a := 0) hc0 (by decide)
            have q1 := lv_neT (a := 1) hc1 (by decide)
            have q2 := lv_neT (a := 2) hc2 (by decide)
            refine lv_tableOut hx hb dX10_store_47 (by omega) (tgt := 96) (by decide) ?_
            refine lv_iconst (v := (-1)) hx hb dX10_store_96 (by decide) ?_
            cases hm
            exact retI X hH dX10_store_97
    · rw [if_pos hc] at hm
      refine lv_iconst (v := (-1)) hx hb dX10_store_24 (by decide) ?_
      cases hm
      exact retI X hH dX10_store_25
/-! X10_take -/
def mX10_take (h : Mm) (a1 : Int32) : Option (Int32 × Mm) := bd1 (mX5_has h a1) (fun v1 => if v1 = 0 then (some ((-1 : Int32), h)) else (gIn a1 24 (mlet (h 12 a1.toNatClampNeg) (fun u3 => if u3 = (-1 : Int32) then (some ((-2 : Int32), h)) else (bdh (mX10_prepareChange h) (fun h4 => gIn a1 24 (mlet (wr h4 12 a1.toNatClampNeg (-1 : Int32)) (fun h5 => some (u3, h5)))))))))
set_option maxRecDepth 4000 in
theorem mt_X10_take {l : Launch} {D : va_G} {ad : Nat → Nat} {ac : Nat → ClassId} {h : Mm} {a1 : Int32} {r : Int32} {h' : Mm} (hm : mX10_take h a1 = some (r, h')) : Mt l D ad ac LC rlC yX10_take cX10_take 3 (some .int) 4 [.ref (ad 0), .int a1] h (some (.int r)) h' := by
  refine Mt.of (own := RX10) (by decide) rfl (Nat.le_of_ble_eq_true rfl) ?_
  intro p e s m below meth c ls X hH hl
  obtain ⟨hx, hb, hml, hown, hts, hr, hlk, hC, hI, hR⟩ := id X
  have hl : lv_has ls 3 [(0, .ref (ad 0)), (1, .int a1)] := hl
  rw [mX10_take] at hm
  refine lv_aload_n hx hb dX10_take_0 rfl (lv_at hl 0 rfl) ?_
  refine gR X hH fl_X10_19 lC_0 rfl dX10_take_1 ?_
  refine gR X hH fl_X10_146 lC_3 rfl dX10_take_4 ?_
  refine lv_iload_n hx hb dX10_take_7 rfl (lv_at hl 1 rfl) ?_
  obtain ⟨v1, hq, hm⟩ := bd1_some hm
  refine cVi X hH kl_X10_150 kv_X5_has (mt_X5_has hq) lC_4 rfl rfl (by decide) hl.1 rfl (Nat.le_of_ble_eq_true rfl) dX10_take_8 (fun H locs hH => ?_)
  refine lv_if_ne hx hb dX10_take_11 (tgt := 16) (by decide) (fun hc => ?_) (fun hc => ?_)
  · rw [if_neg hc] at hm
    refine lv_aload_n hx hb dX10_take_16 rfl (lv_at hl 0 rfl) ?_
    refine gR X hH fl_X10_19 lC_0 rfl dX10_take_17 ?_
    refine gR X hH fl_X10_114 lC_3 rfl dX10_take_20 ?_
    refine gR X hH fl_X10_168 lC_11 rfl dX10_take_23 ?_
    refine lv_iload_n hx hb dX10_take_26 rfl (lv_at hl 1 rfl) ?_
    obtain ⟨hin2, hm⟩ := gIn_some hm
    refine ild X hH lC_12 hin2 dX10_take_27 ?_
    obtain ⟨u3, eu3, hm⟩ := mlet_some hm
    refine W.eq (g2 := F0 m 28 ls (.int u3 :: [])) (by rw [eu3]) ?_
    refine lv_istore_n (lv' := [(2, .int u3), (0, .ref (ad 0)), (1, .int a1)]) hx hb dX10_take_28 rfl hl (by decide) rfl (fun ls hl => ?_)
    refine lv_iload_n hx hb dX10_take_29 rfl (lv_at hl 0 rfl) ?_
    refine lv_iconst (v := (-1)) hx hb dX10_take_30 (by decide) ?_
    refine lv_icmp_ne hx hb dX10_take_31 (tgt := 37) (by decide) (fun hc => ?_) (fun hc => ?_)
    · rw [if_neg hc] at hm
      refine lv_aload_n hx hb dX10_take_37 rfl (lv_at hl 1 rfl) ?_
      obtain ⟨h4, hq, hm⟩ := bdh_some hm
      refine cVv X hH kl_X10_187 kv_X10_prepareChange (mt_X10_prepareChange hq) lC_0 rfl rfl (by decide) hl.1 rfl (Nat.le_of_ble_eq_true rfl) dX10_take_38 (fun H locs hH => ?_)
      refine lv_aload_n hx hb dX10_take_41 rfl (lv_at hl 1 rfl) ?_
      refine gR X hH fl_X10_19 lC_0 rfl dX10_take_42 ?_
      refine gR X hH fl_X10_114 lC_3 rfl dX10_take_45 ?_
      refine gR X hH fl_X10_168 lC_11 rfl dX10_take_48 ?_
      refine lv_iload_n hx hb dX10_take_51 rfl (lv_at hl 2 rfl) ?_
      refine lv_iconst (v := (-1)) hx hb dX10_take_52 (by decide) ?_
      obtain ⟨hin6, hm⟩ := gIn_some hm
      obtain ⟨h5, eh5, hm⟩ := mlet_some hm
      refine ist X hH lC_12 hin6 dX10_take_53 (fun H locs hH => ?_)
      rw [← eh5] at hH
      refine lv_iload_n hx hb dX10_take_54 rfl (lv_at hl 0 rfl) ?_
      cases hm
      exact retI X hH dX10_take_55
    · rw [if_pos hc] at hm
      refine lv_bipush (v := (-2)) hx hb dX10_take_34 (by decide) ?_
      cases hm
      exact retI X hH dX10_take_36
  · rw [if_pos hc] at hm
    refine lv_iconst (v := (-1)) hx hb dX10_take_14 (by decide) ?_
    cases hm
    exact retI X hH dX10_take_15
/-! X8_copyFrom_11_g67 -/
def mX8_copyFrom_11_g67 (j1 : Nat) (h : Mm) : Option Mm := gCp (0 : Int32) (0 : Int32) (nI 24) 24 24 (mlet (va_up h 12 (va_cpy (h (69 + 4 * j1)) (h 12) (0 : Int32).toNatClampNeg (0 : Int32).toNatClampNeg (nI 24).toNatClampNeg)) (fun h1 => gCp (0 : Int32) (0 : Int32) (nI 4) 4 4 (mlet (va_up h1 13 (va_cpy (h1 (70 + 4 * j1)) (h1 13) (0 : Int32).toNatClampNeg (0 : Int32).toNatClampNeg (nI 4).toNatClampNeg)) (fun h3 => gCp (0 : Int32) (0 : Int32) (nI 4) 4 4 (mlet (va_up h3 14 (va_cpy (h3 (71 + 4 * j1)) (h3 14) (0 : Int32).toNatClampNeg (0 : Int32).toNatClampNeg (nI 4).toNatClampNeg)) (fun h5 => some h5))))))
set_option maxRecDepth 4000 in
theorem mt_X8_copyFrom_11_g67 {l : Launch} {D : va_G} {ad : Nat → Nat} {ac : Nat → ClassId} {h : Mm} {h' : Mm} {j1 : Nat} (hj1 : j1 < 6) (hm : mX8_copyFrom_11_g67 j1 h = some h') : Mt l D ad ac LC rlC yX8_copyFrom cX8_copyFrom 2 none 1 [.ref (ad 11), .ref (ad (68 + 4 * j1))] h none h' := by
  refine Mt.of (own := RX8) (by decide) rfl (Nat.le_of_ble_eq_true rfl) ?_
  intro p e s m below meth c ls X hH hl
  obtain ⟨hx, hb, hml, hown, hts, hr, hlk, hC, hI, hR⟩ := id X
  have hl : lv_has ls 2 [(0, .ref (ad 11)), (1, .ref (ad (68 + 4 * j1)))] := hl
  rw [mX8_copyFrom_11_g67] at hm
  refine lv_aload_n hx hb dX8_copyFrom_0 rfl (lv_at hl 1 rfl) ?_
  refine gR X hH fl_X8_9 (gl_67_0 hj1) rfl dX8_copyFrom_1 ?_
  refine lv_iconst (v := 0) hx hb dX8_copyFrom_4 (by decide) ?_
  refine lv_aload_n hx hb dX8_copyFrom_5 rfl (lv_at hl 0 rfl) ?_
  refine gR X hH fl_X8_9 lC_11 rfl dX8_copyFrom_6 ?_
  refine lv_iconst (v := 0) hx hb dX8_copyFrom_9 (by decide) ?_
  refine lv_aload_n hx hb dX8_copyFrom_10 rfl (lv_at hl 0 rfl) ?_
  refine gR X hH fl_X8_9 lC_11 rfl dX8_copyFrom_11 ?_
  refine aln X hH lC_12 (by decide) dX8_copyFrom_14 ?_
  obtain ⟨hcp2, hm⟩ := gCp_some hm
  obtain ⟨h1, eh1, hm⟩ := mlet_some hm
  refine acp X hH ml_X8_27 (gl_67_1 hj1) lC_12 hcp2 (by decide) hl.1 (Nat.le_of_ble_eq_true rfl) dX8_copyFrom_15 (fun H locs hH => ?_)
  rw [← eh1] at hH
  refine lv_aload_n hx hb dX8_copyFrom_18 rfl (lv_at hl 1 rfl) ?_
  refine gR X hH fl_X8_15 (gl_67_0 hj1) rfl dX8_copyFrom_19 ?_
  refine lv_iconst (v := 0) hx hb dX8_copyFrom_22 (by decide) ?_
  refine lv_aload_n hx hb dX8_copyFrom_23 rfl (lv_at hl 0 rfl) ?_
  refine gR X hH fl_X8_15 lC_11 rfl dX8_copyFrom_24 ?_
  refine lv_iconst (v := 0) hx hb dX8_copyFrom_27 (by decide) ?_
  refine lv_aload_n hx hb dX8_copyFrom_28 rfl (lv_at hl 0 rfl) ?_
  refine gR X hH fl_X8_15 lC_11 rfl dX8_copyFrom_29 ?_
  refine aln X hH lC_13 (by decide) dX8_copyFrom_32 ?_
  obtain ⟨hcp4, hm⟩ := gCp_some hm
  obtain ⟨h3, eh3, hm⟩ := mlet_some hm
  refine acp X hH ml_X8_27 (gl_67_2 hj1) lC_13 hcp4 (by decide) hl.1 (Nat.le_of_ble_eq_true rfl) dX8_copyFrom_33 (fun H locs hH => ?_)
  rw [← eh3] at hH
  refine lv_aload_n hx hb dX8_copyFrom_36 rfl (lv_at hl 1 rfl) ?_
  refine gR X hH fl_X8_18 (gl_67_0 hj1) rfl dX8_copyFrom_37 ?_
  refine lv_iconst (v := 0) hx hb dX8_copyFrom_40 (by decide) ?_
  refine lv_aload_n hx hb dX8_copyFrom_41 rfl (lv_at hl 0 rfl) ?_
  refine gR X hH fl_X8_18 lC_11 rfl dX8_copyFrom_42 ?_
  refine lv_iconst (v := 0) hx hb dX8_copyFrom_45 (by decide) ?_
  refine lv_aload_n hx hb dX8_copyFrom_46 rfl (lv_at hl 0 rfl) ?_
  refine gR X hH fl_X8_18 lC_11 rfl dX8_copyFrom_47 ?_
  refine aln X hH lC_14 (by decide) dX8_copyFrom_50 ?_
  obtain ⟨hcp6, hm⟩ := gCp_some hm
  obtain ⟨h5, eh5, hm⟩ := mlet_some hm
  refine acp X hH ml_X8_27 (gl_67_3 hj1) lC_14 hcp6 (by decide) hl.1 (Nat.le_of_ble_eq_true rfl) dX8_copyFrom_51 (fun H locs hH => ?_)
  rw [← eh5] at hH
  cases hm
  exact retV X hH dX8_copyFrom_54
/-! X1_bringBack -/
def mX1_bringBack (h : Mm) : Option Mm := gNz (6 : Int32) (mlet (wr h 66 1 ((((h 66 1) + (6 : Int32)) - (1 : Int32)) - (((h 66 1) + (6 : Int32)) - (1 : Int32)) / (6 : Int32) * (6 : Int32))) (fun h1 => mlet (wr h1 66 2 ((h1 66 2) - (1 : Int32))) (fun h2 => gIn (h2 66 1) 6 (bdh (mX8_copyFrom_11_g67 (h2 66 1).toNatClampNeg h2) (fun h4 => some h4)))))
set_option maxRecDepth 4000 in
theorem mt_X1_bringBack {l : Launch} {D : va_G} {ad : Nat → Nat} {ac : Nat → ClassId} {h : Mm} {h' : Mm} (hm : mX1_bringBack h = some h') : Mt l D ad ac LC rlC yX1_bringBack cX1_bringBack 2 none 2 [.ref (ad 66), .ref (ad 11)] h none h' := by
  refine Mt.of (own := RX1) (by decide) rfl (Nat.le_of_ble_eq_true rfl) ?_
  intro p e s m below meth c ls X hH hl
  obtain ⟨hx, hb, hml, hown, hts, hr, hlk, hC, hI, hR⟩ := id X
  have hl : lv_has ls 2 [(0, .ref (ad 66)), (1, .ref (ad 11))] := hl
  rw [mX1_bringBack] at hm
  refine lv_aload_n hx hb dX1_bringBack_0 rfl (lv_at hl 0 rfl) ?_
  refine lv_aload_n hx hb dX1_bringBack_1 rfl (lv_at hl 0 rfl) ?_
  refine gI X hH fl_X1_22 lC_66 rfl dX1_bringBack_2 ?_
  refine lv_bipush (v := 6) hx hb dX1_bringBack_5 (by decide) ?_
  refine lv_iadd hx hb dX1_bringBack_7 ?_
  refine lv_iconst (v := 1) hx hb dX1_bringBack_8 (by decide) ?_
  refine lv_isub hx hb dX1_bringBack_9 ?_
  refine lv_bipush (v := 6) hx hb dX1_bringBack_10 (by decide) ?_
  obtain ⟨hnz, hm⟩ := gNz_some hm
  refine lv_irem hx hb dX1_bringBack_12 hnz ?_
  obtain ⟨h1, eh1, hm⟩ := mlet_some hm
  refine pI X hH fl_X1_22 fw_1_1 lC_66 rfl dX1_bringBack_13 (fun H locs hH => ?_)
  rw [← eh1] at hH
  refine lv_aload_n hx hb dX1_bringBack_16 rfl (lv_at hl 0 rfl) ?_
  refine lv_dup hx hb dX1_bringBack_17 rfl ?_
  refine gI X hH fl_X1_18 lC_66 rfl dX1_bringBack_18 ?_
  refine lv_iconst (v := 1) hx hb dX1_bringBack_21 (by decide) ?_
  refine lv_isub hx hb dX1_bringBack_22 ?_
  obtain ⟨h2, eh2, hm⟩ := mlet_some hm
  refine pI X hH fl_X1_18 fw_1_2 lC_66 rfl dX1_bringBack_23 (fun H locs hH => ?_)
  rw [← eh2] at hH
  refine lv_aload_n hx hb dX1_bringBack_26 rfl (lv_at hl 1 rfl) ?_
  refine lv_aload_n hx hb dX1_bringBack_27 rfl (lv_at hl 0 rfl) ?_
  refine gR X hH fl_X1_11 lC_66 rfl dX1_bringBack_28 ?_
  refine lv_aload_n hx hb dX1_bringBack_31 rfl (lv_at hl 0 rfl) ?_
  refine gI X hH fl_X1_22 lC_66 rfl dX1_bringBack_32 ?_
  obtain ⟨hin3, hm⟩ := gIn_some hm
  refine ald X hH lC_67 (Or.inl rfl) (fun q => hin3 (Or.inl q)) (gk_67 hin3) dX1_bringBack_35 ?_
  obtain ⟨h4, hq, hm⟩ := bdh_some hm
  refine cVv X hH kl_X1_25 kv_X8_copyFrom (mt_X8_copyFrom_11_g67 (vp_lt hin3) hq) lC_11 rfl rfl (by decide) hl.1 rfl (Nat.le_of_ble_eq_true rfl) dX1_bringBack_36 (fun H locs hH => ?_)
  cases hm
  exact retV X hH dX1_bringBack_39
/-! X10_undo -/
def mX10_undo (h : Mm) : Option (Int32 × Mm) := if (h 66 2) = 0 then (some ((-2 : Int32), h)) else (bdh (mX6_forget h) (fun h1 => bdh (mX1_bringBack h1) (fun h2 => some ((h2 66 2), h2))))
set_option maxRecDepth 4000 in
theorem mt_X10_undo {l : Launch} {D : va_G} {ad : Nat → Nat} {ac : Nat → ClassId} {h : Mm} {r : Int32} {h' : Mm} (hm : mX10_undo h = some (r, h')) : Mt l D ad ac LC rlC yX10_undo cX10_undo 1 (some .int) 3 [.ref (ad 0)] h (some (.int r)) h' := by
  refine Mt.of (own := RX10) (by decide) rfl (Nat.le_of_ble_eq_true rfl) ?_
  intro p e s m below meth c ls X hH hl
  obtain ⟨hx, hb, hml, hown, hts, hr, hlk, hC, hI, hR⟩ := id X
  have hl : lv_has ls 1 [(0, .ref (ad 0))] := hl
  rw [mX10_undo] at hm
  refine lv_aload_n hx hb dX10_undo_0 rfl (lv_at hl 0 rfl) ?_
  refine gR X hH fl_X10_26 lC_0 rfl dX10_undo_1 ?_
  refine gI X hH fl_X10_201 lC_66 rfl dX10_undo_4 ?_
  refine lv_if_ne hx hb dX10_undo_7 (tgt := 13) (by decide) (fun hc => ?_) (fun hc => ?_)
  · rw [if_neg hc] at hm
    refine lv_aload_n hx hb dX10_undo_13 rfl (lv_at hl 0 rfl) ?_
    refine gR X hH fl_X10_47 lC_0 rfl dX10_undo_14 ?_
    obtain ⟨h1, hq, hm⟩ := bdh_some hm
    refine cVv X hH kl_X10_204 kv_X6_forget (mt_X6_forget lkC hq) lC_22 rfl rfl (by decide) hl.1 rfl (Nat.le_of_ble_eq_true rfl) dX10_undo_17 (fun H locs hH => ?_)
    refine lv_aload_n hx hb dX10_undo_20 rfl (lv_at hl 0 rfl) ?_
    refine gR X hH fl_X10_26 lC_0 rfl dX10_undo_21 ?_
    refine lv_aload_n hx hb dX10_undo_24 rfl (lv_at hl 0 rfl) ?_
    refine gR X hH fl_X10_19 lC_0 rfl dX10_undo_25 ?_
    refine gR X hH fl_X10_114 lC_3 rfl dX10_undo_28 ?_
    obtain ⟨h2, hq, hm⟩ := bdh_some hm
    refine cVv X hH kl_X10_207 kv_X1_bringBack (mt_X1_bringBack hq) lC_66 rfl rfl (by decide) hl.1 rfl (Nat.le_of_ble_eq_true rfl) dX10_undo_31 (fun H locs hH => ?_)
    refine lv_aload_n hx hb dX10_undo_34 rfl (lv_at hl 0 rfl) ?_
    refine gR X hH fl_X10_26 lC_0 rfl dX10_undo_35 ?_
    refine gI X hH fl_X10_201 lC_66 rfl dX10_undo_38 ?_
    cases hm
    exact retI X hH dX10_undo_41
  · rw [if_pos hc] at hm
    refine lv_bipush (v := (-2)) hx hb dX10_undo_10 (by decide) ?_
    cases hm
    exact retI X hH dX10_undo_12
/-! X10_why -/
def mX10_why (h : Mm) (a1 : Int32) (a2 : Int32) : Option Int32 := bd1 (mX5_has h a1) (fun v1 => if v1 = 0 then (some (-1 : Int32)) else (bd1 (mX2_has_42 h a2) (fun v2 => if v2 = 0 then (some (-1 : Int32)) else (bd1 (mX4_whyNot h a1 a2) (fun v3 => some v3)))))
set_option maxRecDepth 4000 in
theorem mt_X10_why {l : Launch} {D : va_G} {ad : Nat → Nat} {ac : Nat → ClassId} {h : Mm} {a1 : Int32} {a2 : Int32} {r : Int32} (hm : mX10_why h a1 a2 = some r) : Mt l D ad ac LC rlC yX10_why cX10_why 3 (some .int) 5 [.ref (ad 0), .int a1, .int a2] h (some (.int r)) h := by
  refine Mt.of (own := RX10) (by decide) rfl (Nat.le_of_ble_eq_true rfl) ?_
  intro p e s m below meth c ls X hH hl
  obtain ⟨hx, hb, hml, hown, hts, hr, hlk, hC, hI, hR⟩ := id X
  have hl : lv_has ls 3 [(0, .ref (ad 0)), (1, .int a1), (2, .int a2)] := hl
  rw [mX10_why] at hm
  refine lv_aload_n hx hb dX10_why_0 rfl (lv_at hl 0 rfl) ?_
  refine gR X hH fl_X10_19 lC_0 rfl dX10_why_1 ?_
  refine gR X hH fl_X10_146 lC_3 rfl dX10_why_4 ?_
  refine lv_iload_n hx hb dX10_why_7 rfl (lv_at hl 1 rfl) ?_
  obtain ⟨v1, hq, hm⟩ := bd1_some hm
  refine cVi X hH kl_X10_150 kv_X5_has (mt_X5_has hq) lC_4 rfl rfl (by decide) hl.1 rfl (Nat.le_of_ble_eq_true rfl) dX10_why_8 (fun H locs hH => ?_)
  refine lv_if_eq hx hb dX10_why_11 (tgt := 31) (by decide) (fun hc => ?_) (fun hc => ?_)
  · rw [if_pos hc] at hm
    refine lv_iconst (v := (-1)) hx hb dX10_why_31 (by decide) ?_
    cases hm
    exact retI X hH dX10_why_32
  · rw [if_neg hc] at hm
    refine lv_aload_n hx hb dX10_why_14 rfl (lv_at hl 0 rfl) ?_
    refine gR X hH fl_X10_19 lC_0 rfl dX10_why_15 ?_
    refine gR X hH fl_X10_87 lC_3 rfl dX10_why_18 ?_
    refine gR X hH fl_X10_111 lC_30 rfl dX10_why_21 ?_
    refine lv_iload_n hx hb dX10_why_24 rfl (lv_at hl 2 rfl) ?_
    obtain ⟨v2, hq, hm⟩ := bd1_some hm
    refine cVi X hH kl_X10_94 kv_X2_has (mt_X2_has_42 hq) lC_42 rfl rfl (by decide) hl.1 rfl (Nat.le_of_ble_eq_true rfl) dX10_why_25 (fun H locs hH => ?_)
    refine lv_if_ne hx hb dX10_why_28 (tgt := 33) (by decide) (fun hc => ?_) (fun hc => ?_)
    · rw [if_neg hc] at hm
      refine lv_aload_n hx hb dX10_why_33 rfl (lv_at hl 0 rfl) ?_
      refine gR X hH fl_X10_19 lC_0 rfl dX10_why_34 ?_
      refine lv_iload_n hx hb dX10_why_37 rfl (lv_at hl 1 rfl) ?_
      refine lv_iload_n hx hb dX10_why_38 rfl (lv_at hl 2 rfl) ?_
      obtain ⟨v3, hq, hm⟩ := bd1_some hm
      refine cVi X hH kl_X10_184 kv_X4_whyNot (mt_X4_whyNot hq) lC_3 rfl rfl (by decide) hl.1 rfl (Nat.le_of_ble_eq_true rfl) dX10_why_39 (fun H locs hH => ?_)
      cases hm
      exact retI X hH dX10_why_42
    · rw [if_pos hc] at hm
      refine lv_iconst (v := (-1)) hx hb dX10_why_31 (by decide) ?_
      cases hm
      exact retI X hH dX10_why_32
/-! X3_clear -/
def mX3_clear (h : Mm) : Option Mm := mlet (wr h 1 1 (0 : Int32)) (fun h1 => some h1)
set_option maxRecDepth 4000 in
theorem mt_X3_clear {l : Launch} {D : va_G} {ad : Nat → Nat} {ac : Nat → ClassId} {h : Mm} {h' : Mm} (hm : mX3_clear h = some h') : Mt l D ad ac LC rlC yX3_clear cX3_clear 1 none 0 [.ref (ad 1)] h none h' := by
  refine Mt.of (own := RX3) (by decide) rfl (Nat.le_of_ble_eq_true rfl) ?_
  intro p e s m below meth c ls X hH hl
  obtain ⟨hx, hb, hml, hown, hts, hr, hlk, hC, hI, hR⟩ := id X
  have hl : lv_has ls 1 [(0, .ref (ad 1))] := hl
  rw [mX3_clear] at hm
  refine lv_aload_n hx hb dX3_clear_0 rfl (lv_at hl 0 rfl) ?_
  refine lv_iconst (v := 0) hx hb dX3_clear_1 (by decide) ?_
  obtain ⟨h1, eh1, hm⟩ := mlet_some hm
  refine pI X hH fl_X3_15 fw_3_1 lC_1 rfl dX3_clear_2 (fun H locs hH => ?_)
  rw [← eh1] at hH
  cases hm
  exact retV X hH dX3_clear_5
/-! X10_wipe -/
def mX10_wipe (h : Mm) : Option (Int32 × Mm) := mlet (h 1 1) (fun u1 => bdh (mX3_clear h) (fun h2 => some (u1, h2)))
set_option maxRecDepth 4000 in
theorem mt_X10_wipe {l : Launch} {D : va_G} {ad : Nat → Nat} {ac : Nat → ClassId} {h : Mm} {r : Int32} {h' : Mm} (hm : mX10_wipe h = some (r, h')) : Mt l D ad ac LC rlC yX10_wipe cX10_wipe 2 (some .int) 1 [.ref (ad 0)] h (some (.int r)) h' := by
  refine Mt.of (own := RX10) (by decide) rfl (Nat.le_of_ble_eq_true rfl) ?_
  intro p e s m below meth c ls X hH hl
  obtain ⟨hx, hb, hml, hown, hts, hr, hlk, hC, hI, hR⟩ := id X
  have hl : lv_has ls 2 [(0, .ref (ad 0))] := hl
  rw [mX10_wipe] at hm
  refine lv_aload_n hx hb dX10_wipe_0 rfl (lv_at hl 0 rfl) ?_
  refine gR X hH fl_X10_10 lC_0 rfl dX10_wipe_1 ?_
  refine gI X hH fl_X10_80 lC_1 rfl dX10_wipe_4 ?_
  obtain ⟨u1, eu1, hm⟩ := mlet_some hm
  refine W.eq (g2 := F0 m 7 ls (.int u1 :: [])) (by rw [eu1]) ?_
  refine lv_istore_n (lv' := [(1, .int u1), (0, .ref (ad 0))]) hx hb dX10_wipe_7 rfl hl (by decide) rfl (fun ls hl => ?_)
  refine lv_aload_n hx hb dX10_wipe_8 rfl (lv_at hl 1 rfl) ?_
  refine gR X hH fl_X10_10 lC_0 rfl dX10_wipe_9 ?_
  obtain ⟨h2, hq, hm⟩ := bdh_some hm
  refine cVv X hH kl_X10_77 kv_X3_clear (mt_X3_clear hq) lC_1 rfl rfl (by decide) hl.1 rfl (Nat.le_of_ble_eq_true rfl) dX10_wipe_12 (fun H locs hH => ?_)
  refine lv_iload_n hx hb dX10_wipe_15 rfl (lv_at hl 0 rfl) ?_
  cases hm
  exact retI X hH dX10_wipe_16
/-! X3_append -/
def mX3_append (h : Mm) (a1 : Int32) : Option Mm := if (nI 200) ≤ (h 1 1) then (some h) else (gIn (h 1 1) 200 (mlet (wr h 2 (h 1 1).toNatClampNeg (vp_nar .char a1)) (fun h1 => mlet (wr h1 1 1 ((h1 1 1) + (1 : Int32))) (fun h3 => some h3))))
set_option maxRecDepth 4000 in
theorem mt_X3_append {l : Launch} {D : va_G} {ad : Nat → Nat} {ac : Nat → ClassId} {h : Mm} {a1 : Int32} {h' : Mm} (hm : mX3_append h a1 = some h') : Mt l D ad ac LC rlC yX3_append cX3_append 2 none 0 [.ref (ad 1), .int a1] h none h' := by
  refine Mt.of (own := RX3) (by decide) rfl (Nat.le_of_ble_eq_true rfl) ?_
  intro p e s m below meth c ls X hH hl
  obtain ⟨hx, hb, hml, hown, hts, hr, hlk, hC, hI, hR⟩ := id X
  have hl : lv_has ls 2 [(0, .ref (ad 1)), (1, .int a1)] := hl
  rw [mX3_append] at hm
  refine lv_aload_n hx hb dX3_append_0 rfl (lv_at hl 0 rfl) ?_
  refine gI X hH fl_X3_15 lC_1 rfl dX3_append_1 ?_
  refine lv_aload_n hx hb dX3_append_4 rfl (lv_at hl 0 rfl) ?_
  refine gR X hH fl_X3_9 lC_1 rfl dX3_append_5 ?_
  refine aln X hH lC_2 (by decide) dX3_append_8 ?_
  refine lv_icmp_ge hx hb dX3_append_9 (tgt := 32) (by decide) (fun hc => ?_) (fun hc => ?_)
  · rw [if_pos hc] at hm
    cases hm
    exact retV X hH dX3_append_32
  · rw [if_neg hc] at hm
    refine lv_aload_n hx hb dX3_append_12 rfl (lv_at hl 0 rfl) ?_
    refine gR X hH fl_X3_9 lC_1 rfl dX3_append_13 ?_
    refine lv_aload_n hx hb dX3_append_16 rfl (lv_at hl 0 rfl) ?_
    refine gI X hH fl_X3_15 lC_1 rfl dX3_append_17 ?_
    refine lv_iload_n hx hb dX3_append_20 rfl (lv_at hl 1 rfl) ?_
    obtain ⟨hin2, hm⟩ := gIn_some hm
    obtain ⟨h1, eh1, hm⟩ := mlet_some hm
    refine cst X hH lC_2 hin2 dX3_append_21 (fun H locs hH => ?_)
    rw [← eh1] at hH
    refine lv_aload_n hx hb dX3_append_22 rfl (lv_at hl 0 rfl) ?_
    refine lv_dup hx hb dX3_append_23 rfl ?_
    refine gI X hH fl_X3_15 lC_1 rfl dX3_append_24 ?_
    refine lv_iconst (v := 1) hx hb dX3_append_27 (by decide) ?_
    refine lv_iadd hx hb dX3_append_28 ?_
    obtain ⟨h3, eh3, hm⟩ := mlet_some hm
    refine pI X hH fl_X3_15 fw_3_1 lC_1 rfl dX3_append_29 (fun H locs hH => ?_)
    rw [← eh3] at hH
    cases hm
    exact retV X hH dX3_append_32
/-! X10_write -/
def mX10_write (h : Mm) (a1 : Int32) : Option (Int32 × Mm) := if a1 < (32 : Int32) then (some ((-1 : Int32), h)) else (if a1 ≤ (126 : Int32) then (if (h 1 1) < (200 : Int32) then (bdh (mX3_append h (a1.toUInt32 % 65536).toInt32) (fun h1 => some ((h1 1 1), h1))) else (some ((-3 : Int32), h))) else (some ((-1 : Int32), h)))
set_option maxRecDepth 4000 in
theorem mt_X10_write {l : Launch} {D : va_G} {ad : Nat → Nat} {ac : Nat → ClassId} {h : Mm} {a1 : Int32} {r : Int32} {h' : Mm} (hm : mX10_write h a1 = some (r, h')) : Mt l D ad ac LC rlC yX10_write cX10_write 2 (some .int) 1 [.ref (ad 0), .int a1] h (some (.int r)) h' := by
  refine Mt.of (own := RX10) (by decide) rfl (Nat.le_of_ble_eq_true rfl) ?_
  intro p e s m below meth c ls X hH hl
  obtain ⟨hx, hb, hml, hown, hts, hr, hlk, hC, hI, hR⟩ := id X
  have hl : lv_has ls 2 [(0, .ref (ad 0)), (1, .int a1)] := hl
  rw [mX10_write] at hm
  refine lv_iload_n hx hb dX10_write_0 rfl (lv_at hl 1 rfl) ?_
  refine lv_bipush (v := 32) hx hb dX10_write_1 (by decide) ?_
  refine lv_icmp_lt hx hb dX10_write_3 (tgt := 12) (by decide) (fun hc => ?_) (fun hc => ?_)
  · rw [if_pos hc] at hm
    refine lv_iconst (v := (-1)) hx hb dX10_write_12 (by decide) ?_
    cases hm
    exact retI X hH dX10_write_13
  · rw [if_neg hc] at hm
    refine lv_iload_n hx hb dX10_write_6 rfl (lv_at hl 1 rfl) ?_
    refine lv_bipush (v := 126) hx hb dX10_write_7 (by decide) ?_
    refine lv_icmp_le hx hb dX10_write_9 (tgt := 14) (by decide) (fun hc => ?_) (fun hc => ?_)
    · rw [if_pos hc] at hm
      refine lv_aload_n hx hb dX10_write_14 rfl (lv_at hl 0 rfl) ?_
      refine gR X hH fl_X10_10 lC_0 rfl dX10_write_15 ?_
      refine gI X hH fl_X10_80 lC_1 rfl dX10_write_18 ?_
      refine lv_sipush (v := 200) hx hb dX10_write_21 (by decide) ?_
      refine lv_icmp_lt hx hb dX10_write_24 (tgt := 30) (by decide) (fun hc => ?_) (fun hc => ?_)
      · rw [if_pos hc] at hm
        refine lv_aload_n hx hb dX10_write_30 rfl (lv_at hl 0 rfl) ?_
        refine gR X hH fl_X10_10 lC_0 rfl dX10_write_31 ?_
        refine lv_iload_n hx hb dX10_write_34 rfl (lv_at hl 1 rfl) ?_
        refine lv_i2c hx hb dX10_write_35 rfl ?_
        obtain ⟨h1, hq, hm⟩ := bdh_some hm
        refine cVv X hH kl_X10_70 kv_X3_append (mt_X3_append hq) lC_1 rfl rfl (by decide) hl.1 rfl (Nat.le_of_ble_eq_true rfl) dX10_write_36 (fun H locs hH => ?_)
        refine lv_aload_n hx hb dX10_write_39 rfl (lv_at hl 0 rfl) ?_
        refine gR X hH fl_X10_10 lC_0 rfl dX10_write_40 ?_
        refine gI X hH fl_X10_80 lC_1 rfl dX10_write_43 ?_
        cases hm
        exact retI X hH dX10_write_46
      · rw [if_neg hc] at hm
        refine lv_bipush (v := (-3)) hx hb dX10_write_27 (by decide) ?_
        cases hm
        exact retI X hH dX10_write_29
    · rw [if_neg hc] at hm
      refine lv_iconst (v := (-1)) hx hb dX10_write_12 (by decide) ?_
      cases hm
      exact retI X hH dX10_write_13
/-! X11_in -/
def mX11_in (h : Mm) (a0 : Int64) (a1 : Int64) (a2 : Int64) : Option Int32 := if (lg_cmp a0 a1) < 0 then (some (0 : Int32)) else (if 0 < (lg_cmp a0 a2) then (some (0 : Int32)) else (some (1 : Int32)))
set_option maxRecDepth 4000 in
theorem mt_X11_in {l : Launch} {D : va_G} {ad : Nat → Nat} {ac : Nat → ClassId} {L : List CD} {rl : RomL} {h : Mm} {a0 : Int64} {a1 : Int64} {a2 : Int64} {r : Int32} (hm : mX11_in h a0 a1 a2 = some r) : Mt l D ad ac L rl yX11_in cX11_in 6 (some .boolean) 0 [.long a0, .long a1, .long a2] h (some (.int r)) h := by
  refine Mt.of (own := RX11) (by decide) rfl (Nat.le_of_ble_eq_true rfl) ?_
  intro p e s m below meth c ls X hH hl
  obtain ⟨hx, hb, hml, hown, hts, hr, hlk, hC, hI, hR⟩ := id X
  have hl : lv_has ls 6 [(0, .long a0), (2, .long a1), (4, .long a2)] := hl
  rw [mX11_in] at hm
  refine lv_lload_n hx hb dX11_in_0 rfl (lv_at hl 0 rfl) ?_
  refine lv_lload_n hx hb dX11_in_1 rfl (lv_at hl 1 rfl) ?_
  refine W.lcmp hx hb dX11_in_2 ?_
  refine lv_if_lt hx hb dX11_in_3 (tgt := 17) (by decide) (fun hc => ?_) (fun hc => ?_)
  · rw [if_pos hc] at hm
    refine lv_iconst (v := 0) hx hb dX11_in_17 (by decide) ?_
    cases hm
    exact retZ X hH rfl dX11_in_18
  · rw [if_neg hc] at hm
    refine lv_lload_n hx hb dX11_in_6 rfl (lv_at hl 0 rfl) ?_
    refine lv_lload hx hb dX11_in_7 (lv_at hl 2 rfl) ?_
    refine W.lcmp hx hb dX11_in_9 ?_
    refine lv_if_gt hx hb dX11_in_10 (tgt := 17) (by decide) (fun hc => ?_) (fun hc => ?_)
    · rw [if_pos hc] at hm
      refine lv_iconst (v := 0) hx hb dX11_in_17 (by decide) ?_
      cases hm
      exact retZ X hH rfl dX11_in_18
    · rw [if_neg hc] at hm
      refine lv_iconst (v := 1) hx hb dX11_in_13 (by decide) ?_
      refine lv_goto hx hb dX11_in_14 (tgt := 18) (by decide) ?_
      cases hm
      exact retZ X hH rfl dX11_in_18
/-! X11_isPass -/
def mX11_isPass (h : Mm) (a1 : Int32) : Option Int32 := bd1 (mX11_in h a1.toInt64 (0 : Int64) ((h 0 16) - (1 : Int32)).toInt64) (fun v1 => gB v1 (some v1))
set_option maxRecDepth 4000 in
theorem mt_X11_isPass {l : Launch} {D : va_G} {ad : Nat → Nat} {ac : Nat → ClassId} {h : Mm} {a1 : Int32} {r : Int32} (hm : mX11_isPass h a1 = some r) : Mt l D ad ac LM [] yX11_isPass cX11_isPass 2 (some .boolean) 1 [.ref (ad 0), .int a1] h (some (.int r)) h := by
  refine Mt.of (own := RX11) (by decide) rfl (Nat.le_of_ble_eq_true rfl) ?_
  intro p e s m below meth c ls X hH hl
  obtain ⟨hx, hb, hml, hown, hts, hr, hlk, hC, hI, hR⟩ := id X
  have hl : lv_has ls 2 [(0, .ref (ad 0)), (1, .int a1)] := hl
  rw [mX11_isPass] at hm
  refine lv_iload_n hx hb dX11_isPass_0 rfl (lv_at hl 1 rfl) ?_
  refine lv_i2l hx hb dX11_isPass_1 rfl ?_
  refine lv_lconst (v := 0) hx hb dX11_isPass_2 (by decide) ?_
  refine lv_aload_n hx hb dX11_isPass_3 rfl (lv_at hl 0 rfl) ?_
  refine gI X hH fl_X11_124 lM_0 rfl dX11_isPass_4 ?_
  refine lv_iconst (v := 1) hx hb dX11_isPass_7 (by decide) ?_
  refine lv_isub hx hb dX11_isPass_8 ?_
  refine lv_i2l hx hb dX11_isPass_9 rfl ?_
  obtain ⟨v1, hq, hm⟩ := bd1_some hm
  refine cSi (As := [.long a1.toInt64, .long (0 : Int64), .long ((h 0 16) - (1 : Int32)).toInt64]) X hH kl_X11_93 ks_X11_in (mt_X11_in hq) rfl (by decide) hl.1 rfl (Nat.le_of_ble_eq_true rfl) dX11_isPass_10 (fun H locs hH => ?_)
  obtain ⟨hgn, hm⟩ := gB_some hm
  cases hm
  exact retZ X hH hgn dX11_isPass_13
/-! X11_wide -/
def mX11_wide (h : Mm) (a1 : Int32) : Option Int32 := if (6 : Int32) ≤ ((h 0 16) - a1) then (some (6 : Int32)) else (some ((h 0 16) - a1))
set_option maxRecDepth 4000 in
theorem mt_X11_wide {l : Launch} {D : va_G} {ad : Nat → Nat} {ac : Nat → ClassId} {h : Mm} {a1 : Int32} {r : Int32} (hm : mX11_wide h a1 = some r) : Mt l D ad ac LM [] yX11_wide cX11_wide 2 (some .int) 0 [.ref (ad 0), .int a1] h (some (.int r)) h := by
  refine Mt.of (own := RX11) (by decide) rfl (Nat.le_of_ble_eq_true rfl) ?_
  intro p e s m below meth c ls X hH hl
  obtain ⟨hx, hb, hml, hown, hts, hr, hlk, hC, hI, hR⟩ := id X
  have hl : lv_has ls 2 [(0, .ref (ad 0)), (1, .int a1)] := hl
  rw [mX11_wide] at hm
  refine lv_aload_n hx hb dX11_wide_0 rfl (lv_at hl 0 rfl) ?_
  refine gI X hH fl_X11_124 lM_0 rfl dX11_wide_1 ?_
  refine lv_iload_n hx hb dX11_wide_4 rfl (lv_at hl 1 rfl) ?_
  refine lv_isub hx hb dX11_wide_5 ?_
  refine lv_bipush (v := 6) hx hb dX11_wide_6 (by decide) ?_
  refine lv_icmp_ge hx hb dX11_wide_8 (tgt := 20) (by decide) (fun hc => ?_) (fun hc => ?_)
  · rw [if_pos hc] at hm
    refine lv_bipush (v := 6) hx hb dX11_wide_20 (by decide) ?_
    cases hm
    exact retI X hH dX11_wide_22
  · rw [if_neg hc] at hm
    refine lv_aload_n hx hb dX11_wide_11 rfl (lv_at hl 0 rfl) ?_
    refine gI X hH fl_X11_124 lM_0 rfl dX11_wide_12 ?_
    refine lv_iload_n hx hb dX11_wide_15 rfl (lv_at hl 1 rfl) ?_
    refine lv_isub hx hb dX11_wide_16 ?_
    refine lv_goto hx hb dX11_wide_17 (tgt := 22) (by decide) ?_
    cases hm
    exact retI X hH dX11_wide_22
