/-! X10_pass -/
def mX10_pass (h : Mm) (a1 : Int32) (a2 : Int32) : Option Int32 := bd1 (mX5_has h a1) (fun v1 => if v1 = 0 then (some (-1 : Int32)) else (if a2 = (0 : Int32) then (gIn a1 24 (some (h 5 a1.toNatClampNeg))) else (if a2 = (1 : Int32) then (gIn a1 24 (some (h 6 a1.toNatClampNeg))) else (if a2 = (2 : Int32) then (gIn a1 24 (some (h 7 a1.toNatClampNeg))) else (if a2 = (3 : Int32) then (gIn a1 24 (some (h 8 a1.toNatClampNeg))) else (if a2 = (4 : Int32) then (gIn a1 24 (some (h 9 a1.toNatClampNeg))) else (if a2 = (5 : Int32) then (gIn a1 24 (bd1 (mX10_antennaOrNone h (h 12 a1.toNatClampNeg)) (fun v8 => some v8))) else (if a2 = (6 : Int32) then (bd1 (mX4_fittingAntennas h a1) (fun v9 => some v9)) else (some (-1 : Int32))))))))))
set_option maxRecDepth 4000 in
theorem mt_X10_pass {l : Launch} {D : va_G} {ad : Nat → Nat} {ac : Nat → ClassId} {h : Mm} {a1 : Int32} {a2 : Int32} {r : Int32} (hm : mX10_pass h a1 a2 = some r) : Mt l D ad ac LC rlC yX10_pass cX10_pass 3 (some .int) 4 [.ref (ad 0), .int a1, .int a2] h (some (.int r)) h := by
  refine Mt.of (own := RX10) (by decide) rfl (Nat.le_of_ble_eq_true rfl) ?_
  intro p e s m below meth c ls X hH hl
  obtain ⟨hx, hb, hml, hown, hts, hr, hlk, hC, hI, hR⟩ := id X
  have hl : lv_has ls 3 [(0, .ref (ad 0)), (1, .int a1), (2, .int a2)] := hl
  rw [mX10_pass] at hm
  refine lv_aload_n hx hb dX10_pass_0 rfl (lv_at hl 0 rfl) ?_
  refine gR X hH fl_X10_19 lC_0 rfl dX10_pass_1 ?_
  refine gR X hH fl_X10_146 lC_3 rfl dX10_pass_4 ?_
  refine lv_iload_n hx hb dX10_pass_7 rfl (lv_at hl 1 rfl) ?_
  obtain ⟨v1, hq, hm⟩ := bd1_some hm
  refine cVi X hH kl_X10_150 kv_X5_has (mt_X5_has hq) lC_4 rfl rfl (by decide) hl.1 rfl (Nat.le_of_ble_eq_true rfl) dX10_pass_8 (fun H locs hH => ?_)
  refine lv_if_ne hx hb dX10_pass_11 (tgt := 16) (by decide) (fun hc => ?_) (fun hc => ?_)
  · rw [if_neg hc] at hm
    refine lv_iload_n hx hb dX10_pass_16 rfl (lv_at hl 2 rfl) ?_
    by_cases hc0 : a2 = (0 : Int32)
    · rw [if_pos hc0] at hm
      refine lv_tableIn hx hb dX10_pass_17 (by rw [hc0]; decide) (by rw [hc0]; decide) (off := 43) (by rw [hc0]; rfl) (tgt := 60) (by decide) ?_
      refine lv_aload_n hx hb dX10_pass_60 rfl (lv_at hl 0 rfl) ?_
      refine gR X hH fl_X10_19 lC_0 rfl dX10_pass_61 ?_
      refine gR X hH fl_X10_146 lC_3 rfl dX10_pass_64 ?_
      refine gR X hH fl_X10_153 lC_4 rfl dX10_pass_67 ?_
      refine lv_iload_n hx hb dX10_pass_70 rfl (lv_at hl 1 rfl) ?_
      obtain ⟨hin2, hm⟩ := gIn_some hm
      refine ild X hH lC_5 hin2 dX10_pass_71 ?_
      cases hm
      exact retI X hH dX10_pass_72
    · rw [if_neg hc0] at hm
      by_cases hc1 : a2 = (1 : Int32)
      · rw [if_pos hc1] at hm
        refine lv_tableIn hx hb dX10_pass_17 (by rw [hc1]; decide) (by rw [hc1]; decide) (off := 56) (by rw [hc1]; rfl) (tgt := 73) (by decide) ?_
        refine lv_aload_n hx hb dX10_pass_73 rfl (lv_at hl 0 rfl) ?_
        refine gR X hH fl_X10_19 lC_0 rfl dX10_pass_74 ?_
        refine gR X hH fl_X10_146 lC_3 rfl dX10_pass_77 ?_
        refine gR X hH fl_X10_156 lC_4 rfl dX10_pass_80 ?_
        refine lv_iload_n hx hb dX10_pass_83 rfl (lv_at hl 1 rfl) ?_
        obtain ⟨hin3, hm⟩ := gIn_some hm
        refine ild X hH lC_6 hin3 dX10_pass_84 ?_
        cases hm
        exact retI X hH dX10_pass_85
      · rw [if_neg hc1] at hm
        by_cases hc2 : a2 = (2 : Int32)
        · rw [if_pos hc2] at hm
          refine lv_tableIn hx hb dX10_pass_17 (by rw [hc2]; decide) (by rw [hc2]; decide) (off := 69) (by rw [hc2]; rfl) (tgt := 86) (by decide) ?_
          refine lv_aload_n hx hb dX10_pass_86 rfl (lv_at hl 0 rfl) ?_
          refine gR X hH fl_X10_19 lC_0 rfl dX10_pass_87 ?_
          refine gR X hH fl_X10_146 lC_3 rfl dX10_pass_90 ?_
          refine gR X hH fl_X10_159 lC_4 rfl dX10_pass_93 ?_
          refine lv_iload_n hx hb dX10_pass_96 rfl (lv_at hl 1 rfl) ?_
          obtain ⟨hin4, hm⟩ := gIn_some hm
          refine ild X hH lC_7 hin4 dX10_pass_97 ?_
          cases hm
          exact retI X hH dX10_pass_98
        · rw [if_neg hc2] at hm
          by_cases hc3 : a2 = (3 : Int32)
          · rw [if_pos hc3] at hm
            refine lv_tableIn hx hb dX10_pass_17 (by rw [hc3]; decide) (by rw [hc3]; decide) (off := 82) (by rw [hc3]; rfl) (tgt := 99) (by decide) ?_
            refine lv_aload_n hx hb dX10_pass_99 rfl (lv_at hl 0 rfl) ?_
            refine gR X hH fl_X10_19 lC_0 rfl dX10_pass_100 ?_
            refine gR X hH fl_X10_146 lC_3 rfl dX10_pass_103 ?_
            refine gR X hH fl_X10_162 lC_4 rfl dX10_pass_106 ?_
            refine lv_iload_n hx hb dX10_pass_109 rfl (lv_at hl 1 rfl) ?_
            obtain ⟨hin5, hm⟩ := gIn_some hm
            refine ild X hH lC_8 hin5 dX10_pass_110 ?_
            cases hm
            exact retI X hH dX10_pass_111
          · rw [if_neg hc3] at hm
            by_cases hc4 : a2 = (4 : Int32)
            · rw [if_pos hc4] at hm
              refine lv_tableIn hx hb dX10_pass_17 (by rw [hc4]; decide) (by rw [hc4]; decide) (off := 95) (by rw [hc4]; rfl) (tgt := 112) (by decide) ?_
              refine lv_aload_n hx hb dX10_pass_112 rfl (lv_at hl 0 rfl) ?_
              refine gR X hH fl_X10_19 lC_0 rfl dX10_pass_113 ?_
              refine gR X hH fl_X10_146 lC_3 rfl dX10_pass_116 ?_
              refine gR X hH fl_X10_165 lC_4 rfl dX10_pass_119 ?_
              refine lv_iload_n hx hb dX10_pass_122 rfl (lv_at hl 1 rfl) ?_
              obtain ⟨hin6, hm⟩ := gIn_some hm
              refine ild X hH lC_9 hin6 dX10_pass_123 ?_
              cases hm
              exact retI X hH dX10_pass_124
            · rw [if_neg hc4] at hm
              by_cases hc5 : a2 = (5 : Int32)
              · rw [if_pos hc5] at hm
                refine lv_tableIn hx hb dX10_pass_17 (by rw [hc5]; decide) (by rw [hc5]; decide) (off := 108) (by rw [hc5]; rfl) (tgt := 125) (by decide) ?_
                refine lv_aload_n hx hb dX10_pass_125 rfl (lv_at hl 0 rfl) ?_
                refine gR X hH fl_X10_19 lC_0 rfl dX10_pass_126 ?_
                refine gR X hH fl_X10_114 lC_3 rfl dX10_pass_129 ?_
                refine gR X hH fl_X10_168 lC_11 rfl dX10_pass_132 ?_
                refine lv_iload_n hx hb dX10_pass_135 rfl (lv_at hl 1 rfl) ?_
                obtain ⟨hin7, hm⟩ := gIn_some hm
                refine ild X hH lC_12 hin7 dX10_pass_136 ?_
                obtain ⟨v8, hq, hm⟩ := bd1_some hm
                refine cSi (As := [.int (h 12 a1.toNatClampNeg)]) X hH kl_X10_171 ks_X10_antennaOrNone (mt_X10_antennaOrNone hq) rfl (by decide) hl.1 rfl (Nat.le_of_ble_eq_true rfl) dX10_pass_137 (fun H locs hH => ?_)
                cases hm
                exact retI X hH dX10_pass_140
              · rw [if_neg hc5] at hm
                by_cases hc6 : a2 = (6 : Int32)
                · rw [if_pos hc6] at hm
                  refine lv_tableIn hx hb dX10_pass_17 (by rw [hc6]; decide) (by rw [hc6]; decide) (off := 124) (by rw [hc6]; rfl) (tgt := 141) (by decide) ?_
                  refine lv_aload_n hx hb dX10_pass_141 rfl (lv_at hl 0 rfl) ?_
                  refine gR X hH fl_X10_19 lC_0 rfl dX10_pass_142 ?_
                  refine lv_iload_n hx hb dX10_pass_145 rfl (lv_at hl 1 rfl) ?_
                  obtain ⟨v9, hq, hm⟩ := bd1_some hm
                  refine cVi X hH kl_X10_174 kv_X4_fittingAntennas (mt_X4_fittingAntennas hq) lC_3 rfl rfl (by decide) hl.1 rfl (Nat.le_of_ble_eq_true rfl) dX10_pass_146 (fun H locs hH => ?_)
                  cases hm
                  exact retI X hH dX10_pass_149
                · rw [if_neg hc6] at hm
                  have q0 := lv_neT (a := 0) hc0 (by decide)
                  have q1 := lv_neT (a := 1) hc1 (by decide)
                  have q2 := lv_neT (a := 2) hc2 (by decide)
                  have q3 := lv_neT (a := 3) hc3 (by decide)
                  have q4 := lv_neT (a := 4) hc4 (by decide)
                  have q5 := lv_neT (a := 5) hc5 (by decide)
                  have q6 := lv_neT (a := 6) hc6 (by decide)
                  refine lv_tableOut hx hb dX10_pass_17 (by omega) (tgt := 150) (by decide) ?_
                  refine lv_iconst (v := (-1)) hx hb dX10_pass_150 (by decide) ?_
                  cases hm
                  exact retI X hH dX10_pass_151
  · rw [if_pos hc] at hm
    refine lv_iconst (v := (-1)) hx hb dX10_pass_14 (by decide) ?_
    cases hm
    exact retI X hH dX10_pass_15
/-! X10_plan -/
def mX10_plan (h : Mm) (a1 : Int32) (a2 : Int32) (a3 : Int32) (a4 : Int32) : Option (Int32 × Mm) := bd1 (mX10_isBadPlan h a1 a2 a3) (fun v1 => if v1 = 0 then (if a4 < (-4 : Int32) then (some ((-1 : Int32), h)) else (bd1 (mX4_windowSize h a2) (fun v2 => if a4 < v2 then (bdh (mX6_find h a1 a2 a3) (fun h3 => if a4 = (-4 : Int32) then (some ((h3 22 16), h3)) else (if a4 = (-3 : Int32) then (bd1 (mJ6_bitCount_0f7a4 h3 (h3 22 15)) (fun v6 => some (v6, h3))) else (if a4 = (-2 : Int32) then (bd1 (mX6_contactBits h3 (h3 22 15)) (fun v7 => bd2 (mX9_lostByAll h3 v7) (fun v9 h8 => some (v9, h8)))) else (if a4 = (-1 : Int32) then (bd1 (mX4_volumeOf h3 ((h3 22 15) <<< (a2 &&& 31))) (fun v10 => some (v10, h3))) else (gIn a4 6 (bd1 (mX10_antennaOrNone h3 (h3 29 a4.toNatClampNeg)) (fun v5 => some (v5, h3))))))))) else (some ((-1 : Int32), h))))) else (some ((-1 : Int32), h)))
set_option maxRecDepth 4000 in
theorem mt_X10_plan {l : Launch} {D : va_G} {ad : Nat → Nat} {ac : Nat → ClassId} {h : Mm} {a1 : Int32} {a2 : Int32} {a3 : Int32} {a4 : Int32} {r : Int32} {h' : Mm} (hm : mX10_plan h a1 a2 a3 a4 = some (r, h')) : Mt l D ad ac LC rlC yX10_plan cX10_plan 5 (some .int) 13 [.ref (ad 0), .int a1, .int a2, .int a3, .int a4] h (some (.int r)) h' := by
  refine Mt.of (own := RX10) (by decide) rfl (Nat.le_of_ble_eq_true rfl) ?_
  intro p e s m below meth c ls X hH hl
  obtain ⟨hx, hb, hml, hown, hts, hr, hlk, hC, hI, hR⟩ := id X
  have hl : lv_has ls 5 [(0, .ref (ad 0)), (1, .int a1), (2, .int a2), (3, .int a3), (4, .int a4)] := hl
  rw [mX10_plan] at hm
  refine lv_aload_n hx hb dX10_plan_0 rfl (lv_at hl 0 rfl) ?_
  refine lv_iload_n hx hb dX10_plan_1 rfl (lv_at hl 1 rfl) ?_
  refine lv_iload_n hx hb dX10_plan_2 rfl (lv_at hl 2 rfl) ?_
  refine lv_iload_n hx hb dX10_plan_3 rfl (lv_at hl 3 rfl) ?_
  obtain ⟨v1, hq, hm⟩ := bd1_some hm
  refine cVi X hH kl_X10_221 kv_X10_isBadPlan (mt_X10_isBadPlan hq) lC_0 rfl rfl (by decide) hl.1 rfl (Nat.le_of_ble_eq_true rfl) dX10_plan_4 (fun H locs hH => ?_)
  refine lv_if_ne hx hb dX10_plan_7 (tgt := 30) (by decide) (fun hc => ?_) (fun hc => ?_)
  · rw [if_neg hc] at hm
    refine lv_iconst (v := (-1)) hx hb dX10_plan_30 (by decide) ?_
    cases hm
    exact retI X hH dX10_plan_31
  · rw [if_pos hc] at hm
    refine lv_iload hx hb dX10_plan_10 (lv_at hl 4 rfl) ?_
    refine lv_bipush (v := (-4)) hx hb dX10_plan_12 (by decide) ?_
    refine lv_icmp_lt hx hb dX10_plan_14 (tgt := 30) (by decide) (fun hc => ?_) (fun hc => ?_)
    · rw [if_pos hc] at hm
      refine lv_iconst (v := (-1)) hx hb dX10_plan_30 (by decide) ?_
      cases hm
      exact retI X hH dX10_plan_31
    · rw [if_neg hc] at hm
      refine lv_iload hx hb dX10_plan_17 (lv_at hl 4 rfl) ?_
      refine lv_aload_n hx hb dX10_plan_19 rfl (lv_at hl 0 rfl) ?_
      refine gR X hH fl_X10_19 lC_0 rfl dX10_plan_20 ?_
      refine lv_iload_n hx hb dX10_plan_23 rfl (lv_at hl 2 rfl) ?_
      obtain ⟨v2, hq, hm⟩ := bd1_some hm
      refine cVi X hH kl_X10_224 kv_X4_windowSize (mt_X4_windowSize hq) lC_3 rfl rfl (by decide) hl.1 rfl (Nat.le_of_ble_eq_true rfl) dX10_plan_24 (fun H locs hH => ?_)
      refine lv_icmp_lt hx hb dX10_plan_27 (tgt := 32) (by decide) (fun hc => ?_) (fun hc => ?_)
      · rw [if_pos hc] at hm
        refine lv_aload_n hx hb dX10_plan_32 rfl (lv_at hl 0 rfl) ?_
        refine gR X hH fl_X10_47 lC_0 rfl dX10_plan_33 ?_
        refine lv_aload_n hx hb dX10_plan_36 rfl (lv_at hl 0 rfl) ?_
        refine gR X hH fl_X10_19 lC_0 rfl dX10_plan_37 ?_
        refine lv_aload_n hx hb dX10_plan_40 rfl (lv_at hl 0 rfl) ?_
        refine gR X hH fl_X10_33 lC_0 rfl dX10_plan_41 ?_
        refine lv_iload_n hx hb dX10_plan_44 rfl (lv_at hl 1 rfl) ?_
        refine lv_iload_n hx hb dX10_plan_45 rfl (lv_at hl 2 rfl) ?_
        refine lv_iload_n hx hb dX10_plan_46 rfl (lv_at hl 3 rfl) ?_
        obtain ⟨h3, hq, hm⟩ := bdh_some hm
        refine cVv X hH kl_X10_227 kv_X6_find (mt_X6_find hq) lC_22 rfl rfl (by decide) hl.1 rfl (Nat.le_of_ble_eq_true rfl) dX10_plan_47 (fun H locs hH => ?_)
        refine lv_iload hx hb dX10_plan_50 (lv_at hl 4 rfl) ?_
        by_cases hc0 : a4 = (-4 : Int32)
        · rw [if_pos hc0] at hm
          refine lv_tableIn hx hb dX10_plan_52 (by rw [hc0]; decide) (by rw [hc0]; decide) (off := 86) (by rw [hc0]; rfl) (tgt := 138) (by decide) ?_
          refine lv_aload_n hx hb dX10_plan_138 rfl (lv_at hl 0 rfl) ?_
          refine gR X hH fl_X10_47 lC_0 rfl dX10_plan_139 ?_
          refine gI X hH fl_X10_242 lC_22 rfl dX10_plan_142 ?_
          cases hm
          exact retI X hH dX10_plan_145
        · rw [if_neg hc0] at hm
          by_cases hc1 : a4 = (-3 : Int32)
          · rw [if_pos hc1] at hm
            refine lv_tableIn hx hb dX10_plan_52 (by rw [hc1]; decide) (by rw [hc1]; decide) (off := 75) (by rw [hc1]; rfl) (tgt := 127) (by decide) ?_
            refine lv_aload_n hx hb dX10_plan_127 rfl (lv_at hl 0 rfl) ?_
            refine gR X hH fl_X10_47 lC_0 rfl dX10_plan_128 ?_
            refine gI X hH fl_X10_230 lC_22 rfl dX10_plan_131 ?_
            obtain ⟨v6, hq, hm⟩ := bd1_some hm
            refine cSi (As := [.int (h3 22 15)]) X hH kl_X10_193 ks_J6_bitCount_0f7a4 (mt_J6_bitCount_0f7a4 hq) rfl (by decide) hl.1 rfl (Nat.le_of_ble_eq_true rfl) dX10_plan_134 (fun H locs hH => ?_)
            cases hm
            exact retI X hH dX10_plan_137
          · rw [if_neg hc1] at hm
            by_cases hc2 : a4 = (-2 : Int32)
            · rw [if_pos hc2] at hm
              refine lv_tableIn hx hb dX10_plan_52 (by rw [hc2]; decide) (by rw [hc2]; decide) (off := 49) (by rw [hc2]; rfl) (tgt := 101) (by decide) ?_
              refine lv_aload_n hx hb dX10_plan_101 rfl (lv_at hl 0 rfl) ?_
              refine gR X hH fl_X10_33 lC_0 rfl dX10_plan_102 ?_
              refine lv_aload_n hx hb dX10_plan_105 rfl (lv_at hl 0 rfl) ?_
              refine gR X hH fl_X10_19 lC_0 rfl dX10_plan_106 ?_
              refine lv_aload_n hx hb dX10_plan_109 rfl (lv_at hl 0 rfl) ?_
              refine gR X hH fl_X10_47 lC_0 rfl dX10_plan_110 ?_
              refine lv_aload_n hx hb dX10_plan_113 rfl (lv_at hl 0 rfl) ?_
              refine gR X hH fl_X10_47 lC_0 rfl dX10_plan_114 ?_
              refine gI X hH fl_X10_230 lC_22 rfl dX10_plan_117 ?_
              obtain ⟨v7, hq, hm⟩ := bd1_some hm
              refine cVi X hH kl_X10_236 kv_X6_contactBits (mt_X6_contactBits hq) lC_22 rfl rfl (by decide) hl.1 rfl (Nat.le_of_ble_eq_true rfl) dX10_plan_120 (fun H locs hH => ?_)
              obtain ⟨v9, h8, hq, hm⟩ := bd2_some hm
              refine cVi X hH kl_X10_238 kv_X9_lostByAll (mt_X9_lostByAll hq) lC_15 rfl rfl (by decide) hl.1 rfl (Nat.le_of_ble_eq_true rfl) dX10_plan_123 (fun H locs hH => ?_)
              cases hm
              exact retI X hH dX10_plan_126
            · rw [if_neg hc2] at hm
              by_cases hc3 : a4 = (-1 : Int32)
              · rw [if_pos hc3] at hm
                refine lv_tableIn hx hb dX10_plan_52 (by rw [hc3]; decide) (by rw [hc3]; decide) (off := 32) (by rw [hc3]; rfl) (tgt := 84) (by decide) ?_
                refine lv_aload_n hx hb dX10_plan_84 rfl (lv_at hl 0 rfl) ?_
                refine gR X hH fl_X10_19 lC_0 rfl dX10_plan_85 ?_
                refine lv_aload_n hx hb dX10_plan_88 rfl (lv_at hl 0 rfl) ?_
                refine gR X hH fl_X10_47 lC_0 rfl dX10_plan_89 ?_
                refine gI X hH fl_X10_230 lC_22 rfl dX10_plan_92 ?_
                refine lv_iload_n hx hb dX10_plan_95 rfl (lv_at hl 2 rfl) ?_
                refine lv_ishl hx hb dX10_plan_96 ?_
                obtain ⟨v10, hq, hm⟩ := bd1_some hm
                refine cVi X hH kl_X10_233 kv_X4_volumeOf (mt_X4_volumeOf hq) lC_3 rfl rfl (by decide) hl.1 rfl (Nat.le_of_ble_eq_true rfl) dX10_plan_97 (fun H locs hH => ?_)
                cases hm
                exact retI X hH dX10_plan_100
              · rw [if_neg hc3] at hm
                have q0 := lv_neT (a := -4) hc0 (by decide)
                have q1 := lv_neT (a := -3) hc1 (by decide)
                have q2 := lv_neT (a := -2) hc2 (by decide)
                have q3 := lv_neT (a := -1) hc3 (by decide)
                refine lv_tableOut hx hb dX10_plan_52 (by omega) (tgt := 146) (by decide) ?_
                refine lv_aload_n hx hb dX10_plan_146 rfl (lv_at hl 0 rfl) ?_
                refine gR X hH fl_X10_47 lC_0 rfl dX10_plan_147 ?_
                refine gR X hH fl_X10_245 lC_22 rfl dX10_plan_150 ?_
                refine lv_iload hx hb dX10_plan_153 (lv_at hl 4 rfl) ?_
                obtain ⟨hin4, hm⟩ := gIn_some hm
                refine ild X hH lC_29 hin4 dX10_plan_155 ?_
                obtain ⟨v5, hq, hm⟩ := bd1_some hm
                refine cSi (As := [.int (h3 29 a4.toNatClampNeg)]) X hH kl_X10_171 ks_X10_antennaOrNone (mt_X10_antennaOrNone hq) rfl (by decide) hl.1 rfl (Nat.le_of_ble_eq_true rfl) dX10_plan_156 (fun H locs hH => ?_)
                cases hm
                exact retI X hH dX10_plan_159
      · rw [if_neg hc] at hm
        refine lv_iconst (v := (-1)) hx hb dX10_plan_30 (by decide) ?_
        cases hm
        exact retI X hH dX10_plan_31
/-! X5_covers -/
def mX5_covers (h : Mm) (a1 : Int32) (a2 : Int32) : Option Int32 := gIn a1 24 (if a2 < (h 5 a1.toNatClampNeg) then (some (0 : Int32)) else (gIn a1 24 (if (h 6 a1.toNatClampNeg) < a2 then (some (0 : Int32)) else (some (1 : Int32)))))
set_option maxRecDepth 4000 in
theorem mt_X5_covers {l : Launch} {D : va_G} {ad : Nat → Nat} {ac : Nat → ClassId} {h : Mm} {a1 : Int32} {a2 : Int32} {r : Int32} (hm : mX5_covers h a1 a2 = some r) : Mt l D ad ac LC rlC yX5_covers cX5_covers 3 (some .boolean) 0 [.ref (ad 4), .int a1, .int a2] h (some (.int r)) h := by
  refine Mt.of (own := RX5) (by decide) rfl (Nat.le_of_ble_eq_true rfl) ?_
  intro p e s m below meth c ls X hH hl
  obtain ⟨hx, hb, hml, hown, hts, hr, hlk, hC, hI, hR⟩ := id X
  have hl : lv_has ls 3 [(0, .ref (ad 4)), (1, .int a1), (2, .int a2)] := hl
  rw [mX5_covers] at hm
  refine lv_iload_n hx hb dX5_covers_0 rfl (lv_at hl 2 rfl) ?_
  refine lv_aload_n hx hb dX5_covers_1 rfl (lv_at hl 0 rfl) ?_
  refine gR X hH fl_X5_9 lC_4 rfl dX5_covers_2 ?_
  refine lv_iload_n hx hb dX5_covers_5 rfl (lv_at hl 1 rfl) ?_
  obtain ⟨hin1, hm⟩ := gIn_some hm
  refine ild X hH lC_5 hin1 dX5_covers_6 ?_
  refine lv_icmp_lt hx hb dX5_covers_7 (tgt := 24) (by decide) (fun hc => ?_) (fun hc => ?_)
  · rw [if_pos hc] at hm
    refine lv_iconst (v := 0) hx hb dX5_covers_24 (by decide) ?_
    cases hm
    exact retZ X hH rfl dX5_covers_25
  · rw [if_neg hc] at hm
    refine lv_iload_n hx hb dX5_covers_10 rfl (lv_at hl 2 rfl) ?_
    refine lv_aload_n hx hb dX5_covers_11 rfl (lv_at hl 0 rfl) ?_
    refine gR X hH fl_X5_15 lC_4 rfl dX5_covers_12 ?_
    refine lv_iload_n hx hb dX5_covers_15 rfl (lv_at hl 1 rfl) ?_
    obtain ⟨hin2, hm⟩ := gIn_some hm
    refine ild X hH lC_6 hin2 dX5_covers_16 ?_
    refine lv_icmp_gt hx hb dX5_covers_17 (tgt := 24) (by decide) (fun hc => ?_) (fun hc => ?_)
    · rw [if_pos hc] at hm
      refine lv_iconst (v := 0) hx hb dX5_covers_24 (by decide) ?_
      cases hm
      exact retZ X hH rfl dX5_covers_25
    · rw [if_neg hc] at hm
      refine lv_iconst (v := 1) hx hb dX5_covers_20 (by decide) ?_
      refine lv_goto hx hb dX5_covers_21 (tgt := 25) (by decide) ?_
      cases hm
      exact retZ X hH rfl dX5_covers_25
/-! X10_rate -/
def mX10_rate (h : Mm) (a1 : Int32) (a2 : Int32) : Option Int32 := bd1 (mX5_has h a1) (fun v1 => if v1 = 0 then (some (-1 : Int32)) else (bd1 (mX10_isSlot h a2) (fun v2 => if v2 = 0 then (some (-1 : Int32)) else (bd1 (mX5_covers h a1 a2) (fun v3 => if v3 = 0 then (some (-4 : Int32)) else (bd1 (mX5_rateIn h a1 a2) (fun v4 => some v4)))))))
set_option maxRecDepth 4000 in
theorem mt_X10_rate {l : Launch} {D : va_G} {ad : Nat → Nat} {ac : Nat → ClassId} {h : Mm} {a1 : Int32} {a2 : Int32} {r : Int32} (hm : mX10_rate h a1 a2 = some r) : Mt l D ad ac LC rlC yX10_rate cX10_rate 3 (some .int) 2 [.ref (ad 0), .int a1, .int a2] h (some (.int r)) h := by
  refine Mt.of (own := RX10) (by decide) rfl (Nat.le_of_ble_eq_true rfl) ?_
  intro p e s m below meth c ls X hH hl
  obtain ⟨hx, hb, hml, hown, hts, hr, hlk, hC, hI, hR⟩ := id X
  have hl : lv_has ls 3 [(0, .ref (ad 0)), (1, .int a1), (2, .int a2)] := hl
  rw [mX10_rate] at hm
  refine lv_aload_n hx hb dX10_rate_0 rfl (lv_at hl 0 rfl) ?_
  refine gR X hH fl_X10_19 lC_0 rfl dX10_rate_1 ?_
  refine gR X hH fl_X10_146 lC_3 rfl dX10_rate_4 ?_
  refine lv_iload_n hx hb dX10_rate_7 rfl (lv_at hl 1 rfl) ?_
  obtain ⟨v1, hq, hm⟩ := bd1_some hm
  refine cVi X hH kl_X10_150 kv_X5_has (mt_X5_has hq) lC_4 rfl rfl (by decide) hl.1 rfl (Nat.le_of_ble_eq_true rfl) dX10_rate_8 (fun H locs hH => ?_)
  refine lv_if_eq hx hb dX10_rate_11 (tgt := 21) (by decide) (fun hc => ?_) (fun hc => ?_)
  · rw [if_pos hc] at hm
    refine lv_iconst (v := (-1)) hx hb dX10_rate_21 (by decide) ?_
    cases hm
    exact retI X hH dX10_rate_22
  · rw [if_neg hc] at hm
    refine lv_iload_n hx hb dX10_rate_14 rfl (lv_at hl 2 rfl) ?_
    obtain ⟨v2, hq, hm⟩ := bd1_some hm
    refine cSi (As := [.int a2]) X hH kl_X10_139 ks_X10_isSlot (mt_X10_isSlot hq) rfl (by decide) hl.1 rfl (Nat.le_of_ble_eq_true rfl) dX10_rate_15 (fun H locs hH => ?_)
    refine lv_if_ne hx hb dX10_rate_18 (tgt := 23) (by decide) (fun hc => ?_) (fun hc => ?_)
    · rw [if_neg hc] at hm
      refine lv_aload_n hx hb dX10_rate_23 rfl (lv_at hl 0 rfl) ?_
      refine gR X hH fl_X10_19 lC_0 rfl dX10_rate_24 ?_
      refine gR X hH fl_X10_146 lC_3 rfl dX10_rate_27 ?_
      refine lv_iload_n hx hb dX10_rate_30 rfl (lv_at hl 1 rfl) ?_
      refine lv_iload_n hx hb dX10_rate_31 rfl (lv_at hl 2 rfl) ?_
      obtain ⟨v3, hq, hm⟩ := bd1_some hm
      refine cVi X hH kl_X10_177 kv_X5_covers (mt_X5_covers hq) lC_4 rfl rfl (by decide) hl.1 rfl (Nat.le_of_ble_eq_true rfl) dX10_rate_32 (fun H locs hH => ?_)
      refine lv_if_eq hx hb dX10_rate_35 (tgt := 53) (by decide) (fun hc => ?_) (fun hc => ?_)
      · rw [if_pos hc] at hm
        refine lv_bipush (v := (-4)) hx hb dX10_rate_53 (by decide) ?_
        cases hm
        exact retI X hH dX10_rate_55
      · rw [if_neg hc] at hm
        refine lv_aload_n hx hb dX10_rate_38 rfl (lv_at hl 0 rfl) ?_
        refine gR X hH fl_X10_19 lC_0 rfl dX10_rate_39 ?_
        refine gR X hH fl_X10_146 lC_3 rfl dX10_rate_42 ?_
        refine lv_iload_n hx hb dX10_rate_45 rfl (lv_at hl 1 rfl) ?_
        refine lv_iload_n hx hb dX10_rate_46 rfl (lv_at hl 2 rfl) ?_
        obtain ⟨v4, hq, hm⟩ := bd1_some hm
        refine cVi X hH kl_X10_181 kv_X5_rateIn (mt_X5_rateIn lkC hq) lC_4 rfl rfl (by decide) hl.1 rfl (Nat.le_of_ble_eq_true rfl) dX10_rate_47 (fun H locs hH => ?_)
        refine lv_goto hx hb dX10_rate_50 (tgt := 55) (by decide) ?_
        cases hm
        exact retI X hH dX10_rate_55
    · rw [if_pos hc] at hm
      refine lv_iconst (v := (-1)) hx hb dX10_rate_21 (by decide) ?_
      cases hm
      exact retI X hH dX10_rate_22
/-! X4_passesOfSat -/
def mX4_passesOfSat_34 (h : Mm) (k4 : Int32 → Int32 → Int32 → Option Int32) (x1 : Int32) (x3 : Int32) (t0 : Int32) (t1 : Int32) : Option Int32 := mlet (t1 + t0) (fun u1 => k4 x1 u1 (x3 + 1))
set_option maxRecDepth 4000 in
theorem wX4_passesOfSat_34 {p : Program} {l : Launch} {e : Env} {s : State} {m : MethodId} {args : Array Value} {below : List Frame} {meth : Method} {c : Code} {D : va_G} {ad : Nat → Nat} {ac : Nat → ClassId} {h : Mm} {r : Int32} (X : Fx p s m args meth c cX4_passesOfSat 4 RX4 (some .int) D ad ac LC rlC) {k4 : Int32 → Int32 → Int32 → Option Int32} (ih4 : ∀ (x1 : Int32) (x2 : Int32) (x3 : Int32) (H : Heap) (locs : List Loc) (ls : Array Slot), k4 x1 x2 x3 = some r → Hp D ad ac LC h s H locs → lv_has ls 4 [(0, .ref (ad 3)), (1, .int x1), (2, .int x2), (3, .int x3)] → W p l e (rmD 0) s m args below meth c H locs 0 0 (MQ below (QU D ad ac LC (some (.int r)) h s.heap.size) args s 0 0 (Aa ad LC.length s.heap.size)) (F0 m 4 ls [])) : ∀ (x1 : Int32) (x3 : Int32) (t0 : Int32) (t1 : Int32) (H : Heap) (locs : List Loc) (ls : Array Slot), mX4_passesOfSat_34 h k4 x1 x3 t0 t1 = some r → Hp D ad ac LC h s H locs → lv_has ls 4 [(0, .ref (ad 3)), (1, .int x1), (3, .int x3)] → W p l e (rmD 0) s m args below meth c H locs 0 0 (MQ below (QU D ad ac LC (some (.int r)) h s.heap.size) args s 0 0 (Aa ad LC.length s.heap.size)) (F0 m 34 ls [.int t0, .int t1]) := by
  obtain ⟨hx, hb, hml, hown, hts, hr, hlk, hC, hI, hR⟩ := id X
  intro x1 x3 t0 t1 H locs ls hm hH hl
  rw [mX4_passesOfSat_34] at hm
  refine lv_iadd hx hb dX4_passesOfSat_34 ?_
  obtain ⟨u1, eu1, hm⟩ := mlet_some hm
  refine W.eq (g2 := F0 m 35 ls (.int u1 :: [])) (by rw [eu1]) ?_
  refine lv_istore_n (lv' := [(2, .int u1), (0, .ref (ad 3)), (1, .int x1), (3, .int x3)]) hx hb dX4_passesOfSat_35 rfl hl (by decide) rfl (fun ls hl => ?_)
  refine lv_iinc (k := 3) (v := (x3 + 1)) (lv' := [(3, .int (x3 + 1)), (2, .int u1), (0, .ref (ad 3)), (1, .int x1)]) hx hb dX4_passesOfSat_36 hl rfl rfl (by decide) rfl (fun ls hl => ?_)
  refine lv_goto hx hb dX4_passesOfSat_39 (tgt := 4) (by decide) ?_
  exact ih4 x1 u1 (x3 + 1) _ _ _ hm hH (lv_sub hl [2, 3, 1, 0] rfl)
def mX4_passesOfSat_4 (h : Mm) : Nat → Int32 → Int32 → Int32 → Option Int32
  | 0, _, _, _ => none
  | n + 1, x1, x2, x3 => if (h 4 6) ≤ x3 then (some x2) else (gIn x3 24 (if (h 7 x3.toNatClampNeg) = x1 then (mX4_passesOfSat_34 h (mX4_passesOfSat_4 h n) x1 x3 (1 : Int32) x2) else (mX4_passesOfSat_34 h (mX4_passesOfSat_4 h n) x1 x3 (0 : Int32) x2)))
set_option maxRecDepth 4000 in
theorem wX4_passesOfSat_4 {p : Program} {l : Launch} {e : Env} {s : State} {m : MethodId} {args : Array Value} {below : List Frame} {meth : Method} {c : Code} {D : va_G} {ad : Nat → Nat} {ac : Nat → ClassId} {h : Mm} {r : Int32} (X : Fx p s m args meth c cX4_passesOfSat 4 RX4 (some .int) D ad ac LC rlC) : ∀ (n : Nat) (x1 : Int32) (x2 : Int32) (x3 : Int32) (H : Heap) (locs : List Loc) (ls : Array Slot), mX4_passesOfSat_4 h n x1 x2 x3 = some r → Hp D ad ac LC h s H locs → lv_has ls 4 [(0, .ref (ad 3)), (1, .int x1), (2, .int x2), (3, .int x3)] → W p l e (rmD 0) s m args below meth c H locs 0 0 (MQ below (QU D ad ac LC (some (.int r)) h s.heap.size) args s 0 0 (Aa ad LC.length s.heap.size)) (F0 m 4 ls []) := by
  obtain ⟨hx, hb, hml, hown, hts, hr, hlk, hC, hI, hR⟩ := id X
  intro n
  induction n with
  | zero => intro x1 x2 x3 H locs ls hm; rw [mX4_passesOfSat_4] at hm; cases hm
  | succ n ih =>
    intro x1 x2 x3 H locs ls hm hH hl
    rw [mX4_passesOfSat_4] at hm
    refine lv_iload_n hx hb dX4_passesOfSat_4 rfl (lv_at hl 3 rfl) ?_
    refine lv_aload_n hx hb dX4_passesOfSat_5 rfl (lv_at hl 0 rfl) ?_
    refine gR X hH fl_X4_21 lC_3 rfl dX4_passesOfSat_6 ?_
    refine gI X hH fl_X4_39 lC_4 rfl dX4_passesOfSat_9 ?_
    refine lv_icmp_ge hx hb dX4_passesOfSat_12 (tgt := 42) (by decide) (fun hc => ?_) (fun hc => ?_)
    · rw [if_pos hc] at hm
      refine lv_iload_n hx hb dX4_passesOfSat_42 rfl (lv_at hl 2 rfl) ?_
      cases hm
      exact retI X hH dX4_passesOfSat_43
    · rw [if_neg hc] at hm
      refine lv_iload_n hx hb dX4_passesOfSat_15 rfl (lv_at hl 2 rfl) ?_
      refine lv_aload_n hx hb dX4_passesOfSat_16 rfl (lv_at hl 0 rfl) ?_
      refine gR X hH fl_X4_21 lC_3 rfl dX4_passesOfSat_17 ?_
      refine gR X hH fl_X4_56 lC_4 rfl dX4_passesOfSat_20 ?_
      refine lv_iload_n hx hb dX4_passesOfSat_23 rfl (lv_at hl 3 rfl) ?_
      obtain ⟨hin1, hm⟩ := gIn_some hm
      refine ild X hH lC_7 hin1 dX4_passesOfSat_24 ?_
      refine lv_iload_n hx hb dX4_passesOfSat_25 rfl (lv_at hl 1 rfl) ?_
      refine lv_icmp_ne hx hb dX4_passesOfSat_26 (tgt := 33) (by decide) (fun hc => ?_) (fun hc => ?_)
      · rw [if_neg hc] at hm
        refine lv_iconst (v := 0) hx hb dX4_passesOfSat_33 (by decide) ?_
        exact wX4_passesOfSat_34 X ih x1 x3 (0 : Int32) x2 _ _ _ hm hH (lv_sub hl [0, 1, 3] rfl)
      · rw [if_pos hc] at hm
        refine lv_iconst (v := 1) hx hb dX4_passesOfSat_29 (by decide) ?_
        refine lv_goto hx hb dX4_passesOfSat_30 (tgt := 34) (by decide) ?_
        exact wX4_passesOfSat_34 X ih x1 x3 (1 : Int32) x2 _ _ _ hm hH (lv_sub hl [0, 1, 3] rfl)
def mX4_passesOfSat (h : Mm) (a1 : Int32) : Option Int32 := mX4_passesOfSat_4 h FU a1 (0 : Int32) (0 : Int32)
set_option maxRecDepth 4000 in
theorem mt_X4_passesOfSat {l : Launch} {D : va_G} {ad : Nat → Nat} {ac : Nat → ClassId} {h : Mm} {a1 : Int32} {r : Int32} (hm : mX4_passesOfSat h a1 = some r) : Mt l D ad ac LC rlC yX4_passesOfSat cX4_passesOfSat 4 (some .int) 0 [.ref (ad 3), .int a1] h (some (.int r)) h := by
  refine Mt.of (own := RX4) (by decide) rfl (Nat.le_of_ble_eq_true rfl) ?_
  intro p e s m below meth c ls X hH hl
  obtain ⟨hx, hb, hml, hown, hts, hr, hlk, hC, hI, hR⟩ := id X
  have hl : lv_has ls 4 [(0, .ref (ad 3)), (1, .int a1)] := hl
  rw [mX4_passesOfSat] at hm
  refine lv_iconst (v := 0) hx hb dX4_passesOfSat_0 (by decide) ?_
  refine lv_istore_n (lv' := [(2, .int (0 : Int32)), (0, .ref (ad 3)), (1, .int a1)]) hx hb dX4_passesOfSat_1 rfl hl (by decide) rfl (fun ls hl => ?_)
  refine lv_iconst (v := 0) hx hb dX4_passesOfSat_2 (by decide) ?_
  refine lv_istore_n (lv' := [(3, .int (0 : Int32)), (2, .int (0 : Int32)), (0, .ref (ad 3)), (1, .int a1)]) hx hb dX4_passesOfSat_3 rfl hl (by decide) rfl (fun ls hl => ?_)
  exact wX4_passesOfSat_4 X FU a1 (0 : Int32) (0 : Int32) _ _ _ hm hH (lv_sub hl [2, 3, 1, 0] rfl)
/-! X4_contactsOfSat -/
def mX4_contactsOfSat_47 (h : Mm) (k4 : Int32 → Int32 → Int32 → Option Int32) (x1 : Int32) (x3 : Int32) (t0 : Int32) (t1 : Int32) : Option Int32 := mlet (t1 + t0) (fun u1 => k4 x1 u1 (x3 + 1))
set_option maxRecDepth 4000 in
theorem wX4_contactsOfSat_47 {p : Program} {l : Launch} {e : Env} {s : State} {m : MethodId} {args : Array Value} {below : List Frame} {meth : Method} {c : Code} {D : va_G} {ad : Nat → Nat} {ac : Nat → ClassId} {h : Mm} {r : Int32} (X : Fx p s m args meth c cX4_contactsOfSat 4 RX4 (some .int) D ad ac LC rlC) {k4 : Int32 → Int32 → Int32 → Option Int32} (ih4 : ∀ (x1 : Int32) (x2 : Int32) (x3 : Int32) (H : Heap) (locs : List Loc) (ls : Array Slot), k4 x1 x2 x3 = some r → Hp D ad ac LC h s H locs → lv_has ls 4 [(0, .ref (ad 3)), (1, .int x1), (2, .int x2), (3, .int x3)] → W p l e (rmD 0) s m args below meth c H locs 0 0 (MQ below (QU D ad ac LC (some (.int r)) h s.heap.size) args s 0 0 (Aa ad LC.length s.heap.size)) (F0 m 4 ls [])) : ∀ (x1 : Int32) (x3 : Int32) (t0 : Int32) (t1 : Int32) (H : Heap) (locs : List Loc) (ls : Array Slot), mX4_contactsOfSat_47 h k4 x1 x3 t0 t1 = some r → Hp D ad ac LC h s H locs → lv_has ls 4 [(0, .ref (ad 3)), (1, .int x1), (3, .int x3)] → W p l e (rmD 0) s m args below meth c H locs 0 0 (MQ below (QU D ad ac LC (some (.int r)) h s.heap.size) args s 0 0 (Aa ad LC.length s.heap.size)) (F0 m 47 ls [.int t0, .int t1]) := by
  obtain ⟨hx, hb, hml, hown, hts, hr, hlk, hC, hI, hR⟩ := id X
  intro x1 x3 t0 t1 H locs ls hm hH hl
  rw [mX4_contactsOfSat_47] at hm
  refine lv_iadd hx hb dX4_contactsOfSat_47 ?_
  obtain ⟨u1, eu1, hm⟩ := mlet_some hm
  refine W.eq (g2 := F0 m 48 ls (.int u1 :: [])) (by rw [eu1]) ?_
  refine lv_istore_n (lv' := [(2, .int u1), (0, .ref (ad 3)), (1, .int x1), (3, .int x3)]) hx hb dX4_contactsOfSat_48 rfl hl (by decide) rfl (fun ls hl => ?_)
  refine lv_iinc (k := 3) (v := (x3 + 1)) (lv' := [(3, .int (x3 + 1)), (2, .int u1), (0, .ref (ad 3)), (1, .int x1)]) hx hb dX4_contactsOfSat_49 hl rfl rfl (by decide) rfl (fun ls hl => ?_)
  refine lv_goto hx hb dX4_contactsOfSat_52 (tgt := 4) (by decide) ?_
  exact ih4 x1 u1 (x3 + 1) _ _ _ hm hH (lv_sub hl [2, 3, 1, 0] rfl)
def mX4_contactsOfSat_46 (h : Mm) (k4 : Int32 → Int32 → Int32 → Option Int32) (x1 : Int32) (x3 : Int32) (t0 : Int32) : Option Int32 := mX4_contactsOfSat_47 h k4 x1 x3 (0 : Int32) t0
set_option maxRecDepth 4000 in
theorem wX4_contactsOfSat_46 {p : Program} {l : Launch} {e : Env} {s : State} {m : MethodId} {args : Array Value} {below : List Frame} {meth : Method} {c : Code} {D : va_G} {ad : Nat → Nat} {ac : Nat → ClassId} {h : Mm} {r : Int32} (X : Fx p s m args meth c cX4_contactsOfSat 4 RX4 (some .int) D ad ac LC rlC) {k4 : Int32 → Int32 → Int32 → Option Int32} (ih4 : ∀ (x1 : Int32) (x2 : Int32) (x3 : Int32) (H : Heap) (locs : List Loc) (ls : Array Slot), k4 x1 x2 x3 = some r → Hp D ad ac LC h s H locs → lv_has ls 4 [(0, .ref (ad 3)), (1, .int x1), (2, .int x2), (3, .int x3)] → W p l e (rmD 0) s m args below meth c H locs 0 0 (MQ below (QU D ad ac LC (some (.int r)) h s.heap.size) args s 0 0 (Aa ad LC.length s.heap.size)) (F0 m 4 ls [])) : ∀ (x1 : Int32) (x3 : Int32) (t0 : Int32) (H : Heap) (locs : List Loc) (ls : Array Slot), mX4_contactsOfSat_46 h k4 x1 x3 t0 = some r → Hp D ad ac LC h s H locs → lv_has ls 4 [(0, .ref (ad 3)), (1, .int x1), (3, .int x3)] → W p l e (rmD 0) s m args below meth c H locs 0 0 (MQ below (QU D ad ac LC (some (.int r)) h s.heap.size) args s 0 0 (Aa ad LC.length s.heap.size)) (F0 m 46 ls [.int t0]) := by
  obtain ⟨hx, hb, hml, hown, hts, hr, hlk, hC, hI, hR⟩ := id X
  intro x1 x3 t0 H locs ls hm hH hl
  rw [mX4_contactsOfSat_46] at hm
  refine lv_iconst (v := 0) hx hb dX4_contactsOfSat_46 (by decide) ?_
  exact wX4_contactsOfSat_47 X ih4 x1 x3 (0 : Int32) t0 _ _ _ hm hH (lv_sub hl [0, 1, 2] rfl)
def mX4_contactsOfSat_4 (h : Mm) : Nat → Int32 → Int32 → Int32 → Option Int32
  | 0, _, _, _ => none
  | n + 1, x1, x2, x3 => if (h 4 6) ≤ x3 then (some x2) else (gIn x3 24 (if (h 7 x3.toNatClampNeg) = x1 then (gIn x3 24 (if (h 12 x3.toNatClampNeg) = (-1 : Int32) then (mX4_contactsOfSat_46 h (mX4_contactsOfSat_4 h n) x1 x3 x2) else (mX4_contactsOfSat_47 h (mX4_contactsOfSat_4 h n) x1 x3 (1 : Int32) x2))) else (mX4_contactsOfSat_46 h (mX4_contactsOfSat_4 h n) x1 x3 x2)))
set_option maxRecDepth 4000 in
theorem wX4_contactsOfSat_4 {p : Program} {l : Launch} {e : Env} {s : State} {m : MethodId} {args : Array Value} {below : List Frame} {meth : Method} {c : Code} {D : va_G} {ad : Nat → Nat} {ac : Nat → ClassId} {h : Mm} {r : Int32} (X : Fx p s m args meth c cX4_contactsOfSat 4 RX4 (some .int) D ad ac LC rlC) : ∀ (n : Nat) (x1 : Int32) (x2 : Int32) (x3 : Int32) (H : Heap) (locs : List Loc) (ls : Array Slot), mX4_contactsOfSat_4 h n x1 x2 x3 = some r → Hp D ad ac LC h s H locs → lv_has ls 4 [(0, .ref (ad 3)), (1, .int x1), (2, .int x2), (3, .int x3)] → W p l e (rmD 0) s m args below meth c H locs 0 0 (MQ below (QU D ad ac LC (some (.int r)) h s.heap.size) args s 0 0 (Aa ad LC.length s.heap.size)) (F0 m 4 ls []) := by
  obtain ⟨hx, hb, hml, hown, hts, hr, hlk, hC, hI, hR⟩ := id X
  intro n
  induction n with
  | zero => intro x1 x2 x3 H locs ls hm; rw [mX4_contactsOfSat_4] at hm; cases hm
  | succ n ih =>
    intro x1 x2 x3 H locs ls hm hH hl
    rw [mX4_contactsOfSat_4] at hm
    refine lv_iload_n hx hb dX4_contactsOfSat_4 rfl (lv_at hl 3 rfl) ?_
    refine lv_aload_n hx hb dX4_contactsOfSat_5 rfl (lv_at hl 0 rfl) ?_
    refine gR X hH fl_X4_21 lC_3 rfl dX4_contactsOfSat_6 ?_
    refine gI X hH fl_X4_39 lC_4 rfl dX4_contactsOfSat_9 ?_
    refine lv_icmp_ge hx hb dX4_contactsOfSat_12 (tgt := 55) (by decide) (fun hc => ?_) (fun hc => ?_)
    · rw [if_pos hc] at hm
      refine lv_iload_n hx hb dX4_contactsOfSat_55 rfl (lv_at hl 2 rfl) ?_
      cases hm
      exact retI X hH dX4_contactsOfSat_56
    · rw [if_neg hc] at hm
      refine lv_iload_n hx hb dX4_contactsOfSat_15 rfl (lv_at hl 2 rfl) ?_
      refine lv_aload_n hx hb dX4_contactsOfSat_16 rfl (lv_at hl 0 rfl) ?_
      refine gR X hH fl_X4_21 lC_3 rfl dX4_contactsOfSat_17 ?_
      refine gR X hH fl_X4_56 lC_4 rfl dX4_contactsOfSat_20 ?_
      refine lv_iload_n hx hb dX4_contactsOfSat_23 rfl (lv_at hl 3 rfl) ?_
      obtain ⟨hin1, hm⟩ := gIn_some hm
      refine ild X hH lC_7 hin1 dX4_contactsOfSat_24 ?_
      refine lv_iload_n hx hb dX4_contactsOfSat_25 rfl (lv_at hl 1 rfl) ?_
      refine lv_icmp_ne hx hb dX4_contactsOfSat_26 (tgt := 46) (by decide) (fun hc => ?_) (fun hc => ?_)
      · rw [if_neg hc] at hm
        exact wX4_contactsOfSat_46 X ih x1 x3 x2 _ _ _ hm hH (lv_sub hl [0, 1, 3] rfl)
      · rw [if_pos hc] at hm
        refine lv_aload_n hx hb dX4_contactsOfSat_29 rfl (lv_at hl 0 rfl) ?_
        refine gR X hH fl_X4_28 lC_3 rfl dX4_contactsOfSat_30 ?_
        refine gR X hH fl_X4_49 lC_11 rfl dX4_contactsOfSat_33 ?_
        refine lv_iload_n hx hb dX4_contactsOfSat_36 rfl (lv_at hl 3 rfl) ?_
        obtain ⟨hin2, hm⟩ := gIn_some hm
        refine ild X hH lC_12 hin2 dX4_contactsOfSat_37 ?_
        refine lv_iconst (v := (-1)) hx hb dX4_contactsOfSat_38 (by decide) ?_
        refine lv_icmp_eq hx hb dX4_contactsOfSat_39 (tgt := 46) (by decide) (fun hc => ?_) (fun hc => ?_)
        · rw [if_pos hc] at hm
          exact wX4_contactsOfSat_46 X ih x1 x3 x2 _ _ _ hm hH (lv_sub hl [0, 1, 3] rfl)
        · rw [if_neg hc] at hm
          refine lv_iconst (v := 1) hx hb dX4_contactsOfSat_42 (by decide) ?_
          refine lv_goto hx hb dX4_contactsOfSat_43 (tgt := 47) (by decide) ?_
          exact wX4_contactsOfSat_47 X ih x1 x3 (1 : Int32) x2 _ _ _ hm hH (lv_sub hl [0, 1, 3] rfl)
def mX4_contactsOfSat (h : Mm) (a1 : Int32) : Option Int32 := mX4_contactsOfSat_4 h FU a1 (0 : Int32) (0 : Int32)
set_option maxRecDepth 4000 in
theorem mt_X4_contactsOfSat {l : Launch} {D : va_G} {ad : Nat → Nat} {ac : Nat → ClassId} {h : Mm} {a1 : Int32} {r : Int32} (hm : mX4_contactsOfSat h a1 = some r) : Mt l D ad ac LC rlC yX4_contactsOfSat cX4_contactsOfSat 4 (some .int) 0 [.ref (ad 3), .int a1] h (some (.int r)) h := by
  refine Mt.of (own := RX4) (by decide) rfl (Nat.le_of_ble_eq_true rfl) ?_
  intro p e s m below meth c ls X hH hl
  obtain ⟨hx, hb, hml, hown, hts, hr, hlk, hC, hI, hR⟩ := id X
  have hl : lv_has ls 4 [(0, .ref (ad 3)), (1, .int a1)] := hl
  rw [mX4_contactsOfSat] at hm
  refine lv_iconst (v := 0) hx hb dX4_contactsOfSat_0 (by decide) ?_
  refine lv_istore_n (lv' := [(2, .int (0 : Int32)), (0, .ref (ad 3)), (1, .int a1)]) hx hb dX4_contactsOfSat_1 rfl hl (by decide) rfl (fun ls hl => ?_)
  refine lv_iconst (v := 0) hx hb dX4_contactsOfSat_2 (by decide) ?_
  refine lv_istore_n (lv' := [(3, .int (0 : Int32)), (2, .int (0 : Int32)), (0, .ref (ad 3)), (1, .int a1)]) hx hb dX4_contactsOfSat_3 rfl hl (by decide) rfl (fun ls hl => ?_)
  exact wX4_contactsOfSat_4 X FU a1 (0 : Int32) (0 : Int32) _ _ _ hm hH (lv_sub hl [2, 3, 1, 0] rfl)
/-! X10_sat -/
def mX10_sat (h : Mm) (a1 : Int32) (a2 : Int32) : Option Int32 := bd1 (mX2_has_31 h a1) (fun v1 => if v1 = 0 then (some (-1 : Int32)) else (if a2 < 0 then (some (-1 : Int32)) else (if a2 ≤ (6 : Int32) then (if a2 = (5 : Int32) then (bd1 (mX4_passesOfSat h a1) (fun v3 => some v3)) else (if a2 = (6 : Int32) then (bd1 (mX4_contactsOfSat h a1) (fun v4 => some v4)) else (bd1 (mX2_number_31 h a1 a2) (fun v2 => some v2)))) else (some (-1 : Int32)))))
set_option maxRecDepth 4000 in
theorem mt_X10_sat {l : Launch} {D : va_G} {ad : Nat → Nat} {ac : Nat → ClassId} {h : Mm} {a1 : Int32} {a2 : Int32} {r : Int32} (hm : mX10_sat h a1 a2 = some r) : Mt l D ad ac LC rlC yX10_sat cX10_sat 3 (some .int) 1 [.ref (ad 0), .int a1, .int a2] h (some (.int r)) h := by
  refine Mt.of (own := RX10) (by decide) rfl (Nat.le_of_ble_eq_true rfl) ?_
  intro p e s m below meth c ls X hH hl
  obtain ⟨hx, hb, hml, hown, hts, hr, hlk, hC, hI, hR⟩ := id X
  have hl : lv_has ls 3 [(0, .ref (ad 0)), (1, .int a1), (2, .int a2)] := hl
  rw [mX10_sat] at hm
  refine lv_aload_n hx hb dX10_sat_0 rfl (lv_at hl 0 rfl) ?_
  refine gR X hH fl_X10_19 lC_0 rfl dX10_sat_1 ?_
  refine gR X hH fl_X10_87 lC_3 rfl dX10_sat_4 ?_
  refine gR X hH fl_X10_90 lC_30 rfl dX10_sat_7 ?_
  refine lv_iload_n hx hb dX10_sat_10 rfl (lv_at hl 1 rfl) ?_
  obtain ⟨v1, hq, hm⟩ := bd1_some hm
  refine cVi X hH kl_X10_94 kv_X2_has (mt_X2_has_31 hq) lC_31 rfl rfl (by decide) hl.1 rfl (Nat.le_of_ble_eq_true rfl) dX10_sat_11 (fun H locs hH => ?_)
  refine lv_if_eq hx hb dX10_sat_14 (tgt := 27) (by decide) (fun hc => ?_) (fun hc => ?_)
  · rw [if_pos hc] at hm
    refine lv_iconst (v := (-1)) hx hb dX10_sat_27 (by decide) ?_
    cases hm
    exact retI X hH dX10_sat_28
  · rw [if_neg hc] at hm
    refine lv_iload_n hx hb dX10_sat_17 rfl (lv_at hl 2 rfl) ?_
    refine lv_if_lt hx hb dX10_sat_18 (tgt := 27) (by decide) (fun hc => ?_) (fun hc => ?_)
    · rw [if_pos hc] at hm
      refine lv_iconst (v := (-1)) hx hb dX10_sat_27 (by decide) ?_
      cases hm
      exact retI X hH dX10_sat_28
    · rw [if_neg hc] at hm
      refine lv_iload_n hx hb dX10_sat_21 rfl (lv_at hl 2 rfl) ?_
      refine lv_bipush (v := 6) hx hb dX10_sat_22 (by decide) ?_
      refine lv_icmp_le hx hb dX10_sat_24 (tgt := 29) (by decide) (fun hc => ?_) (fun hc => ?_)
      · rw [if_pos hc] at hm
        refine lv_iload_n hx hb dX10_sat_29 rfl (lv_at hl 2 rfl) ?_
        by_cases hc0 : a2 = (5 : Int32)
        · rw [if_pos hc0] at hm
          refine lv_lookup hx hb dX10_sat_30 (by decide) (off := 26) (by rw [hc0]; rfl) (tgt := 56) (by decide) ?_
          refine lv_aload_n hx hb dX10_sat_56 rfl (lv_at hl 0 rfl) ?_
          refine gR X hH fl_X10_19 lC_0 rfl dX10_sat_57 ?_
          refine lv_iload_n hx hb dX10_sat_60 rfl (lv_at hl 1 rfl) ?_
          obtain ⟨v3, hq, hm⟩ := bd1_some hm
          refine cVi X hH kl_X10_100 kv_X4_passesOfSat (mt_X4_passesOfSat hq) lC_3 rfl rfl (by decide) hl.1 rfl (Nat.le_of_ble_eq_true rfl) dX10_sat_61 (fun H locs hH => ?_)
          cases hm
          exact retI X hH dX10_sat_64
        · rw [if_neg hc0] at hm
          by_cases hc1 : a2 = (6 : Int32)
          · rw [if_pos hc1] at hm
            refine lv_lookup hx hb dX10_sat_30 (by decide) (off := 35) (by rw [hc1]; rfl) (tgt := 65) (by decide) ?_
            refine lv_aload_n hx hb dX10_sat_65 rfl (lv_at hl 0 rfl) ?_
            refine gR X hH fl_X10_19 lC_0 rfl dX10_sat_66 ?_
            refine lv_iload_n hx hb dX10_sat_69 rfl (lv_at hl 1 rfl) ?_
            obtain ⟨v4, hq, hm⟩ := bd1_some hm
            refine cVi X hH kl_X10_104 kv_X4_contactsOfSat (mt_X4_contactsOfSat hq) lC_3 rfl rfl (by decide) hl.1 rfl (Nat.le_of_ble_eq_true rfl) dX10_sat_70 (fun H locs hH => ?_)
            cases hm
            exact retI X hH dX10_sat_73
          · rw [if_neg hc1] at hm
            refine lv_lookup hx hb dX10_sat_30 (by decide) (off := 44) (by refine (lv_osw hc0 (by decide)).trans ?_; refine (lv_osw hc1 (by decide)).trans ?_; rfl) (tgt := 74) (by decide) ?_
            refine lv_aload_n hx hb dX10_sat_74 rfl (lv_at hl 0 rfl) ?_
            refine gR X hH fl_X10_19 lC_0 rfl dX10_sat_75 ?_
            refine gR X hH fl_X10_87 lC_3 rfl dX10_sat_78 ?_
            refine gR X hH fl_X10_90 lC_30 rfl dX10_sat_81 ?_
            refine lv_iload_n hx hb dX10_sat_84 rfl (lv_at hl 1 rfl) ?_
            refine lv_iload_n hx hb dX10_sat_85 rfl (lv_at hl 2 rfl) ?_
            obtain ⟨v2, hq, hm⟩ := bd1_some hm
            refine cVi X hH kl_X10_107 kv_X2_number (mt_X2_number_31 hq) lC_31 rfl rfl (by decide) hl.1 rfl (Nat.le_of_ble_eq_true rfl) dX10_sat_86 (fun H locs hH => ?_)
            cases hm
            exact retI X hH dX10_sat_89
      · rw [if_neg hc] at hm
        refine lv_iconst (v := (-1)) hx hb dX10_sat_27 (by decide) ?_
        cases hm
        exact retI X hH dX10_sat_28
/-! X2_has_37 -/
def mX2_has_37 (h : Mm) (a1 : Int32) : Option Int32 := if a1 < 0 then (some (0 : Int32)) else (if (h 37 3) ≤ a1 then (some (0 : Int32)) else (some (1 : Int32)))
set_option maxRecDepth 4000 in
theorem mt_X2_has_37 {l : Launch} {D : va_G} {ad : Nat → Nat} {ac : Nat → ClassId} {h : Mm} {a1 : Int32} {r : Int32} (hm : mX2_has_37 h a1 = some r) : Mt l D ad ac LC rlC yX2_has cX2_has 2 (some .boolean) 0 [.ref (ad 37), .int a1] h (some (.int r)) h := by
  refine Mt.of (own := RX2) (by decide) rfl (Nat.le_of_ble_eq_true rfl) ?_
  intro p e s m below meth c ls X hH hl
  obtain ⟨hx, hb, hml, hown, hts, hr, hlk, hC, hI, hR⟩ := id X
  have hl : lv_has ls 2 [(0, .ref (ad 37)), (1, .int a1)] := hl
  rw [mX2_has_37] at hm
  refine lv_iload_n hx hb dX2_has_0 rfl (lv_at hl 1 rfl) ?_
  refine lv_if_lt hx hb dX2_has_1 (tgt := 16) (by decide) (fun hc => ?_) (fun hc => ?_)
  · rw [if_pos hc] at hm
    refine lv_iconst (v := 0) hx hb dX2_has_16 (by decide) ?_
    cases hm
    exact retZ X hH rfl dX2_has_17
  · rw [if_neg hc] at hm
    refine lv_iload_n hx hb dX2_has_4 rfl (lv_at hl 1 rfl) ?_
    refine lv_aload_n hx hb dX2_has_5 rfl (lv_at hl 0 rfl) ?_
    refine gI X hH fl_X2_21 lC_37 rfl dX2_has_6 ?_
    refine lv_icmp_ge hx hb dX2_has_9 (tgt := 16) (by decide) (fun hc => ?_) (fun hc => ?_)
    · rw [if_pos hc] at hm
      refine lv_iconst (v := 0) hx hb dX2_has_16 (by decide) ?_
      cases hm
      exact retZ X hH rfl dX2_has_17
    · rw [if_neg hc] at hm
      refine lv_iconst (v := 1) hx hb dX2_has_12 (by decide) ?_
      refine lv_goto hx hb dX2_has_13 (tgt := 17) (by decide) ?_
      cases hm
      exact retZ X hH rfl dX2_has_17
/-! X2_number_37 -/
def mX2_number_37 (h : Mm) (a1 : Int32) (a2 : Int32) : Option Int32 := gIn a1 3 (gIn a2 2 (some (h (39 + a1.toNatClampNeg) a2.toNatClampNeg)))
set_option maxRecDepth 4000 in
theorem mt_X2_number_37 {l : Launch} {D : va_G} {ad : Nat → Nat} {ac : Nat → ClassId} {h : Mm} {a1 : Int32} {a2 : Int32} {r : Int32} (hm : mX2_number_37 h a1 a2 = some r) : Mt l D ad ac LC rlC yX2_number cX2_number 3 (some .int) 0 [.ref (ad 37), .int a1, .int a2] h (some (.int r)) h := by
  refine Mt.of (own := RX2) (by decide) rfl (Nat.le_of_ble_eq_true rfl) ?_
  intro p e s m below meth c ls X hH hl
  obtain ⟨hx, hb, hml, hown, hts, hr, hlk, hC, hI, hR⟩ := id X
  have hl : lv_has ls 3 [(0, .ref (ad 37)), (1, .int a1), (2, .int a2)] := hl
  rw [mX2_number_37] at hm
  refine lv_aload_n hx hb dX2_number_0 rfl (lv_at hl 0 rfl) ?_
  refine gR X hH fl_X2_18 lC_37 rfl dX2_number_1 ?_
  refine lv_iload_n hx hb dX2_number_4 rfl (lv_at hl 1 rfl) ?_
  obtain ⟨hin1, hm⟩ := gIn_some hm
  refine ald X hH lC_38 (Or.inr rfl) (fun q => hin1 (Or.inl q)) (gk_38 hin1) dX2_number_5 ?_
  refine lv_iload_n hx hb dX2_number_6 rfl (lv_at hl 2 rfl) ?_
  obtain ⟨hin2, hm⟩ := gIn_some hm
  refine ild X hH (gl_38 (vp_lt hin1)) hin2 dX2_number_7 ?_
  cases hm
  exact retI X hH dX2_number_8
/-! J9_floorMod_7cf53 -/
def mJ9_floorMod_7cf53 (h : Mm) (a0 : Int32) (a1 : Int32) : Option Int32 := gNz a1 (mlet (a0 - a0 / a1 * a1) (fun u1 => if 0 ≤ (a0 ^^^ a1) then (some u1) else (if u1 = 0 then (some u1) else (some (u1 + a1)))))
set_option maxRecDepth 4000 in
theorem mt_J9_floorMod_7cf53 {l : Launch} {D : va_G} {ad : Nat → Nat} {ac : Nat → ClassId} {L : List CD} {rl : RomL} {h : Mm} {a0 : Int32} {a1 : Int32} {r : Int32} (hm : mJ9_floorMod_7cf53 h a0 a1 = some r) : Mt l D ad ac L rl yJ9_floorMod_7cf53 cJ9_floorMod_7cf53 3 (some .int) 0 [.int a0, .int a1] h (some (.int r)) h := by
  refine Mt.ofF (own := RJ9) pf_J9_floorMod_7cf53 rfl (Nat.le_of_ble_eq_true rfl) ?_
  intro p e s m below meth c ls X hH hl
  obtain ⟨hx, hb, hml, hown, hts, hr, hlk, hC, hI, hR⟩ := id X
  have hl : lv_has ls 3 [(0, .int a0), (1, .int a1)] := hl
  rw [mJ9_floorMod_7cf53] at hm
  refine lv_iload_n hx hb dJ9_floorMod_7cf53_0 rfl (lv_at hl 0 rfl) ?_
  refine lv_iload_n hx hb dJ9_floorMod_7cf53_1 rfl (lv_at hl 1 rfl) ?_
  obtain ⟨hnz, hm⟩ := gNz_some hm
  refine lv_irem hx hb dJ9_floorMod_7cf53_2 hnz ?_
  obtain ⟨u1, eu1, hm⟩ := mlet_some hm
  refine W.eq (g2 := F0 m 3 ls (.int u1 :: [])) (by rw [eu1]) ?_
  refine lv_istore_n (lv' := [(2, .int u1), (0, .int a0), (1, .int a1)]) hx hb dJ9_floorMod_7cf53_3 rfl hl (by decide) rfl (fun ls hl => ?_)
  refine lv_iload_n hx hb dJ9_floorMod_7cf53_4 rfl (lv_at hl 1 rfl) ?_
  refine lv_iload_n hx hb dJ9_floorMod_7cf53_5 rfl (lv_at hl 2 rfl) ?_
  refine lv_ixor hx hb dJ9_floorMod_7cf53_6 ?_
  refine lv_if_ge hx hb dJ9_floorMod_7cf53_7 (tgt := 18) (by decide) (fun hc => ?_) (fun hc => ?_)
  · rw [if_pos hc] at hm
    refine lv_iload_n hx hb dJ9_floorMod_7cf53_18 rfl (lv_at hl 0 rfl) ?_
    cases hm
    exact retI X hH dJ9_floorMod_7cf53_19
  · rw [if_neg hc] at hm
    refine lv_iload_n hx hb dJ9_floorMod_7cf53_10 rfl (lv_at hl 0 rfl) ?_
    refine lv_if_eq hx hb dJ9_floorMod_7cf53_11 (tgt := 18) (by decide) (fun hc => ?_) (fun hc => ?_)
    · rw [if_pos hc] at hm
      refine lv_iload_n hx hb dJ9_floorMod_7cf53_18 rfl (lv_at hl 0 rfl) ?_
      cases hm
      exact retI X hH dJ9_floorMod_7cf53_19
    · rw [if_neg hc] at hm
      refine lv_iload_n hx hb dJ9_floorMod_7cf53_14 rfl (lv_at hl 0 rfl) ?_
      refine lv_iload_n hx hb dJ9_floorMod_7cf53_15 rfl (lv_at hl 2 rfl) ?_
      refine lv_iadd hx hb dJ9_floorMod_7cf53_16 ?_
      cases hm
      exact retI X hH dJ9_floorMod_7cf53_17
/-! X7_sees_30 -/
def mX7_sees_30 (h : Mm) (a1 : Int32) (a2 : Int32) (a3 : Int32) : Option Int32 := bd1 (mX2_number_31 h a1 (1 : Int32)) (fun v1 => bd1 (mX2_number_31 h a1 (0 : Int32)) (fun v2 => bd1 (mX2_number_37 h a2 (0 : Int32)) (fun v3 => mlet ((a3 - v2) - v3) (fun u4 => if v1 ≤ 0 then (some (0 : Int32)) else (bd1 (mJ9_floorMod_7cf53 h u4 v1) (fun v5 => bd1 (mX2_number_37 h a2 (1 : Int32)) (fun v6 => if v6 ≤ v5 then (some (0 : Int32)) else (some (1 : Int32)))))))))
set_option maxRecDepth 4000 in
theorem mt_X7_sees_30 {l : Launch} {D : va_G} {ad : Nat → Nat} {ac : Nat → ClassId} {h : Mm} {a1 : Int32} {a2 : Int32} {a3 : Int32} {r : Int32} (hm : mX7_sees_30 h a1 a2 a3 = some r) : Mt l D ad ac LC rlC yX7_sees cX7_sees 6 (some .boolean) 1 [.ref (ad 30), .int a1, .int a2, .int a3] h (some (.int r)) h := by
  refine Mt.of (own := RX7) (by decide) rfl (Nat.le_of_ble_eq_true rfl) ?_
  intro p e s m below meth c ls X hH hl
  obtain ⟨hx, hb, hml, hown, hts, hr, hlk, hC, hI, hR⟩ := id X
  have hl : lv_has ls 6 [(0, .ref (ad 30)), (1, .int a1), (2, .int a2), (3, .int a3)] := hl
  rw [mX7_sees_30] at hm
  refine lv_aload_n hx hb dX7_sees_0 rfl (lv_at hl 0 rfl) ?_
  refine gR X hH fl_X7_21 lC_30 rfl dX7_sees_1 ?_
  refine lv_iload_n hx hb dX7_sees_4 rfl (lv_at hl 1 rfl) ?_
  refine lv_iconst (v := 1) hx hb dX7_sees_5 (by decide) ?_
  obtain ⟨v1, hq, hm⟩ := bd1_some hm
  refine cVi X hH kl_X7_94 kv_X2_number (mt_X2_number_31 hq) lC_31 rfl rfl (by decide) hl.1 rfl (Nat.le_of_ble_eq_true rfl) dX7_sees_6 (fun H locs hH => ?_)
  refine lv_istore (lv' := [(4, .int v1), (0, .ref (ad 30)), (1, .int a1), (2, .int a2), (3, .int a3)]) hx hb dX7_sees_9 hl (by decide) rfl (fun ls hl => ?_)
  refine lv_iload_n hx hb dX7_sees_11 rfl (lv_at hl 4 rfl) ?_
  refine lv_aload_n hx hb dX7_sees_12 rfl (lv_at hl 1 rfl) ?_
  refine gR X hH fl_X7_21 lC_30 rfl dX7_sees_13 ?_
  refine lv_iload_n hx hb dX7_sees_16 rfl (lv_at hl 2 rfl) ?_
  refine lv_iconst (v := 0) hx hb dX7_sees_17 (by decide) ?_
  obtain ⟨v2, hq, hm⟩ := bd1_some hm
  refine cVi X hH kl_X7_94 kv_X2_number (mt_X2_number_31 hq) lC_31 rfl rfl (by decide) hl.1 rfl (Nat.le_of_ble_eq_true rfl) dX7_sees_18 (fun H locs hH => ?_)
  refine lv_isub hx hb dX7_sees_21 ?_
  refine lv_aload_n hx hb dX7_sees_22 rfl (lv_at hl 1 rfl) ?_
  refine gR X hH fl_X7_33 lC_30 rfl dX7_sees_23 ?_
  refine lv_iload_n hx hb dX7_sees_26 rfl (lv_at hl 3 rfl) ?_
  refine lv_iconst (v := 0) hx hb dX7_sees_27 (by decide) ?_
  obtain ⟨v3, hq, hm⟩ := bd1_some hm
  refine cVi X hH kl_X7_94 kv_X2_number (mt_X2_number_37 hq) lC_37 rfl rfl (by decide) hl.1 rfl (Nat.le_of_ble_eq_true rfl) dX7_sees_28 (fun H locs hH => ?_)
  refine lv_isub hx hb dX7_sees_31 ?_
  obtain ⟨u4, eu4, hm⟩ := mlet_some hm
  refine W.eq (g2 := F0 m 32 ls (.int u4 :: [])) (by rw [eu4]) ?_
  refine lv_istore (lv' := [(5, .int u4), (4, .int v1), (0, .ref (ad 30)), (1, .int a1), (2, .int a2), (3, .int a3)]) hx hb dX7_sees_32 hl (by decide) rfl (fun ls hl => ?_)
  refine lv_iload hx hb dX7_sees_34 (lv_at hl 1 rfl) ?_
  refine lv_if_le hx hb dX7_sees_36 (tgt := 62) (by decide) (fun hc => ?_) (fun hc => ?_)
  · rw [if_pos hc] at hm
    refine lv_iconst (v := 0) hx hb dX7_sees_62 (by decide) ?_
    cases hm
    exact retZ X hH rfl dX7_sees_63
  · rw [if_neg hc] at hm
    refine lv_iload hx hb dX7_sees_39 (lv_at hl 0 rfl) ?_
    refine lv_iload hx hb dX7_sees_41 (lv_at hl 1 rfl) ?_
    obtain ⟨v5, hq, hm⟩ := bd1_some hm
    refine cSi (As := [.int u4, .int v1]) X hH kl_X7_97 ks_J9_floorMod_7cf53 (mt_J9_floorMod_7cf53 hq) rfl (by decide) hl.1 rfl (Nat.le_of_ble_eq_true rfl) dX7_sees_43 (fun H locs hH => ?_)
    refine lv_aload_n hx hb dX7_sees_46 rfl (lv_at hl 2 rfl) ?_
    refine gR X hH fl_X7_33 lC_30 rfl dX7_sees_47 ?_
    refine lv_iload_n hx hb dX7_sees_50 rfl (lv_at hl 4 rfl) ?_
    refine lv_iconst (v := 1) hx hb dX7_sees_51 (by decide) ?_
    obtain ⟨v6, hq, hm⟩ := bd1_some hm
    refine cVi X hH kl_X7_94 kv_X2_number (mt_X2_number_37 hq) lC_37 rfl rfl (by decide) hl.1 rfl (Nat.le_of_ble_eq_true rfl) dX7_sees_52 (fun H locs hH => ?_)
    refine lv_icmp_ge hx hb dX7_sees_55 (tgt := 62) (by decide) (fun hc => ?_) (fun hc => ?_)
    · rw [if_pos hc] at hm
      refine lv_iconst (v := 0) hx hb dX7_sees_62 (by decide) ?_
      cases hm
      exact retZ X hH rfl dX7_sees_63
    · rw [if_neg hc] at hm
      refine lv_iconst (v := 1) hx hb dX7_sees_58 (by decide) ?_
      refine lv_goto hx hb dX7_sees_59 (tgt := 63) (by decide) ?_
      cases hm
      exact retZ X hH rfl dX7_sees_63
