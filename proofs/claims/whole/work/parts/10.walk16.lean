/-! X11_item -/
def mX11_item_53 (x2 : Int32) (t0 : Int32) (t1 : Int32) (h : Mm) : Option (Int32 × Mm) := if t1 = t0 then (some ((0 : Int32), h)) else (gIn x2 3 (mlet (h 9 x2.toNatClampNeg) (fun u2 => gIn x2 3 (gIn x2 3 (mlet (wr h 9 x2.toNatClampNeg ((h 9 x2.toNatClampNeg) + (1 : Int32))) (fun h4 => if x2 = (0 : Int32) then (bd2 (mX11_number_0_6 h4 (0 : Int32) (0 : Int32) (59 : Int32) ((5 : Int32) * u2)) (fun v14 h13 => if v14 = 0 then (some ((0 : Int32), h13)) else (bd2 (mX11_number_0_6 h13 (44 : Int32) (6 : Int32) (60 : Int32) (((5 : Int32) * u2) + (1 : Int32))) (fun v16 h15 => if v16 = 0 then (some ((0 : Int32), h15)) else (bd2 (mX11_number_0_6 h15 (44 : Int32) (0 : Int32) (1 : Int32) (((5 : Int32) * u2) + (2 : Int32))) (fun v18 h17 => if v18 = 0 then (some ((0 : Int32), h17)) else (bd2 (mX11_number_0_6 h17 (44 : Int32) (1 : Int32) (99 : Int32) (((5 : Int32) * u2) + (3 : Int32))) (fun v20 h19 => if v20 = 0 then (some ((0 : Int32), h19)) else (bd2 (mX11_number_0_6 h19 (44 : Int32) (0 : Int32) (9 : Int32) (((5 : Int32) * u2) + (4 : Int32))) (fun v22 h21 => if v22 = 0 then (some ((0 : Int32), h21)) else (some ((1 : Int32), h21)))))))))))) else (if x2 = (1 : Int32) then (bd2 (mX11_number_0_7 h4 (0 : Int32) (0 : Int32) (59 : Int32) ((2 : Int32) * u2)) (fun v24 h23 => if v24 = 0 then (some ((0 : Int32), h23)) else (bd2 (mX11_number_0_7 h23 (44 : Int32) (1 : Int32) (9 : Int32) (((2 : Int32) * u2) + (1 : Int32))) (fun v26 h25 => if v26 = 0 then (some ((0 : Int32), h25)) else (some ((1 : Int32), h25)))))) else (gIn (1 : Int32) 3 (bd2 (mX11_number_0_8 h4 (0 : Int32) (0 : Int32) ((h4 9 (1 : Int32).toNatClampNeg) - (1 : Int32)) ((3 : Int32) * u2)) (fun v8 h7 => if v8 = 0 then (some ((0 : Int32), h7)) else (bd2 (mX11_number_0_8 h7 (44 : Int32) (0 : Int32) (2 : Int32) (((3 : Int32) * u2) + (1 : Int32))) (fun v10 h9 => if v10 = 0 then (some ((0 : Int32), h9)) else (bd2 (mX11_number_0_8 h9 (44 : Int32) (0 : Int32) (5 : Int32) (((3 : Int32) * u2) + (2 : Int32))) (fun v12 h11 => if v12 = 0 then (some ((0 : Int32), h11)) else (some ((1 : Int32), h11))))))))))))))))
set_option maxRecDepth 4000 in
theorem wX11_item_53 {p : Program} {l : Launch} {e : Env} {s : State} {m : MethodId} {args : Array Value} {below : List Frame} {meth : Method} {c : Code} {D : va_G} {ad : Nat → Nat} {ac : Nat → ClassId} {r : Int32} {h' : Mm} (X : Fx p s m args meth c cX11_item 4 RX11 (some .boolean) D ad ac LM []) : ∀ (x2 : Int32) (t0 : Int32) (t1 : Int32) (h : Mm) (H : Heap) (locs : List Loc) (ls : Array Slot), mX11_item_53 x2 t0 t1 h = some (r, h') → Hp D ad ac LM h s H locs → lv_has ls 4 [(0, .ref (ad 0)), (2, .int x2)] → W p l e (rmD 2) s m args below meth c H locs 0 0 (MQ below (QU D ad ac LM (some (.int r)) h' s.heap.size) args s 0 0 (Aa ad LM.length s.heap.size)) (F0 m 53 ls [.int t0, .int t1]) := by
  obtain ⟨hx, hb, hml, hown, hts, hr, hlk, hC, hI, hR⟩ := id X
  intro x2 t0 t1 h H locs ls hm hH hl
  rw [mX11_item_53] at hm
  refine lv_icmp_ne hx hb dX11_item_53 (tgt := 58) (by decide) (fun hc => ?_) (fun hc => ?_)
  · rw [if_neg hc] at hm
    refine lv_aload_n hx hb dX11_item_58 rfl (lv_at hl 0 rfl) ?_
    refine gR X hH fl_X11_34 lM_0 rfl dX11_item_59 ?_
    refine lv_iload_n hx hb dX11_item_62 rfl (lv_at hl 1 rfl) ?_
    obtain ⟨hin1, hm⟩ := gIn_some hm
    refine ild X hH lM_9 hin1 dX11_item_63 ?_
    obtain ⟨u2, eu2, hm⟩ := mlet_some hm
    refine W.eq (g2 := F0 m 64 ls (.int u2 :: [])) (by rw [eu2]) ?_
    refine lv_istore_n (lv' := [(3, .int u2), (0, .ref (ad 0)), (2, .int x2)]) hx hb dX11_item_64 rfl hl (by decide) rfl (fun ls hl => ?_)
    refine lv_aload_n hx hb dX11_item_65 rfl (lv_at hl 1 rfl) ?_
    refine gR X hH fl_X11_34 lM_0 rfl dX11_item_66 ?_
    refine lv_iload_n hx hb dX11_item_69 rfl (lv_at hl 2 rfl) ?_
    refine lv_dup2_11 hx hb dX11_item_70 rfl rfl ?_
    obtain ⟨hin3, hm⟩ := gIn_some hm
    refine ild X hH lM_9 hin3 dX11_item_71 ?_
    refine lv_iconst (v := 1) hx hb dX11_item_72 (by decide) ?_
    refine lv_iadd hx hb dX11_item_73 ?_
    obtain ⟨hin5, hm⟩ := gIn_some hm
    obtain ⟨h4, eh4, hm⟩ := mlet_some hm
    refine ist X hH lM_9 hin5 dX11_item_74 (fun H locs hH => ?_)
    rw [← eh4] at hH
    refine lv_iload_n hx hb dX11_item_75 rfl (lv_at hl 2 rfl) ?_
    by_cases hc0 : x2 = (0 : Int32)
    · rw [if_pos hc0] at hm
      refine lv_lookup hx hb dX11_item_76 (by decide) (off := 28) (by rw [hc0]; rfl) (tgt := 104) (by decide) ?_
      refine lv_aload_n hx hb dX11_item_104 rfl (lv_at hl 1 rfl) ?_
      refine lv_iconst (v := 0) hx hb dX11_item_105 (by decide) ?_
      refine lv_iconst (v := 0) hx hb dX11_item_106 (by decide) ?_
      refine lv_bipush (v := 59) hx hb dX11_item_107 (by decide) ?_
      refine lv_aload_n hx hb dX11_item_109 rfl (lv_at hl 1 rfl) ?_
      refine gR X hH fl_X11_25 lM_0 rfl dX11_item_110 ?_
      refine lv_iconst (v := 5) hx hb dX11_item_113 (by decide) ?_
      refine lv_iload_n hx hb dX11_item_114 rfl (lv_at hl 0 rfl) ?_
      refine lv_imul hx hb dX11_item_115 ?_
      obtain ⟨v14, h13, hq, hm⟩ := bd2_some hm
      refine cVi X hH kl_X11_112 kv_X11_number (mt_X11_number_0_6 hq) lM_0 rfl rfl (by decide) hl.1 rfl (Nat.le_of_ble_eq_true rfl) dX11_item_116 (fun H locs hH => ?_)
      refine lv_if_eq hx hb dX11_item_119 (tgt := 210) (by decide) (fun hc => ?_) (fun hc => ?_)
      · rw [if_pos hc] at hm
        refine lv_iconst (v := 0) hx hb dX11_item_210 (by decide) ?_
        cases hm
        exact retZ X hH rfl dX11_item_211
      · rw [if_neg hc] at hm
        refine lv_aload_n hx hb dX11_item_122 rfl (lv_at hl 1 rfl) ?_
        refine lv_bipush (v := 44) hx hb dX11_item_123 (by decide) ?_
        refine lv_bipush (v := 6) hx hb dX11_item_125 (by decide) ?_
        refine lv_bipush (v := 60) hx hb dX11_item_127 (by decide) ?_
        refine lv_aload_n hx hb dX11_item_129 rfl (lv_at hl 1 rfl) ?_
        refine gR X hH fl_X11_25 lM_0 rfl dX11_item_130 ?_
        refine lv_iconst (v := 5) hx hb dX11_item_133 (by decide) ?_
        refine lv_iload_n hx hb dX11_item_134 rfl (lv_at hl 0 rfl) ?_
        refine lv_imul hx hb dX11_item_135 ?_
        refine lv_iconst (v := 1) hx hb dX11_item_136 (by decide) ?_
        refine lv_iadd hx hb dX11_item_137 ?_
        obtain ⟨v16, h15, hq, hm⟩ := bd2_some hm
        refine cVi X hH kl_X11_112 kv_X11_number (mt_X11_number_0_6 hq) lM_0 rfl rfl (by decide) hl.1 rfl (Nat.le_of_ble_eq_true rfl) dX11_item_138 (fun H locs hH => ?_)
        refine lv_if_eq hx hb dX11_item_141 (tgt := 210) (by decide) (fun hc => ?_) (fun hc => ?_)
        · rw [if_pos hc] at hm
          refine lv_iconst (v := 0) hx hb dX11_item_210 (by decide) ?_
          cases hm
          exact retZ X hH rfl dX11_item_211
        · rw [if_neg hc] at hm
          refine lv_aload_n hx hb dX11_item_144 rfl (lv_at hl 1 rfl) ?_
          refine lv_bipush (v := 44) hx hb dX11_item_145 (by decide) ?_
          refine lv_iconst (v := 0) hx hb dX11_item_147 (by decide) ?_
          refine lv_iconst (v := 1) hx hb dX11_item_148 (by decide) ?_
          refine lv_aload_n hx hb dX11_item_149 rfl (lv_at hl 1 rfl) ?_
          refine gR X hH fl_X11_25 lM_0 rfl dX11_item_150 ?_
          refine lv_iconst (v := 5) hx hb dX11_item_153 (by decide) ?_
          refine lv_iload_n hx hb dX11_item_154 rfl (lv_at hl 0 rfl) ?_
          refine lv_imul hx hb dX11_item_155 ?_
          refine lv_iconst (v := 2) hx hb dX11_item_156 (by decide) ?_
          refine lv_iadd hx hb dX11_item_157 ?_
          obtain ⟨v18, h17, hq, hm⟩ := bd2_some hm
          refine cVi X hH kl_X11_112 kv_X11_number (mt_X11_number_0_6 hq) lM_0 rfl rfl (by decide) hl.1 rfl (Nat.le_of_ble_eq_true rfl) dX11_item_158 (fun H locs hH => ?_)
          refine lv_if_eq hx hb dX11_item_161 (tgt := 210) (by decide) (fun hc => ?_) (fun hc => ?_)
          · rw [if_pos hc] at hm
            refine lv_iconst (v := 0) hx hb dX11_item_210 (by decide) ?_
            cases hm
            exact retZ X hH rfl dX11_item_211
          · rw [if_neg hc] at hm
            refine lv_aload_n hx hb dX11_item_164 rfl (lv_at hl 1 rfl) ?_
            refine lv_bipush (v := 44) hx hb dX11_item_165 (by decide) ?_
            refine lv_iconst (v := 1) hx hb dX11_item_167 (by decide) ?_
            refine lv_bipush (v := 99) hx hb dX11_item_168 (by decide) ?_
            refine lv_aload_n hx hb dX11_item_170 rfl (lv_at hl 1 rfl) ?_
            refine gR X hH fl_X11_25 lM_0 rfl dX11_item_171 ?_
            refine lv_iconst (v := 5) hx hb dX11_item_174 (by decide) ?_
            refine lv_iload_n hx hb dX11_item_175 rfl (lv_at hl 0 rfl) ?_
            refine lv_imul hx hb dX11_item_176 ?_
            refine lv_iconst (v := 3) hx hb dX11_item_177 (by decide) ?_
            refine lv_iadd hx hb dX11_item_178 ?_
            obtain ⟨v20, h19, hq, hm⟩ := bd2_some hm
            refine cVi X hH kl_X11_112 kv_X11_number (mt_X11_number_0_6 hq) lM_0 rfl rfl (by decide) hl.1 rfl (Nat.le_of_ble_eq_true rfl) dX11_item_179 (fun H locs hH => ?_)
            refine lv_if_eq hx hb dX11_item_182 (tgt := 210) (by decide) (fun hc => ?_) (fun hc => ?_)
            · rw [if_pos hc] at hm
              refine lv_iconst (v := 0) hx hb dX11_item_210 (by decide) ?_
              cases hm
              exact retZ X hH rfl dX11_item_211
            · rw [if_neg hc] at hm
              refine lv_aload_n hx hb dX11_item_185 rfl (lv_at hl 1 rfl) ?_
              refine lv_bipush (v := 44) hx hb dX11_item_186 (by decide) ?_
              refine lv_iconst (v := 0) hx hb dX11_item_188 (by decide) ?_
              refine lv_bipush (v := 9) hx hb dX11_item_189 (by decide) ?_
              refine lv_aload_n hx hb dX11_item_191 rfl (lv_at hl 1 rfl) ?_
              refine gR X hH fl_X11_25 lM_0 rfl dX11_item_192 ?_
              refine lv_iconst (v := 5) hx hb dX11_item_195 (by decide) ?_
              refine lv_iload_n hx hb dX11_item_196 rfl (lv_at hl 0 rfl) ?_
              refine lv_imul hx hb dX11_item_197 ?_
              refine lv_iconst (v := 4) hx hb dX11_item_198 (by decide) ?_
              refine lv_iadd hx hb dX11_item_199 ?_
              obtain ⟨v22, h21, hq, hm⟩ := bd2_some hm
              refine cVi X hH kl_X11_112 kv_X11_number (mt_X11_number_0_6 hq) lM_0 rfl rfl (by decide) hl.1 rfl (Nat.le_of_ble_eq_true rfl) dX11_item_200 (fun H locs hH => ?_)
              refine lv_if_eq hx hb dX11_item_203 (tgt := 210) (by decide) (fun hc => ?_) (fun hc => ?_)
              · rw [if_pos hc] at hm
                refine lv_iconst (v := 0) hx hb dX11_item_210 (by decide) ?_
                cases hm
                exact retZ X hH rfl dX11_item_211
              · rw [if_neg hc] at hm
                refine lv_iconst (v := 1) hx hb dX11_item_206 (by decide) ?_
                refine lv_goto hx hb dX11_item_207 (tgt := 211) (by decide) ?_
                cases hm
                exact retZ X hH rfl dX11_item_211
    · rw [if_neg hc0] at hm
      by_cases hc1 : x2 = (1 : Int32)
      · rw [if_pos hc1] at hm
        refine lv_lookup hx hb dX11_item_76 (by decide) (off := 136) (by rw [hc1]; rfl) (tgt := 212) (by decide) ?_
        refine lv_aload_n hx hb dX11_item_212 rfl (lv_at hl 1 rfl) ?_
        refine lv_iconst (v := 0) hx hb dX11_item_213 (by decide) ?_
        refine lv_iconst (v := 0) hx hb dX11_item_214 (by decide) ?_
        refine lv_bipush (v := 59) hx hb dX11_item_215 (by decide) ?_
        refine lv_aload_n hx hb dX11_item_217 rfl (lv_at hl 1 rfl) ?_
        refine gR X hH fl_X11_28 lM_0 rfl dX11_item_218 ?_
        refine lv_iconst (v := 2) hx hb dX11_item_221 (by decide) ?_
        refine lv_iload_n hx hb dX11_item_222 rfl (lv_at hl 0 rfl) ?_
        refine lv_imul hx hb dX11_item_223 ?_
        obtain ⟨v24, h23, hq, hm⟩ := bd2_some hm
        refine cVi X hH kl_X11_112 kv_X11_number (mt_X11_number_0_7 hq) lM_0 rfl rfl (by decide) hl.1 rfl (Nat.le_of_ble_eq_true rfl) dX11_item_224 (fun H locs hH => ?_)
        refine lv_if_eq hx hb dX11_item_227 (tgt := 255) (by decide) (fun hc => ?_) (fun hc => ?_)
        · rw [if_pos hc] at hm
          refine lv_iconst (v := 0) hx hb dX11_item_255 (by decide) ?_
          cases hm
          exact retZ X hH rfl dX11_item_256
        · rw [if_neg hc] at hm
          refine lv_aload_n hx hb dX11_item_230 rfl (lv_at hl 1 rfl) ?_
          refine lv_bipush (v := 44) hx hb dX11_item_231 (by decide) ?_
          refine lv_iconst (v := 1) hx hb dX11_item_233 (by decide) ?_
          refine lv_bipush (v := 9) hx hb dX11_item_234 (by decide) ?_
          refine lv_aload_n hx hb dX11_item_236 rfl (lv_at hl 1 rfl) ?_
          refine gR X hH fl_X11_28 lM_0 rfl dX11_item_237 ?_
          refine lv_iconst (v := 2) hx hb dX11_item_240 (by decide) ?_
          refine lv_iload_n hx hb dX11_item_241 rfl (lv_at hl 0 rfl) ?_
          refine lv_imul hx hb dX11_item_242 ?_
          refine lv_iconst (v := 1) hx hb dX11_item_243 (by decide) ?_
          refine lv_iadd hx hb dX11_item_244 ?_
          obtain ⟨v26, h25, hq, hm⟩ := bd2_some hm
          refine cVi X hH kl_X11_112 kv_X11_number (mt_X11_number_0_7 hq) lM_0 rfl rfl (by decide) hl.1 rfl (Nat.le_of_ble_eq_true rfl) dX11_item_245 (fun H locs hH => ?_)
          refine lv_if_eq hx hb dX11_item_248 (tgt := 255) (by decide) (fun hc => ?_) (fun hc => ?_)
          · rw [if_pos hc] at hm
            refine lv_iconst (v := 0) hx hb dX11_item_255 (by decide) ?_
            cases hm
            exact retZ X hH rfl dX11_item_256
          · rw [if_neg hc] at hm
            refine lv_iconst (v := 1) hx hb dX11_item_251 (by decide) ?_
            refine lv_goto hx hb dX11_item_252 (tgt := 256) (by decide) ?_
            cases hm
            exact retZ X hH rfl dX11_item_256
      · rw [if_neg hc1] at hm
        refine lv_lookup hx hb dX11_item_76 (by decide) (off := 181) (by refine (lv_osw hc0 (by decide)).trans ?_; refine (lv_osw hc1 (by decide)).trans ?_; rfl) (tgt := 257) (by decide) ?_
        refine lv_aload_n hx hb dX11_item_257 rfl (lv_at hl 1 rfl) ?_
        refine lv_iconst (v := 0) hx hb dX11_item_258 (by decide) ?_
        refine lv_iconst (v := 0) hx hb dX11_item_259 (by decide) ?_
        refine lv_aload_n hx hb dX11_item_260 rfl (lv_at hl 1 rfl) ?_
        refine gR X hH fl_X11_34 lM_0 rfl dX11_item_261 ?_
        refine lv_iconst (v := 1) hx hb dX11_item_264 (by decide) ?_
        obtain ⟨hin6, hm⟩ := gIn_some hm
        refine ild X hH lM_9 hin6 dX11_item_265 ?_
        refine lv_iconst (v := 1) hx hb dX11_item_266 (by decide) ?_
        refine lv_isub hx hb dX11_item_267 ?_
        refine lv_aload_n hx hb dX11_item_268 rfl (lv_at hl 1 rfl) ?_
        refine gR X hH fl_X11_31 lM_0 rfl dX11_item_269 ?_
        refine lv_iconst (v := 3) hx hb dX11_item_272 (by decide) ?_
        refine lv_iload_n hx hb dX11_item_273 rfl (lv_at hl 0 rfl) ?_
        refine lv_imul hx hb dX11_item_274 ?_
        obtain ⟨v8, h7, hq, hm⟩ := bd2_some hm
        refine cVi X hH kl_X11_112 kv_X11_number (mt_X11_number_0_8 hq) lM_0 rfl rfl (by decide) hl.1 rfl (Nat.le_of_ble_eq_true rfl) dX11_item_275 (fun H locs hH => ?_)
        refine lv_if_eq hx hb dX11_item_278 (tgt := 325) (by decide) (fun hc => ?_) (fun hc => ?_)
        · rw [if_pos hc] at hm
          refine lv_iconst (v := 0) hx hb dX11_item_325 (by decide) ?_
          cases hm
          exact retZ X hH rfl dX11_item_326
        · rw [if_neg hc] at hm
          refine lv_aload_n hx hb dX11_item_281 rfl (lv_at hl 1 rfl) ?_
          refine lv_bipush (v := 44) hx hb dX11_item_282 (by decide) ?_
          refine lv_iconst (v := 0) hx hb dX11_item_284 (by decide) ?_
          refine lv_iconst (v := 2) hx hb dX11_item_285 (by decide) ?_
          refine lv_aload_n hx hb dX11_item_286 rfl (lv_at hl 1 rfl) ?_
          refine gR X hH fl_X11_31 lM_0 rfl dX11_item_287 ?_
          refine lv_iconst (v := 3) hx hb dX11_item_290 (by decide) ?_
          refine lv_iload_n hx hb dX11_item_291 rfl (lv_at hl 0 rfl) ?_
          refine lv_imul hx hb dX11_item_292 ?_
          refine lv_iconst (v := 1) hx hb dX11_item_293 (by decide) ?_
          refine lv_iadd hx hb dX11_item_294 ?_
          obtain ⟨v10, h9, hq, hm⟩ := bd2_some hm
          refine cVi X hH kl_X11_112 kv_X11_number (mt_X11_number_0_8 hq) lM_0 rfl rfl (by decide) hl.1 rfl (Nat.le_of_ble_eq_true rfl) dX11_item_295 (fun H locs hH => ?_)
          refine lv_if_eq hx hb dX11_item_298 (tgt := 325) (by decide) (fun hc => ?_) (fun hc => ?_)
          · rw [if_pos hc] at hm
            refine lv_iconst (v := 0) hx hb dX11_item_325 (by decide) ?_
            cases hm
            exact retZ X hH rfl dX11_item_326
          · rw [if_neg hc] at hm
            refine lv_aload_n hx hb dX11_item_301 rfl (lv_at hl 1 rfl) ?_
            refine lv_bipush (v := 44) hx hb dX11_item_302 (by decide) ?_
            refine lv_iconst (v := 0) hx hb dX11_item_304 (by decide) ?_
            refine lv_iconst (v := 5) hx hb dX11_item_305 (by decide) ?_
            refine lv_aload_n hx hb dX11_item_306 rfl (lv_at hl 1 rfl) ?_
            refine gR X hH fl_X11_31 lM_0 rfl dX11_item_307 ?_
            refine lv_iconst (v := 3) hx hb dX11_item_310 (by decide) ?_
            refine lv_iload_n hx hb dX11_item_311 rfl (lv_at hl 0 rfl) ?_
            refine lv_imul hx hb dX11_item_312 ?_
            refine lv_iconst (v := 2) hx hb dX11_item_313 (by decide) ?_
            refine lv_iadd hx hb dX11_item_314 ?_
            obtain ⟨v12, h11, hq, hm⟩ := bd2_some hm
            refine cVi X hH kl_X11_112 kv_X11_number (mt_X11_number_0_8 hq) lM_0 rfl rfl (by decide) hl.1 rfl (Nat.le_of_ble_eq_true rfl) dX11_item_315 (fun H locs hH => ?_)
            refine lv_if_eq hx hb dX11_item_318 (tgt := 325) (by decide) (fun hc => ?_) (fun hc => ?_)
            · rw [if_pos hc] at hm
              refine lv_iconst (v := 0) hx hb dX11_item_325 (by decide) ?_
              cases hm
              exact retZ X hH rfl dX11_item_326
            · rw [if_neg hc] at hm
              refine lv_iconst (v := 1) hx hb dX11_item_321 (by decide) ?_
              refine lv_goto hx hb dX11_item_322 (tgt := 326) (by decide) ?_
              cases hm
              exact retZ X hH rfl dX11_item_326
  · rw [if_pos hc] at hm
    refine lv_iconst (v := 0) hx hb dX11_item_56 (by decide) ?_
    cases hm
    exact retZ X hH rfl dX11_item_57
def mX11_item_31 (t0 : Int32) (h : Mm) : Option (Int32 × Mm) := if t0 = (3 : Int32) then (some ((0 : Int32), h)) else (gIn t0 3 (if t0 = (1 : Int32) then (mX11_item_53 t0 (3 : Int32) (h 9 t0.toNatClampNeg) h) else (mX11_item_53 t0 (4 : Int32) (h 9 t0.toNatClampNeg) h)))
set_option maxRecDepth 4000 in
theorem wX11_item_31 {p : Program} {l : Launch} {e : Env} {s : State} {m : MethodId} {args : Array Value} {below : List Frame} {meth : Method} {c : Code} {D : va_G} {ad : Nat → Nat} {ac : Nat → ClassId} {r : Int32} {h' : Mm} (X : Fx p s m args meth c cX11_item 4 RX11 (some .boolean) D ad ac LM []) : ∀ (t0 : Int32) (h : Mm) (H : Heap) (locs : List Loc) (ls : Array Slot), mX11_item_31 t0 h = some (r, h') → Hp D ad ac LM h s H locs → lv_has ls 4 [(0, .ref (ad 0))] → W p l e (rmD 2) s m args below meth c H locs 0 0 (MQ below (QU D ad ac LM (some (.int r)) h' s.heap.size) args s 0 0 (Aa ad LM.length s.heap.size)) (F0 m 31 ls [.int t0]) := by
  obtain ⟨hx, hb, hml, hown, hts, hr, hlk, hC, hI, hR⟩ := id X
  intro t0 h H locs ls hm hH hl
  rw [mX11_item_31] at hm
  refine lv_istore_n (lv' := [(2, .int t0), (0, .ref (ad 0))]) hx hb dX11_item_31 rfl hl (by decide) rfl (fun ls hl => ?_)
  refine lv_iload_n hx hb dX11_item_32 rfl (lv_at hl 0 rfl) ?_
  refine lv_iconst (v := 3) hx hb dX11_item_33 (by decide) ?_
  refine lv_icmp_eq hx hb dX11_item_34 (tgt := 56) (by decide) (fun hc => ?_) (fun hc => ?_)
  · rw [if_pos hc] at hm
    refine lv_iconst (v := 0) hx hb dX11_item_56 (by decide) ?_
    cases hm
    exact retZ X hH rfl dX11_item_57
  · rw [if_neg hc] at hm
    refine lv_aload_n hx hb dX11_item_37 rfl (lv_at hl 1 rfl) ?_
    refine gR X hH fl_X11_34 lM_0 rfl dX11_item_38 ?_
    refine lv_iload_n hx hb dX11_item_41 rfl (lv_at hl 0 rfl) ?_
    obtain ⟨hin1, hm⟩ := gIn_some hm
    refine ild X hH lM_9 hin1 dX11_item_42 ?_
    refine lv_iload_n hx hb dX11_item_43 rfl (lv_at hl 0 rfl) ?_
    refine lv_iconst (v := 1) hx hb dX11_item_44 (by decide) ?_
    refine lv_icmp_ne hx hb dX11_item_45 (tgt := 52) (by decide) (fun hc => ?_) (fun hc => ?_)
    · rw [if_neg hc] at hm
      refine lv_iconst (v := 4) hx hb dX11_item_52 (by decide) ?_
      exact wX11_item_53 X t0 (4 : Int32) (h 9 t0.toNatClampNeg) h _ _ _ hm hH (lv_sub hl [1, 0] rfl)
    · rw [if_pos hc] at hm
      refine lv_iconst (v := 3) hx hb dX11_item_48 (by decide) ?_
      refine lv_goto hx hb dX11_item_49 (tgt := 53) (by decide) ?_
      exact wX11_item_53 X t0 (3 : Int32) (h 9 t0.toNatClampNeg) h _ _ _ hm hH (lv_sub hl [1, 0] rfl)
def mX11_item (h : Mm) (a1 : Int32) : Option (Int32 × Mm) := if a1 = (115 : Int32) then (mX11_item_31 (0 : Int32) h) else (if a1 = (103 : Int32) then (mX11_item_31 (1 : Int32) h) else (if a1 = (97 : Int32) then (mX11_item_31 (2 : Int32) h) else (mX11_item_31 (3 : Int32) h)))
set_option maxRecDepth 4000 in
theorem mt_X11_item {l : Launch} {D : va_G} {ad : Nat → Nat} {ac : Nat → ClassId} {h : Mm} {a1 : Int32} {r : Int32} {h' : Mm} (hm : mX11_item h a1 = some (r, h')) : Mt l D ad ac LM [] yX11_item cX11_item 4 (some .boolean) 2 [.ref (ad 0), .int a1] h (some (.int r)) h' := by
  refine Mt.of (own := RX11) (by decide) rfl (Nat.le_of_ble_eq_true rfl) ?_
  intro p e s m below meth c ls X hH hl
  obtain ⟨hx, hb, hml, hown, hts, hr, hlk, hC, hI, hR⟩ := id X
  have hl : lv_has ls 4 [(0, .ref (ad 0)), (1, .int a1)] := hl
  rw [mX11_item] at hm
  refine lv_iload_n hx hb dX11_item_0 rfl (lv_at hl 1 rfl) ?_
  refine lv_bipush (v := 115) hx hb dX11_item_1 (by decide) ?_
  refine lv_icmp_ne hx hb dX11_item_3 (tgt := 10) (by decide) (fun hc => ?_) (fun hc => ?_)
  · rw [if_neg hc] at hm
    refine lv_iload_n hx hb dX11_item_10 rfl (lv_at hl 1 rfl) ?_
    refine lv_bipush (v := 103) hx hb dX11_item_11 (by decide) ?_
    refine lv_icmp_ne hx hb dX11_item_13 (tgt := 20) (by decide) (fun hc => ?_) (fun hc => ?_)
    · rw [if_neg hc] at hm
      refine lv_iload_n hx hb dX11_item_20 rfl (lv_at hl 1 rfl) ?_
      refine lv_bipush (v := 97) hx hb dX11_item_21 (by decide) ?_
      refine lv_icmp_ne hx hb dX11_item_23 (tgt := 30) (by decide) (fun hc => ?_) (fun hc => ?_)
      · rw [if_neg hc] at hm
        refine lv_iconst (v := 3) hx hb dX11_item_30 (by decide) ?_
        exact wX11_item_31 X (3 : Int32) h _ _ _ hm hH (lv_sub hl [0] rfl)
      · rw [if_pos hc] at hm
        refine lv_iconst (v := 2) hx hb dX11_item_26 (by decide) ?_
        refine lv_goto hx hb dX11_item_27 (tgt := 31) (by decide) ?_
        exact wX11_item_31 X (2 : Int32) h _ _ _ hm hH (lv_sub hl [0] rfl)
    · rw [if_pos hc] at hm
      refine lv_iconst (v := 1) hx hb dX11_item_16 (by decide) ?_
      refine lv_goto hx hb dX11_item_17 (tgt := 31) (by decide) ?_
      exact wX11_item_31 X (1 : Int32) h _ _ _ hm hH (lv_sub hl [0] rfl)
  · rw [if_pos hc] at hm
    refine lv_iconst (v := 0) hx hb dX11_item_6 (by decide) ?_
    refine lv_goto hx hb dX11_item_7 (tgt := 31) (by decide) ?_
    exact wX11_item_31 X (0 : Int32) h _ _ _ hm hH (lv_sub hl [0] rfl)
/-! X11_fault -/
def mX11_fault_25 : Nat → Mm → Option (Int32 × Mm)
  | 0, _ => none
  | n + 1, h => if (h 0 0) ≤ (h 0 2) then (some ((-4 : Int32), h)) else (mlet (h 0 2) (fun u1 => mlet (wr h 0 2 ((h 0 2) + (1 : Int32))) (fun h2 => gIn u1 200 (bd2 (mX11_item h2 (h2 1 u1.toNatClampNeg)) (fun v5 h4 => if v5 = 0 then (some (u1, h4)) else (bd1 (mX11_byteAt h4 (h4 0 2)) (fun v6 => if v6 = (59 : Int32) then (mlet (wr h4 0 2 ((h4 0 2) + (1 : Int32))) (fun h7 => mX11_fault_25 n  h7)) else (some (u1, h4)))))))))
set_option maxRecDepth 4000 in
theorem wX11_fault_25 {p : Program} {l : Launch} {e : Env} {s : State} {m : MethodId} {args : Array Value} {below : List Frame} {meth : Method} {c : Code} {D : va_G} {ad : Nat → Nat} {ac : Nat → ClassId} {r : Int32} {h' : Mm} (X : Fx p s m args meth c cX11_fault 2 RX11 (some .int) D ad ac LM []) : ∀ (n : Nat) (h : Mm) (H : Heap) (locs : List Loc) (ls : Array Slot), mX11_fault_25 n h = some (r, h') → Hp D ad ac LM h s H locs → lv_has ls 2 [(0, .ref (ad 0))] → W p l e (rmD 3) s m args below meth c H locs 0 0 (MQ below (QU D ad ac LM (some (.int r)) h' s.heap.size) args s 0 0 (Aa ad LM.length s.heap.size)) (F0 m 25 ls []) := by
  obtain ⟨hx, hb, hml, hown, hts, hr, hlk, hC, hI, hR⟩ := id X
  intro n
  induction n with
  | zero => intro h H locs ls hm; rw [mX11_fault_25] at hm; cases hm
  | succ n ih =>
    intro h H locs ls hm hH hl
    rw [mX11_fault_25] at hm
    refine lv_aload_n hx hb dX11_fault_25 rfl (lv_at hl 0 rfl) ?_
    refine gI X hH fl_X11_101 lM_0 rfl dX11_fault_26 ?_
    refine lv_aload_n hx hb dX11_fault_29 rfl (lv_at hl 0 rfl) ?_
    refine gI X hH fl_X11_97 lM_0 rfl dX11_fault_30 ?_
    refine lv_icmp_ge hx hb dX11_fault_33 (tgt := 92) (by decide) (fun hc => ?_) (fun hc => ?_)
    · rw [if_pos hc] at hm
      refine lv_bipush (v := (-4)) hx hb dX11_fault_92 (by decide) ?_
      cases hm
      exact retI X hH dX11_fault_94
    · rw [if_neg hc] at hm
      refine lv_aload_n hx hb dX11_fault_36 rfl (lv_at hl 0 rfl) ?_
      refine gI X hH fl_X11_101 lM_0 rfl dX11_fault_37 ?_
      obtain ⟨u1, eu1, hm⟩ := mlet_some hm
      refine W.eq (g2 := F0 m 40 ls (.int u1 :: [])) (by rw [eu1]) ?_
      refine lv_istore_n (lv' := [(1, .int u1), (0, .ref (ad 0))]) hx hb dX11_fault_40 rfl hl (by decide) rfl (fun ls hl => ?_)
      refine lv_aload_n hx hb dX11_fault_41 rfl (lv_at hl 1 rfl) ?_
      refine lv_dup hx hb dX11_fault_42 rfl ?_
      refine gI X hH fl_X11_101 lM_0 rfl dX11_fault_43 ?_
      refine lv_iconst (v := 1) hx hb dX11_fault_46 (by decide) ?_
      refine lv_iadd hx hb dX11_fault_47 ?_
      obtain ⟨h2, eh2, hm⟩ := mlet_some hm
      refine pI X hH fl_X11_101 fw_11_2 lM_0 rfl dX11_fault_48 (fun H locs hH => ?_)
      rw [← eh2] at hH
      refine lv_aload_n hx hb dX11_fault_51 rfl (lv_at hl 1 rfl) ?_
      refine lv_aload_n hx hb dX11_fault_52 rfl (lv_at hl 1 rfl) ?_
      refine gR X hH fl_X11_7 lM_0 rfl dX11_fault_53 ?_
      refine lv_iload_n hx hb dX11_fault_56 rfl (lv_at hl 0 rfl) ?_
      obtain ⟨hin3, hm⟩ := gIn_some hm
      refine ild X hH lM_1 hin3 dX11_fault_57 ?_
      obtain ⟨v5, h4, hq, hm⟩ := bd2_some hm
      refine cVi X hH kl_X11_116 kv_X11_item (mt_X11_item hq) lM_0 rfl rfl (by decide) hl.1 rfl (Nat.le_of_ble_eq_true rfl) dX11_fault_58 (fun H locs hH => ?_)
      refine lv_if_eq hx hb dX11_fault_61 (tgt := 77) (by decide) (fun hc => ?_) (fun hc => ?_)
      · rw [if_pos hc] at hm
        refine lv_iload_n hx hb dX11_fault_77 rfl (lv_at hl 0 rfl) ?_
        cases hm
        exact retI X hH dX11_fault_78
      · rw [if_neg hc] at hm
        refine lv_aload_n hx hb dX11_fault_64 rfl (lv_at hl 1 rfl) ?_
        refine lv_aload_n hx hb dX11_fault_65 rfl (lv_at hl 1 rfl) ?_
        refine gI X hH fl_X11_101 lM_0 rfl dX11_fault_66 ?_
        obtain ⟨v6, hq, hm⟩ := bd1_some hm
        refine cVi X hH kl_X11_104 kv_X11_byteAt (mt_X11_byteAt hq) lM_0 rfl rfl (by decide) hl.1 rfl (Nat.le_of_ble_eq_true rfl) dX11_fault_69 (fun H locs hH => ?_)
        refine lv_bipush (v := 59) hx hb dX11_fault_72 (by decide) ?_
        refine lv_icmp_eq hx hb dX11_fault_74 (tgt := 79) (by decide) (fun hc => ?_) (fun hc => ?_)
        · rw [if_pos hc] at hm
          refine lv_aload_n hx hb dX11_fault_79 rfl (lv_at hl 1 rfl) ?_
          refine lv_dup hx hb dX11_fault_80 rfl ?_
          refine gI X hH fl_X11_101 lM_0 rfl dX11_fault_81 ?_
          refine lv_iconst (v := 1) hx hb dX11_fault_84 (by decide) ?_
          refine lv_iadd hx hb dX11_fault_85 ?_
          obtain ⟨h7, eh7, hm⟩ := mlet_some hm
          refine pI X hH fl_X11_101 fw_11_2 lM_0 rfl dX11_fault_86 (fun H locs hH => ?_)
          rw [← eh7] at hH
          refine lv_goto hx hb dX11_fault_89 (tgt := 25) (by decide) ?_
          exact ih  h7 _ _ _ hm hH (lv_sub hl [1] rfl)
        · rw [if_neg hc] at hm
          refine lv_iload_n hx hb dX11_fault_77 rfl (lv_at hl 0 rfl) ?_
          cases hm
          exact retI X hH dX11_fault_78
def mX11_fault_2 : Nat → Int32 → Mm → Option (Int32 × Mm)
  | 0, _, _ => none
  | n + 1, x1, h => if (3 : Int32) ≤ x1 then (mlet (wr h 0 2 (0 : Int32)) (fun h1 => mX11_fault_25 FU  h1)) else (gIn x1 3 (mlet (wr h 9 x1.toNatClampNeg (0 : Int32)) (fun h2 => mX11_fault_2 n (x1 + 1) h2)))
set_option maxRecDepth 4000 in
theorem wX11_fault_2 {p : Program} {l : Launch} {e : Env} {s : State} {m : MethodId} {args : Array Value} {below : List Frame} {meth : Method} {c : Code} {D : va_G} {ad : Nat → Nat} {ac : Nat → ClassId} {r : Int32} {h' : Mm} (X : Fx p s m args meth c cX11_fault 2 RX11 (some .int) D ad ac LM []) : ∀ (n : Nat) (x1 : Int32) (h : Mm) (H : Heap) (locs : List Loc) (ls : Array Slot), mX11_fault_2 n x1 h = some (r, h') → Hp D ad ac LM h s H locs → lv_has ls 2 [(0, .ref (ad 0)), (1, .int x1)] → W p l e (rmD 3) s m args below meth c H locs 0 0 (MQ below (QU D ad ac LM (some (.int r)) h' s.heap.size) args s 0 0 (Aa ad LM.length s.heap.size)) (F0 m 2 ls []) := by
  obtain ⟨hx, hb, hml, hown, hts, hr, hlk, hC, hI, hR⟩ := id X
  intro n
  induction n with
  | zero => intro x1 h H locs ls hm; rw [mX11_fault_2] at hm; cases hm
  | succ n ih =>
    intro x1 h H locs ls hm hH hl
    rw [mX11_fault_2] at hm
    refine lv_iload_n hx hb dX11_fault_2 rfl (lv_at hl 1 rfl) ?_
    refine lv_iconst (v := 3) hx hb dX11_fault_3 (by decide) ?_
    refine lv_icmp_ge hx hb dX11_fault_4 (tgt := 20) (by decide) (fun hc => ?_) (fun hc => ?_)
    · rw [if_pos hc] at hm
      refine lv_aload_n hx hb dX11_fault_20 rfl (lv_at hl 0 rfl) ?_
      refine lv_iconst (v := 0) hx hb dX11_fault_21 (by decide) ?_
      obtain ⟨h1, eh1, hm⟩ := mlet_some hm
      refine pI X hH fl_X11_101 fw_11_2 lM_0 rfl dX11_fault_22 (fun H locs hH => ?_)
      rw [← eh1] at hH
      exact wX11_fault_25 X FU  h1 _ _ _ hm hH (lv_sub hl [0] rfl)
    · rw [if_neg hc] at hm
      refine lv_aload_n hx hb dX11_fault_7 rfl (lv_at hl 0 rfl) ?_
      refine gR X hH fl_X11_34 lM_0 rfl dX11_fault_8 ?_
      refine lv_iload_n hx hb dX11_fault_11 rfl (lv_at hl 1 rfl) ?_
      refine lv_iconst (v := 0) hx hb dX11_fault_12 (by decide) ?_
      obtain ⟨hin3, hm⟩ := gIn_some hm
      obtain ⟨h2, eh2, hm⟩ := mlet_some hm
      refine ist X hH lM_9 hin3 dX11_fault_13 (fun H locs hH => ?_)
      rw [← eh2] at hH
      refine lv_iinc (k := 1) (v := (x1 + 1)) (lv' := [(1, .int (x1 + 1)), (0, .ref (ad 0))]) hx hb dX11_fault_14 hl rfl rfl (by decide) rfl (fun ls hl => ?_)
      refine lv_goto hx hb dX11_fault_17 (tgt := 2) (by decide) ?_
      exact ih (x1 + 1) h2 _ _ _ hm hH (lv_sub hl [1, 0] rfl)
def mX11_fault (h : Mm) : Option (Int32 × Mm) := mX11_fault_2 FU (0 : Int32) h
set_option maxRecDepth 4000 in
theorem mt_X11_fault {l : Launch} {D : va_G} {ad : Nat → Nat} {ac : Nat → ClassId} {h : Mm} {r : Int32} {h' : Mm} (hm : mX11_fault h = some (r, h')) : Mt l D ad ac LM [] yX11_fault cX11_fault 2 (some .int) 3 [.ref (ad 0)] h (some (.int r)) h' := by
  refine Mt.of (own := RX11) (by decide) rfl (Nat.le_of_ble_eq_true rfl) ?_
  intro p e s m below meth c ls X hH hl
  obtain ⟨hx, hb, hml, hown, hts, hr, hlk, hC, hI, hR⟩ := id X
  have hl : lv_has ls 2 [(0, .ref (ad 0))] := hl
  rw [mX11_fault] at hm
  refine lv_iconst (v := 0) hx hb dX11_fault_0 (by decide) ?_
  refine lv_istore_n (lv' := [(1, .int (0 : Int32)), (0, .ref (ad 0))]) hx hb dX11_fault_1 rfl hl (by decide) rfl (fun ls hl => ?_)
  exact wX11_fault_2 X FU (0 : Int32) h _ _ _ hm hH (lv_sub hl [1, 0] rfl)
/-! X11_whyNot -/
def mX11_whyNot_146 (h : Mm) (k45 : Int32 → Int32 → Int32 → Int32 → Int32 → Option Int32) (x1 : Int32) (x2 : Int32) (x3 : Int32) (x5 : Int32) (t0 : Int32) : Option Int32 := k45 x1 x2 x3 t0 (x5 + 1)
set_option maxRecDepth 4000 in
theorem wX11_whyNot_146 {p : Program} {l : Launch} {e : Env} {s : State} {m : MethodId} {args : Array Value} {below : List Frame} {meth : Method} {c : Code} {D : va_G} {ad : Nat → Nat} {ac : Nat → ClassId} {h : Mm} {r : Int32} (X : Fx p s m args meth c cX11_whyNot 6 RX11 (some .int) D ad ac LM []) {k45 : Int32 → Int32 → Int32 → Int32 → Int32 → Option Int32} (ih45 : ∀ (x1 : Int32) (x2 : Int32) (x3 : Int32) (x4 : Int32) (x5 : Int32) (H : Heap) (locs : List Loc) (ls : Array Slot), k45 x1 x2 x3 x4 x5 = some r → Hp D ad ac LM h s H locs → lv_has ls 6 [(0, .ref (ad 0)), (1, .int x1), (2, .int x2), (3, .int x3), (4, .int x4), (5, .int x5)] → W p l e (rmD 1) s m args below meth c H locs 0 0 (MQ below (QU D ad ac LM (some (.int r)) h s.heap.size) args s 0 0 (Aa ad LM.length s.heap.size)) (F0 m 45 ls [])) : ∀ (x1 : Int32) (x2 : Int32) (x3 : Int32) (x5 : Int32) (t0 : Int32) (H : Heap) (locs : List Loc) (ls : Array Slot), mX11_whyNot_146 h k45 x1 x2 x3 x5 t0 = some r → Hp D ad ac LM h s H locs → lv_has ls 6 [(0, .ref (ad 0)), (1, .int x1), (2, .int x2), (3, .int x3), (5, .int x5)] → W p l e (rmD 1) s m args below meth c H locs 0 0 (MQ below (QU D ad ac LM (some (.int r)) h s.heap.size) args s 0 0 (Aa ad LM.length s.heap.size)) (F0 m 146 ls [.int t0]) := by
  obtain ⟨hx, hb, hml, hown, hts, hr, hlk, hC, hI, hR⟩ := id X
  intro x1 x2 x3 x5 t0 H locs ls hm hH hl
  rw [mX11_whyNot_146] at hm
  refine lv_istore (lv' := [(4, .int t0), (0, .ref (ad 0)), (1, .int x1), (2, .int x2), (3, .int x3), (5, .int x5)]) hx hb dX11_whyNot_146 hl (by decide) rfl (fun ls hl => ?_)
  refine lv_iinc (k := 5) (v := (x5 + 1)) (lv' := [(5, .int (x5 + 1)), (4, .int t0), (0, .ref (ad 0)), (1, .int x1), (2, .int x2), (3, .int x3)]) hx hb dX11_whyNot_148 hl rfl rfl (by decide) rfl (fun ls hl => ?_)
  refine lv_goto hx hb dX11_whyNot_151 (tgt := 45) (by decide) ?_
  exact ih45 x1 x2 x3 t0 (x5 + 1) _ _ _ hm hH (lv_sub hl [2, 3, 4, 5, 1, 0] rfl)
def mX11_whyNot_145 (h : Mm) (k45 : Int32 → Int32 → Int32 → Int32 → Int32 → Option Int32) (x1 : Int32) (x2 : Int32) (x3 : Int32) (x5 : Int32) : Option Int32 := mX11_whyNot_146 h k45 x1 x2 x3 x5 (0 : Int32)
set_option maxRecDepth 4000 in
theorem wX11_whyNot_145 {p : Program} {l : Launch} {e : Env} {s : State} {m : MethodId} {args : Array Value} {below : List Frame} {meth : Method} {c : Code} {D : va_G} {ad : Nat → Nat} {ac : Nat → ClassId} {h : Mm} {r : Int32} (X : Fx p s m args meth c cX11_whyNot 6 RX11 (some .int) D ad ac LM []) {k45 : Int32 → Int32 → Int32 → Int32 → Int32 → Option Int32} (ih45 : ∀ (x1 : Int32) (x2 : Int32) (x3 : Int32) (x4 : Int32) (x5 : Int32) (H : Heap) (locs : List Loc) (ls : Array Slot), k45 x1 x2 x3 x4 x5 = some r → Hp D ad ac LM h s H locs → lv_has ls 6 [(0, .ref (ad 0)), (1, .int x1), (2, .int x2), (3, .int x3), (4, .int x4), (5, .int x5)] → W p l e (rmD 1) s m args below meth c H locs 0 0 (MQ below (QU D ad ac LM (some (.int r)) h s.heap.size) args s 0 0 (Aa ad LM.length s.heap.size)) (F0 m 45 ls [])) : ∀ (x1 : Int32) (x2 : Int32) (x3 : Int32) (x5 : Int32) (H : Heap) (locs : List Loc) (ls : Array Slot), mX11_whyNot_145 h k45 x1 x2 x3 x5 = some r → Hp D ad ac LM h s H locs → lv_has ls 6 [(0, .ref (ad 0)), (1, .int x1), (2, .int x2), (3, .int x3), (5, .int x5)] → W p l e (rmD 1) s m args below meth c H locs 0 0 (MQ below (QU D ad ac LM (some (.int r)) h s.heap.size) args s 0 0 (Aa ad LM.length s.heap.size)) (F0 m 145 ls []) := by
  obtain ⟨hx, hb, hml, hown, hts, hr, hlk, hC, hI, hR⟩ := id X
  intro x1 x2 x3 x5 H locs ls hm hH hl
  rw [mX11_whyNot_145] at hm
  refine lv_iconst (v := 0) hx hb dX11_whyNot_145 (by decide) ?_
  exact wX11_whyNot_146 X ih45 x1 x2 x3 x5 (0 : Int32) _ _ _ hm hH (lv_sub hl [0, 1, 2, 3, 4] rfl)
def mX11_whyNot_141 (h : Mm) (k45 : Int32 → Int32 → Int32 → Int32 → Int32 → Option Int32) (x1 : Int32) (x2 : Int32) (x3 : Int32) (x5 : Int32) : Option Int32 := mX11_whyNot_146 h k45 x1 x2 x3 x5 (1 : Int32)
set_option maxRecDepth 4000 in
theorem wX11_whyNot_141 {p : Program} {l : Launch} {e : Env} {s : State} {m : MethodId} {args : Array Value} {below : List Frame} {meth : Method} {c : Code} {D : va_G} {ad : Nat → Nat} {ac : Nat → ClassId} {h : Mm} {r : Int32} (X : Fx p s m args meth c cX11_whyNot 6 RX11 (some .int) D ad ac LM []) {k45 : Int32 → Int32 → Int32 → Int32 → Int32 → Option Int32} (ih45 : ∀ (x1 : Int32) (x2 : Int32) (x3 : Int32) (x4 : Int32) (x5 : Int32) (H : Heap) (locs : List Loc) (ls : Array Slot), k45 x1 x2 x3 x4 x5 = some r → Hp D ad ac LM h s H locs → lv_has ls 6 [(0, .ref (ad 0)), (1, .int x1), (2, .int x2), (3, .int x3), (4, .int x4), (5, .int x5)] → W p l e (rmD 1) s m args below meth c H locs 0 0 (MQ below (QU D ad ac LM (some (.int r)) h s.heap.size) args s 0 0 (Aa ad LM.length s.heap.size)) (F0 m 45 ls [])) : ∀ (x1 : Int32) (x2 : Int32) (x3 : Int32) (x5 : Int32) (H : Heap) (locs : List Loc) (ls : Array Slot), mX11_whyNot_141 h k45 x1 x2 x3 x5 = some r → Hp D ad ac LM h s H locs → lv_has ls 6 [(0, .ref (ad 0)), (1, .int x1), (2, .int x2), (3, .int x3), (5, .int x5)] → W p l e (rmD 1) s m args below meth c H locs 0 0 (MQ below (QU D ad ac LM (some (.int r)) h s.heap.size) args s 0 0 (Aa ad LM.length s.heap.size)) (F0 m 141 ls []) := by
  obtain ⟨hx, hb, hml, hown, hts, hr, hlk, hC, hI, hR⟩ := id X
  intro x1 x2 x3 x5 H locs ls hm hH hl
  rw [mX11_whyNot_141] at hm
  refine lv_iconst (v := 1) hx hb dX11_whyNot_141 (by decide) ?_
  refine lv_goto hx hb dX11_whyNot_142 (tgt := 146) (by decide) ?_
  exact wX11_whyNot_146 X ih45 x1 x2 x3 x5 (1 : Int32) _ _ _ hm hH (lv_sub hl [0, 1, 2, 3, 4] rfl)
def mX11_whyNot_91 (h : Mm) (k45 : Int32 → Int32 → Int32 → Int32 → Int32 → Option Int32) (x1 : Int32) (x2 : Int32) (x4 : Int32) (x5 : Int32) (t0 : Int32) : Option Int32 := if x4 = 0 then (if x5 = x1 then (mX11_whyNot_145 h k45 x1 x2 t0 x5) else (gIn x5 32 (if (h 15 x5.toNatClampNeg) = (-4 : Int32) then (mX11_whyNot_145 h k45 x1 x2 t0 x5) else (gIn x5 24 (gIn x1 24 (if (h 12 x5.toNatClampNeg) = (h 12 x1.toNatClampNeg) then (bd1 (mX11_overlap h x1 x5) (fun v4 => if v4 = 0 then (mX11_whyNot_145 h k45 x1 x2 t0 x5) else (mX11_whyNot_141 h k45 x1 x2 t0 x5))) else (mX11_whyNot_145 h k45 x1 x2 t0 x5))))))) else (mX11_whyNot_141 h k45 x1 x2 t0 x5)
set_option maxRecDepth 4000 in
theorem wX11_whyNot_91 {p : Program} {l : Launch} {e : Env} {s : State} {m : MethodId} {args : Array Value} {below : List Frame} {meth : Method} {c : Code} {D : va_G} {ad : Nat → Nat} {ac : Nat → ClassId} {h : Mm} {r : Int32} (X : Fx p s m args meth c cX11_whyNot 6 RX11 (some .int) D ad ac LM []) {k45 : Int32 → Int32 → Int32 → Int32 → Int32 → Option Int32} (ih45 : ∀ (x1 : Int32) (x2 : Int32) (x3 : Int32) (x4 : Int32) (x5 : Int32) (H : Heap) (locs : List Loc) (ls : Array Slot), k45 x1 x2 x3 x4 x5 = some r → Hp D ad ac LM h s H locs → lv_has ls 6 [(0, .ref (ad 0)), (1, .int x1), (2, .int x2), (3, .int x3), (4, .int x4), (5, .int x5)] → W p l e (rmD 1) s m args below meth c H locs 0 0 (MQ below (QU D ad ac LM (some (.int r)) h s.heap.size) args s 0 0 (Aa ad LM.length s.heap.size)) (F0 m 45 ls [])) : ∀ (x1 : Int32) (x2 : Int32) (x4 : Int32) (x5 : Int32) (t0 : Int32) (H : Heap) (locs : List Loc) (ls : Array Slot), mX11_whyNot_91 h k45 x1 x2 x4 x5 t0 = some r → Hp D ad ac LM h s H locs → lv_has ls 6 [(0, .ref (ad 0)), (1, .int x1), (2, .int x2), (4, .int x4), (5, .int x5)] → W p l e (rmD 1) s m args below meth c H locs 0 0 (MQ below (QU D ad ac LM (some (.int r)) h s.heap.size) args s 0 0 (Aa ad LM.length s.heap.size)) (F0 m 91 ls [.int t0]) := by
  obtain ⟨hx, hb, hml, hown, hts, hr, hlk, hC, hI, hR⟩ := id X
  intro x1 x2 x4 x5 t0 H locs ls hm hH hl
  rw [mX11_whyNot_91] at hm
  refine lv_istore_n (lv' := [(3, .int t0), (0, .ref (ad 0)), (1, .int x1), (2, .int x2), (4, .int x4), (5, .int x5)]) hx hb dX11_whyNot_91 rfl hl (by decide) rfl (fun ls hl => ?_)
  refine lv_iload hx hb dX11_whyNot_92 (lv_at hl 4 rfl) ?_
  refine lv_if_ne hx hb dX11_whyNot_94 (tgt := 141) (by decide) (fun hc => ?_) (fun hc => ?_)
  · rw [if_neg hc] at hm
    exact wX11_whyNot_141 X ih45 x1 x2 t0 x5 _ _ _ hm hH (lv_sub hl [1, 2, 3, 0, 5] rfl)
  · rw [if_pos hc] at hm
    refine lv_iload hx hb dX11_whyNot_97 (lv_at hl 5 rfl) ?_
    refine lv_iload_n hx hb dX11_whyNot_99 rfl (lv_at hl 2 rfl) ?_
    refine lv_icmp_eq hx hb dX11_whyNot_100 (tgt := 145) (by decide) (fun hc => ?_) (fun hc => ?_)
    · rw [if_pos hc] at hm
      exact wX11_whyNot_145 X ih45 x1 x2 t0 x5 _ _ _ hm hH (lv_sub hl [1, 2, 3, 0, 5] rfl)
    · rw [if_neg hc] at hm
      refine lv_aload_n hx hb dX11_whyNot_103 rfl (lv_at hl 1 rfl) ?_
      refine gR X hH fl_X11_52 lM_0 rfl dX11_whyNot_104 ?_
      refine lv_iload hx hb dX11_whyNot_107 (lv_at hl 5 rfl) ?_
      obtain ⟨hin1, hm⟩ := gIn_some hm
      refine ild X hH lM_15 hin1 dX11_whyNot_109 ?_
      refine lv_bipush (v := (-4)) hx hb dX11_whyNot_110 (by decide) ?_
      refine lv_icmp_eq hx hb dX11_whyNot_112 (tgt := 145) (by decide) (fun hc => ?_) (fun hc => ?_)
      · rw [if_pos hc] at hm
        exact wX11_whyNot_145 X ih45 x1 x2 t0 x5 _ _ _ hm hH (lv_sub hl [1, 2, 3, 0, 5] rfl)
      · rw [if_neg hc] at hm
        refine lv_aload_n hx hb dX11_whyNot_115 rfl (lv_at hl 1 rfl) ?_
        refine gR X hH fl_X11_43 lM_0 rfl dX11_whyNot_116 ?_
        refine lv_iload hx hb dX11_whyNot_119 (lv_at hl 5 rfl) ?_
        obtain ⟨hin2, hm⟩ := gIn_some hm
        refine ild X hH lM_12 hin2 dX11_whyNot_121 ?_
        refine lv_aload_n hx hb dX11_whyNot_122 rfl (lv_at hl 1 rfl) ?_
        refine gR X hH fl_X11_43 lM_0 rfl dX11_whyNot_123 ?_
        refine lv_iload_n hx hb dX11_whyNot_126 rfl (lv_at hl 2 rfl) ?_
        obtain ⟨hin3, hm⟩ := gIn_some hm
        refine ild X hH lM_12 hin3 dX11_whyNot_127 ?_
        refine lv_icmp_ne hx hb dX11_whyNot_128 (tgt := 145) (by decide) (fun hc => ?_) (fun hc => ?_)
        · rw [if_neg hc] at hm
          exact wX11_whyNot_145 X ih45 x1 x2 t0 x5 _ _ _ hm hH (lv_sub hl [1, 2, 3, 0, 5] rfl)
        · rw [if_pos hc] at hm
          refine lv_aload_n hx hb dX11_whyNot_131 rfl (lv_at hl 1 rfl) ?_
          refine lv_iload_n hx hb dX11_whyNot_132 rfl (lv_at hl 2 rfl) ?_
          refine lv_iload hx hb dX11_whyNot_133 (lv_at hl 5 rfl) ?_
          obtain ⟨v4, hq, hm⟩ := bd1_some hm
          refine cVi X hH kl_X11_162 kv_X11_overlap (mt_X11_overlap hq) lM_0 rfl rfl (by decide) hl.1 rfl (Nat.le_of_ble_eq_true rfl) dX11_whyNot_135 (fun H locs hH => ?_)
          refine lv_if_eq hx hb dX11_whyNot_138 (tgt := 145) (by decide) (fun hc => ?_) (fun hc => ?_)
          · rw [if_pos hc] at hm
            exact wX11_whyNot_145 X ih45 x1 x2 t0 x5 _ _ _ hm hH (lv_sub hl [1, 2, 3, 0, 5] rfl)
          · rw [if_neg hc] at hm
            exact wX11_whyNot_141 X ih45 x1 x2 t0 x5 _ _ _ hm hH (lv_sub hl [1, 2, 3, 0, 5] rfl)
def mX11_whyNot_90 (h : Mm) (k45 : Int32 → Int32 → Int32 → Int32 → Int32 → Option Int32) (x1 : Int32) (x2 : Int32) (x4 : Int32) (x5 : Int32) : Option Int32 := mX11_whyNot_91 h k45 x1 x2 x4 x5 (0 : Int32)
set_option maxRecDepth 4000 in
theorem wX11_whyNot_90 {p : Program} {l : Launch} {e : Env} {s : State} {m : MethodId} {args : Array Value} {below : List Frame} {meth : Method} {c : Code} {D : va_G} {ad : Nat → Nat} {ac : Nat → ClassId} {h : Mm} {r : Int32} (X : Fx p s m args meth c cX11_whyNot 6 RX11 (some .int) D ad ac LM []) {k45 : Int32 → Int32 → Int32 → Int32 → Int32 → Option Int32} (ih45 : ∀ (x1 : Int32) (x2 : Int32) (x3 : Int32) (x4 : Int32) (x5 : Int32) (H : Heap) (locs : List Loc) (ls : Array Slot), k45 x1 x2 x3 x4 x5 = some r → Hp D ad ac LM h s H locs → lv_has ls 6 [(0, .ref (ad 0)), (1, .int x1), (2, .int x2), (3, .int x3), (4, .int x4), (5, .int x5)] → W p l e (rmD 1) s m args below meth c H locs 0 0 (MQ below (QU D ad ac LM (some (.int r)) h s.heap.size) args s 0 0 (Aa ad LM.length s.heap.size)) (F0 m 45 ls [])) : ∀ (x1 : Int32) (x2 : Int32) (x4 : Int32) (x5 : Int32) (H : Heap) (locs : List Loc) (ls : Array Slot), mX11_whyNot_90 h k45 x1 x2 x4 x5 = some r → Hp D ad ac LM h s H locs → lv_has ls 6 [(0, .ref (ad 0)), (1, .int x1), (2, .int x2), (4, .int x4), (5, .int x5)] → W p l e (rmD 1) s m args below meth c H locs 0 0 (MQ below (QU D ad ac LM (some (.int r)) h s.heap.size) args s 0 0 (Aa ad LM.length s.heap.size)) (F0 m 90 ls []) := by
  obtain ⟨hx, hb, hml, hown, hts, hr, hlk, hC, hI, hR⟩ := id X
  intro x1 x2 x4 x5 H locs ls hm hH hl
  rw [mX11_whyNot_90] at hm
  refine lv_iconst (v := 0) hx hb dX11_whyNot_90 (by decide) ?_
  exact wX11_whyNot_91 X ih45 x1 x2 x4 x5 (0 : Int32) _ _ _ hm hH (lv_sub hl [0, 1, 2, 3, 4] rfl)
def mX11_whyNot_86 (h : Mm) (k45 : Int32 → Int32 → Int32 → Int32 → Int32 → Option Int32) (x1 : Int32) (x2 : Int32) (x4 : Int32) (x5 : Int32) : Option Int32 := mX11_whyNot_91 h k45 x1 x2 x4 x5 (1 : Int32)
set_option maxRecDepth 4000 in
theorem wX11_whyNot_86 {p : Program} {l : Launch} {e : Env} {s : State} {m : MethodId} {args : Array Value} {below : List Frame} {meth : Method} {c : Code} {D : va_G} {ad : Nat → Nat} {ac : Nat → ClassId} {h : Mm} {r : Int32} (X : Fx p s m args meth c cX11_whyNot 6 RX11 (some .int) D ad ac LM []) {k45 : Int32 → Int32 → Int32 → Int32 → Int32 → Option Int32} (ih45 : ∀ (x1 : Int32) (x2 : Int32) (x3 : Int32) (x4 : Int32) (x5 : Int32) (H : Heap) (locs : List Loc) (ls : Array Slot), k45 x1 x2 x3 x4 x5 = some r → Hp D ad ac LM h s H locs → lv_has ls 6 [(0, .ref (ad 0)), (1, .int x1), (2, .int x2), (3, .int x3), (4, .int x4), (5, .int x5)] → W p l e (rmD 1) s m args below meth c H locs 0 0 (MQ below (QU D ad ac LM (some (.int r)) h s.heap.size) args s 0 0 (Aa ad LM.length s.heap.size)) (F0 m 45 ls [])) : ∀ (x1 : Int32) (x2 : Int32) (x4 : Int32) (x5 : Int32) (H : Heap) (locs : List Loc) (ls : Array Slot), mX11_whyNot_86 h k45 x1 x2 x4 x5 = some r → Hp D ad ac LM h s H locs → lv_has ls 6 [(0, .ref (ad 0)), (1, .int x1), (2, .int x2), (4, .int x4), (5, .int x5)] → W p l e (rmD 1) s m args below meth c H locs 0 0 (MQ below (QU D ad ac LM (some (.int r)) h s.heap.size) args s 0 0 (Aa ad LM.length s.heap.size)) (F0 m 86 ls []) := by
  obtain ⟨hx, hb, hml, hown, hts, hr, hlk, hC, hI, hR⟩ := id X
  intro x1 x2 x4 x5 H locs ls hm hH hl
  rw [mX11_whyNot_86] at hm
  refine lv_iconst (v := 1) hx hb dX11_whyNot_86 (by decide) ?_
  refine lv_goto hx hb dX11_whyNot_87 (tgt := 91) (by decide) ?_
  exact wX11_whyNot_91 X ih45 x1 x2 x4 x5 (1 : Int32) _ _ _ hm hH (lv_sub hl [0, 1, 2, 3, 4] rfl)
def mX11_whyNot_45 (h : Mm) : Nat → Int32 → Int32 → Int32 → Int32 → Int32 → Option Int32
  | 0, _, _, _, _, _ => none
  | n + 1, x1, x2, x3, x4, x5 => if (h 0 16) ≤ x5 then (if x3 = 0 then (if x4 = 0 then (some (0 : Int32)) else (some (4 : Int32))) else (some (3 : Int32))) else (if x3 = 0 then (if x5 = x1 then (mX11_whyNot_90 h (mX11_whyNot_45 h n) x1 x2 x4 x5) else (gIn x5 32 (if (h 15 x5.toNatClampNeg) = x2 then (bd1 (mX11_together h x1 x5 x2) (fun v2 => if v2 = 0 then (mX11_whyNot_86 h (mX11_whyNot_45 h n) x1 x2 x4 x5) else (mX11_whyNot_90 h (mX11_whyNot_45 h n) x1 x2 x4 x5))) else (mX11_whyNot_90 h (mX11_whyNot_45 h n) x1 x2 x4 x5)))) else (mX11_whyNot_86 h (mX11_whyNot_45 h n) x1 x2 x4 x5))
set_option maxRecDepth 4000 in
theorem wX11_whyNot_45 {p : Program} {l : Launch} {e : Env} {s : State} {m : MethodId} {args : Array Value} {below : List Frame} {meth : Method} {c : Code} {D : va_G} {ad : Nat → Nat} {ac : Nat → ClassId} {h : Mm} {r : Int32} (X : Fx p s m args meth c cX11_whyNot 6 RX11 (some .int) D ad ac LM []) : ∀ (n : Nat) (x1 : Int32) (x2 : Int32) (x3 : Int32) (x4 : Int32) (x5 : Int32) (H : Heap) (locs : List Loc) (ls : Array Slot), mX11_whyNot_45 h n x1 x2 x3 x4 x5 = some r → Hp D ad ac LM h s H locs → lv_has ls 6 [(0, .ref (ad 0)), (1, .int x1), (2, .int x2), (3, .int x3), (4, .int x4), (5, .int x5)] → W p l e (rmD 1) s m args below meth c H locs 0 0 (MQ below (QU D ad ac LM (some (.int r)) h s.heap.size) args s 0 0 (Aa ad LM.length s.heap.size)) (F0 m 45 ls []) := by
  obtain ⟨hx, hb, hml, hown, hts, hr, hlk, hC, hI, hR⟩ := id X
  intro n
  induction n with
  | zero => intro x1 x2 x3 x4 x5 H locs ls hm; rw [mX11_whyNot_45] at hm; cases hm
  | succ n ih =>
    intro x1 x2 x3 x4 x5 H locs ls hm hH hl
    rw [mX11_whyNot_45] at hm
    refine lv_iload hx hb dX11_whyNot_45 (lv_at hl 5 rfl) ?_
    refine lv_aload_n hx hb dX11_whyNot_47 rfl (lv_at hl 0 rfl) ?_
    refine gI X hH fl_X11_124 lM_0 rfl dX11_whyNot_48 ?_
    refine lv_icmp_ge hx hb dX11_whyNot_51 (tgt := 154) (by decide) (fun hc => ?_) (fun hc => ?_)
    · rw [if_pos hc] at hm
      refine lv_iload_n hx hb dX11_whyNot_154 rfl (lv_at hl 3 rfl) ?_
      refine lv_if_eq hx hb dX11_whyNot_155 (tgt := 162) (by decide) (fun hc => ?_) (fun hc => ?_)
      · rw [if_pos hc] at hm
        refine lv_iload hx hb dX11_whyNot_162 (lv_at hl 4 rfl) ?_
        refine lv_if_eq hx hb dX11_whyNot_164 (tgt := 171) (by decide) (fun hc => ?_) (fun hc => ?_)
        · rw [if_pos hc] at hm
          refine lv_iconst (v := 0) hx hb dX11_whyNot_171 (by decide) ?_
          cases hm
          exact retI X hH dX11_whyNot_172
        · rw [if_neg hc] at hm
          refine lv_iconst (v := 4) hx hb dX11_whyNot_167 (by decide) ?_
          refine lv_goto hx hb dX11_whyNot_168 (tgt := 172) (by decide) ?_
          cases hm
          exact retI X hH dX11_whyNot_172
      · rw [if_neg hc] at hm
        refine lv_iconst (v := 3) hx hb dX11_whyNot_158 (by decide) ?_
        refine lv_goto hx hb dX11_whyNot_159 (tgt := 172) (by decide) ?_
        cases hm
        exact retI X hH dX11_whyNot_172
    · rw [if_neg hc] at hm
      refine lv_iload_n hx hb dX11_whyNot_54 rfl (lv_at hl 3 rfl) ?_
      refine lv_if_ne hx hb dX11_whyNot_55 (tgt := 86) (by decide) (fun hc => ?_) (fun hc => ?_)
      · rw [if_neg hc] at hm
        exact wX11_whyNot_86 X ih x1 x2 x4 x5 _ _ _ hm hH (lv_sub hl [0, 1, 2, 4, 5] rfl)
      · rw [if_pos hc] at hm
        refine lv_iload hx hb dX11_whyNot_58 (lv_at hl 5 rfl) ?_
        refine lv_iload_n hx hb dX11_whyNot_60 rfl (lv_at hl 1 rfl) ?_
        refine lv_icmp_eq hx hb dX11_whyNot_61 (tgt := 90) (by decide) (fun hc => ?_) (fun hc => ?_)
        · rw [if_pos hc] at hm
          exact wX11_whyNot_90 X ih x1 x2 x4 x5 _ _ _ hm hH (lv_sub hl [0, 1, 2, 4, 5] rfl)
        · rw [if_neg hc] at hm
          refine lv_aload_n hx hb dX11_whyNot_64 rfl (lv_at hl 0 rfl) ?_
          refine gR X hH fl_X11_52 lM_0 rfl dX11_whyNot_65 ?_
          refine lv_iload hx hb dX11_whyNot_68 (lv_at hl 5 rfl) ?_
          obtain ⟨hin1, hm⟩ := gIn_some hm
          refine ild X hH lM_15 hin1 dX11_whyNot_70 ?_
          refine lv_iload_n hx hb dX11_whyNot_71 rfl (lv_at hl 2 rfl) ?_
          refine lv_icmp_ne hx hb dX11_whyNot_72 (tgt := 90) (by decide) (fun hc => ?_) (fun hc => ?_)
          · rw [if_neg hc] at hm
            exact wX11_whyNot_90 X ih x1 x2 x4 x5 _ _ _ hm hH (lv_sub hl [0, 1, 2, 4, 5] rfl)
          · rw [if_pos hc] at hm
            refine lv_aload_n hx hb dX11_whyNot_75 rfl (lv_at hl 0 rfl) ?_
            refine lv_iload_n hx hb dX11_whyNot_76 rfl (lv_at hl 1 rfl) ?_
            refine lv_iload hx hb dX11_whyNot_77 (lv_at hl 5 rfl) ?_
            refine lv_iload_n hx hb dX11_whyNot_79 rfl (lv_at hl 2 rfl) ?_
            obtain ⟨v2, hq, hm⟩ := bd1_some hm
            refine cVi X hH kl_X11_159 kv_X11_together (mt_X11_together hq) lM_0 rfl rfl (by decide) hl.1 rfl (Nat.le_of_ble_eq_true rfl) dX11_whyNot_80 (fun H locs hH => ?_)
            refine lv_if_ne hx hb dX11_whyNot_83 (tgt := 90) (by decide) (fun hc => ?_) (fun hc => ?_)
            · rw [if_neg hc] at hm
              exact wX11_whyNot_90 X ih x1 x2 x4 x5 _ _ _ hm hH (lv_sub hl [0, 1, 2, 4, 5] rfl)
            · rw [if_pos hc] at hm
              exact wX11_whyNot_86 X ih x1 x2 x4 x5 _ _ _ hm hH (lv_sub hl [0, 1, 2, 4, 5] rfl)
def mX11_whyNot_20 (h : Mm) (x1 : Int32) : Option Int32 := gIn x1 32 (if (h 15 x1.toNatClampNeg) = (-4 : Int32) then (some (2 : Int32)) else (some (1 : Int32)))
set_option maxRecDepth 4000 in
theorem wX11_whyNot_20 {p : Program} {l : Launch} {e : Env} {s : State} {m : MethodId} {args : Array Value} {below : List Frame} {meth : Method} {c : Code} {D : va_G} {ad : Nat → Nat} {ac : Nat → ClassId} {h : Mm} {r : Int32} (X : Fx p s m args meth c cX11_whyNot 6 RX11 (some .int) D ad ac LM []) : ∀ (x1 : Int32) (H : Heap) (locs : List Loc) (ls : Array Slot), mX11_whyNot_20 h x1 = some r → Hp D ad ac LM h s H locs → lv_has ls 6 [(0, .ref (ad 0)), (1, .int x1)] → W p l e (rmD 1) s m args below meth c H locs 0 0 (MQ below (QU D ad ac LM (some (.int r)) h s.heap.size) args s 0 0 (Aa ad LM.length s.heap.size)) (F0 m 20 ls []) := by
  obtain ⟨hx, hb, hml, hown, hts, hr, hlk, hC, hI, hR⟩ := id X
  intro x1 H locs ls hm hH hl
  rw [mX11_whyNot_20] at hm
  refine lv_aload_n hx hb dX11_whyNot_20 rfl (lv_at hl 0 rfl) ?_
  refine gR X hH fl_X11_52 lM_0 rfl dX11_whyNot_21 ?_
  refine lv_iload_n hx hb dX11_whyNot_24 rfl (lv_at hl 1 rfl) ?_
  obtain ⟨hin1, hm⟩ := gIn_some hm
  refine ild X hH lM_15 hin1 dX11_whyNot_25 ?_
  refine lv_bipush (v := (-4)) hx hb dX11_whyNot_26 (by decide) ?_
  refine lv_icmp_eq hx hb dX11_whyNot_28 (tgt := 35) (by decide) (fun hc => ?_) (fun hc => ?_)
  · rw [if_pos hc] at hm
    refine lv_iconst (v := 2) hx hb dX11_whyNot_35 (by decide) ?_
    cases hm
    exact retI X hH dX11_whyNot_36
  · rw [if_neg hc] at hm
    refine lv_iconst (v := 1) hx hb dX11_whyNot_31 (by decide) ?_
    refine lv_goto hx hb dX11_whyNot_32 (tgt := 36) (by decide) ?_
    cases hm
    exact retI X hH dX11_whyNot_36
def mX11_whyNot (h : Mm) (a1 : Int32) (a2 : Int32) : Option Int32 := gIn a1 32 (if (h 15 a1.toNatClampNeg) = (-4 : Int32) then (bd1 (mX11_fits h a1 a2) (fun v2 => if v2 = 0 then (mX11_whyNot_20 h a1) else (mX11_whyNot_45 h FU a1 a2 (0 : Int32) (0 : Int32) (0 : Int32)))) else (mX11_whyNot_20 h a1))
set_option maxRecDepth 4000 in
theorem mt_X11_whyNot {l : Launch} {D : va_G} {ad : Nat → Nat} {ac : Nat → ClassId} {h : Mm} {a1 : Int32} {a2 : Int32} {r : Int32} (hm : mX11_whyNot h a1 a2 = some r) : Mt l D ad ac LM [] yX11_whyNot cX11_whyNot 6 (some .int) 1 [.ref (ad 0), .int a1, .int a2] h (some (.int r)) h := by
  refine Mt.of (own := RX11) (by decide) rfl (Nat.le_of_ble_eq_true rfl) ?_
  intro p e s m below meth c ls X hH hl
  obtain ⟨hx, hb, hml, hown, hts, hr, hlk, hC, hI, hR⟩ := id X
  have hl : lv_has ls 6 [(0, .ref (ad 0)), (1, .int a1), (2, .int a2)] := hl
  rw [mX11_whyNot] at hm
  refine lv_aload_n hx hb dX11_whyNot_0 rfl (lv_at hl 0 rfl) ?_
  refine gR X hH fl_X11_52 lM_0 rfl dX11_whyNot_1 ?_
  refine lv_iload_n hx hb dX11_whyNot_4 rfl (lv_at hl 1 rfl) ?_
  obtain ⟨hin1, hm⟩ := gIn_some hm
  refine ild X hH lM_15 hin1 dX11_whyNot_5 ?_
  refine lv_bipush (v := (-4)) hx hb dX11_whyNot_6 (by decide) ?_
  refine lv_icmp_ne hx hb dX11_whyNot_8 (tgt := 20) (by decide) (fun hc => ?_) (fun hc => ?_)
  · rw [if_neg hc] at hm
    exact wX11_whyNot_20 X a1 _ _ _ hm hH (lv_sub hl [0, 1] rfl)
  · rw [if_pos hc] at hm
    refine lv_aload_n hx hb dX11_whyNot_11 rfl (lv_at hl 0 rfl) ?_
    refine lv_iload_n hx hb dX11_whyNot_12 rfl (lv_at hl 1 rfl) ?_
    refine lv_iload_n hx hb dX11_whyNot_13 rfl (lv_at hl 2 rfl) ?_
    obtain ⟨v2, hq, hm⟩ := bd1_some hm
    refine cVi X hH kl_X11_152 kv_X11_fits (mt_X11_fits hq) lM_0 rfl rfl (by decide) hl.1 rfl (Nat.le_of_ble_eq_true rfl) dX11_whyNot_14 (fun H locs hH => ?_)
    refine lv_if_ne hx hb dX11_whyNot_17 (tgt := 37) (by decide) (fun hc => ?_) (fun hc => ?_)
    · rw [if_neg hc] at hm
      refine lv_iconst (v := 0) hx hb dX11_whyNot_37 (by decide) ?_
      refine lv_istore_n (lv' := [(3, .int (0 : Int32)), (0, .ref (ad 0)), (1, .int a1), (2, .int a2)]) hx hb dX11_whyNot_38 rfl hl (by decide) rfl (fun ls hl => ?_)
      refine lv_iconst (v := 0) hx hb dX11_whyNot_39 (by decide) ?_
      refine lv_istore (lv' := [(4, .int (0 : Int32)), (3, .int (0 : Int32)), (0, .ref (ad 0)), (1, .int a1), (2, .int a2)]) hx hb dX11_whyNot_40 hl (by decide) rfl (fun ls hl => ?_)
      refine lv_iconst (v := 0) hx hb dX11_whyNot_42 (by decide) ?_
      refine lv_istore (lv' := [(5, .int (0 : Int32)), (4, .int (0 : Int32)), (3, .int (0 : Int32)), (0, .ref (ad 0)), (1, .int a1), (2, .int a2)]) hx hb dX11_whyNot_43 hl (by decide) rfl (fun ls hl => ?_)
      exact wX11_whyNot_45 X FU a1 a2 (0 : Int32) (0 : Int32) (0 : Int32) _ _ _ hm hH (lv_sub hl [3, 4, 5, 2, 1, 0] rfl)
    · rw [if_pos hc] at hm
      exact wX11_whyNot_20 X a1 _ _ _ hm hH (lv_sub hl [0, 1] rfl)
/-! X11_give -/
def mX11_give (h : Mm) (a1 : Int32) (a2 : Int32) : Option (Int32 × Mm) := bd1 (mX11_isPass h a1) (fun v1 => if v1 = 0 then (some ((-1 : Int32), h)) else (bd1 (mX11_isAntenna h a2) (fun v2 => if v2 = 0 then (some ((-1 : Int32), h)) else (bd1 (mX11_whyNot h a1 a2) (fun v3 => if v3 ≤ 0 then (bdh (mX11_note h) (fun h4 => gIn a1 32 (mlet (wr h4 15 a1.toNatClampNeg a2) (fun h5 => bd1 (mX11_contacts h5) (fun v7 => some (v7, h5)))))) else (some ((-2 : Int32), h)))))))
set_option maxRecDepth 4000 in
theorem mt_X11_give {l : Launch} {D : va_G} {ad : Nat → Nat} {ac : Nat → ClassId} {h : Mm} {a1 : Int32} {a2 : Int32} {r : Int32} {h' : Mm} (hm : mX11_give h a1 a2 = some (r, h')) : Mt l D ad ac LM [] yX11_give cX11_give 3 (some .int) 2 [.ref (ad 0), .int a1, .int a2] h (some (.int r)) h' := by
  refine Mt.of (own := RX11) (by decide) rfl (Nat.le_of_ble_eq_true rfl) ?_
  intro p e s m below meth c ls X hH hl
  obtain ⟨hx, hb, hml, hown, hts, hr, hlk, hC, hI, hR⟩ := id X
  have hl : lv_has ls 3 [(0, .ref (ad 0)), (1, .int a1), (2, .int a2)] := hl
  rw [mX11_give] at hm
  refine lv_aload_n hx hb dX11_give_0 rfl (lv_at hl 0 rfl) ?_
  refine lv_iload_n hx hb dX11_give_1 rfl (lv_at hl 1 rfl) ?_
  obtain ⟨v1, hq, hm⟩ := bd1_some hm
  refine cVi X hH kl_X11_149 kv_X11_isPass (mt_X11_isPass hq) lM_0 rfl rfl (by decide) hl.1 rfl (Nat.le_of_ble_eq_true rfl) dX11_give_2 (fun H locs hH => ?_)
  refine lv_if_eq hx hb dX11_give_5 (tgt := 16) (by decide) (fun hc => ?_) (fun hc => ?_)
  · rw [if_pos hc] at hm
    refine lv_iconst (v := (-1)) hx hb dX11_give_16 (by decide) ?_
    cases hm
    exact retI X hH dX11_give_17
  · rw [if_neg hc] at hm
    refine lv_aload_n hx hb dX11_give_8 rfl (lv_at hl 0 rfl) ?_
    refine lv_iload_n hx hb dX11_give_9 rfl (lv_at hl 2 rfl) ?_
    obtain ⟨v2, hq, hm⟩ := bd1_some hm
    refine cVi X hH kl_X11_144 kv_X11_isAntenna (mt_X11_isAntenna hq) lM_0 rfl rfl (by decide) hl.1 rfl (Nat.le_of_ble_eq_true rfl) dX11_give_10 (fun H locs hH => ?_)
    refine lv_if_ne hx hb dX11_give_13 (tgt := 18) (by decide) (fun hc => ?_) (fun hc => ?_)
    · rw [if_neg hc] at hm
      refine lv_aload_n hx hb dX11_give_18 rfl (lv_at hl 0 rfl) ?_
      refine lv_iload_n hx hb dX11_give_19 rfl (lv_at hl 1 rfl) ?_
      refine lv_iload_n hx hb dX11_give_20 rfl (lv_at hl 2 rfl) ?_
      obtain ⟨v3, hq, hm⟩ := bd1_some hm
      refine cVi X hH kl_X11_165 kv_X11_whyNot (mt_X11_whyNot hq) lM_0 rfl rfl (by decide) hl.1 rfl (Nat.le_of_ble_eq_true rfl) dX11_give_21 (fun H locs hH => ?_)
      refine lv_if_le hx hb dX11_give_24 (tgt := 30) (by decide) (fun hc => ?_) (fun hc => ?_)
      · rw [if_pos hc] at hm
        refine lv_aload_n hx hb dX11_give_30 rfl (lv_at hl 0 rfl) ?_
        obtain ⟨h4, hq, hm⟩ := bdh_some hm
        refine cVv X hH kl_X11_168 kv_X11_note (mt_X11_note hq) lM_0 rfl rfl (by decide) hl.1 rfl (Nat.le_of_ble_eq_true rfl) dX11_give_31 (fun H locs hH => ?_)
        refine lv_aload_n hx hb dX11_give_34 rfl (lv_at hl 0 rfl) ?_
        refine gR X hH fl_X11_52 lM_0 rfl dX11_give_35 ?_
        refine lv_iload_n hx hb dX11_give_38 rfl (lv_at hl 1 rfl) ?_
        refine lv_iload_n hx hb dX11_give_39 rfl (lv_at hl 2 rfl) ?_
        obtain ⟨hin6, hm⟩ := gIn_some hm
        obtain ⟨h5, eh5, hm⟩ := mlet_some hm
        refine ist X hH lM_15 hin6 dX11_give_40 (fun H locs hH => ?_)
        rw [← eh5] at hH
        refine lv_aload_n hx hb dX11_give_41 rfl (lv_at hl 0 rfl) ?_
        obtain ⟨v7, hq, hm⟩ := bd1_some hm
        refine cVi X hH kl_X11_171 kv_X11_contacts (mt_X11_contacts hq) lM_0 rfl rfl (by decide) hl.1 rfl (Nat.le_of_ble_eq_true rfl) dX11_give_42 (fun H locs hH => ?_)
        cases hm
        exact retI X hH dX11_give_45
      · rw [if_neg hc] at hm
        refine lv_bipush (v := (-2)) hx hb dX11_give_27 (by decide) ?_
        cases hm
        exact retI X hH dX11_give_29
    · rw [if_pos hc] at hm
      refine lv_iconst (v := (-1)) hx hb dX11_give_16 (by decide) ?_
      cases hm
      exact retI X hH dX11_give_17
