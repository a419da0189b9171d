/-! X9_follow -/
def mX9_follow_175 (k66 : Int32 → Int32 → Int32 → Int32 → Mm → Option Mm) (x4 : Int32) (x5 : Int32) (x6 : Int32) (x7 : Int32) (h : Mm) : Option Mm := k66 x4 x5 x6 (x7 + 1) h
set_option maxRecDepth 4000 in
theorem wX9_follow_175 {p : Program} {l : Launch} {e : Env} {s : State} {m : MethodId} {args : Array Value} {below : List Frame} {meth : Method} {c : Code} {D : va_G} {ad : Nat → Nat} {ac : Nat → ClassId} {h' : Mm} (X : Fx p s m args meth c cX9_follow 9 RX9 none D ad ac LC rlC) {k66 : Int32 → Int32 → Int32 → Int32 → Mm → Option Mm} (ih66 : ∀ (x4 : Int32) (x5 : Int32) (x6 : Int32) (x7 : Int32) (h : Mm) (H : Heap) (locs : List Loc) (ls : Array Slot), k66 x4 x5 x6 x7 h = some h' → Hp D ad ac LC h s H locs → lv_has ls 9 [(0, .ref (ad 15)), (4, .int x4), (5, .int x5), (6, .int x6), (7, .int x7)] → W p l e (rmD 3) s m args below meth c H locs 0 0 (MQ below (QU D ad ac LC none h' s.heap.size) args s 0 0 (Aa ad LC.length s.heap.size)) (F0 m 66 ls [])) : ∀ (x4 : Int32) (x5 : Int32) (x6 : Int32) (x7 : Int32) (h : Mm) (H : Heap) (locs : List Loc) (ls : Array Slot), mX9_follow_175 k66 x4 x5 x6 x7 h = some h' → Hp D ad ac LC h s H locs → lv_has ls 9 [(0, .ref (ad 15)), (4, .int x4), (5, .int x5), (6, .int x6), (7, .int x7)] → W p l e (rmD 3) s m args below meth c H locs 0 0 (MQ below (QU D ad ac LC none h' s.heap.size) args s 0 0 (Aa ad LC.length s.heap.size)) (F0 m 175 ls []) := by
  obtain ⟨hx, hb, hml, hown, hts, hr, hlk, hC, hI, hR⟩ := id X
  intro x4 x5 x6 x7 h H locs ls hm hH hl
  rw [mX9_follow_175] at hm
  refine lv_iinc (k := 4) (v := (x7 + 1)) (lv' := [(7, .int (x7 + 1)), (0, .ref (ad 15)), (4, .int x4), (5, .int x5), (6, .int x6)]) hx hb dX9_follow_175 hl rfl rfl (by decide) rfl (fun ls hl => ?_)
  refine lv_goto hx hb dX9_follow_178 (tgt := 66) (by decide) ?_
  exact ih66 x4 x5 x6 (x7 + 1) h _ _ _ hm hH (lv_sub hl [1, 2, 3, 4, 0] rfl)
def mX9_follow_172 (k66 : Int32 → Int32 → Int32 → Int32 → Mm → Option Mm) (x4 : Int32) (x5 : Int32) (x6 : Int32) (x7 : Int32) (t0 : Int32) (h : Mm) : Option Mm := mlet (wr h 15 4 t0) (fun h1 => mX9_follow_175 k66 x4 x5 x6 x7 h1)
set_option maxRecDepth 4000 in
theorem wX9_follow_172 {p : Program} {l : Launch} {e : Env} {s : State} {m : MethodId} {args : Array Value} {below : List Frame} {meth : Method} {c : Code} {D : va_G} {ad : Nat → Nat} {ac : Nat → ClassId} {h' : Mm} (X : Fx p s m args meth c cX9_follow 9 RX9 none D ad ac LC rlC) {k66 : Int32 → Int32 → Int32 → Int32 → Mm → Option Mm} (ih66 : ∀ (x4 : Int32) (x5 : Int32) (x6 : Int32) (x7 : Int32) (h : Mm) (H : Heap) (locs : List Loc) (ls : Array Slot), k66 x4 x5 x6 x7 h = some h' → Hp D ad ac LC h s H locs → lv_has ls 9 [(0, .ref (ad 15)), (4, .int x4), (5, .int x5), (6, .int x6), (7, .int x7)] → W p l e (rmD 3) s m args below meth c H locs 0 0 (MQ below (QU D ad ac LC none h' s.heap.size) args s 0 0 (Aa ad LC.length s.heap.size)) (F0 m 66 ls [])) : ∀ (x4 : Int32) (x5 : Int32) (x6 : Int32) (x7 : Int32) (t0 : Int32) (h : Mm) (H : Heap) (locs : List Loc) (ls : Array Slot), mX9_follow_172 k66 x4 x5 x6 x7 t0 h = some h' → Hp D ad ac LC h s H locs → lv_has ls 9 [(0, .ref (ad 15)), (4, .int x4), (5, .int x5), (6, .int x6), (7, .int x7)] → W p l e (rmD 3) s m args below meth c H locs 0 0 (MQ below (QU D ad ac LC none h' s.heap.size) args s 0 0 (Aa ad LC.length s.heap.size)) (F0 m 172 ls [.int t0, .ref (ad 15)]) := by
  obtain ⟨hx, hb, hml, hown, hts, hr, hlk, hC, hI, hR⟩ := id X
  intro x4 x5 x6 x7 t0 h H locs ls hm hH hl
  rw [mX9_follow_172] at hm
  obtain ⟨h1, eh1, hm⟩ := mlet_some hm
  refine pI X hH fl_X9_51 fw_9_4 lC_15 rfl dX9_follow_172 (fun H locs hH => ?_)
  rw [← eh1] at hH
  exact wX9_follow_175 X ih66 x4 x5 x6 x7 h1 _ _ _ hm hH (lv_sub hl [0, 1, 2, 3, 4] rfl)
def mX9_follow_66 : Nat → Int32 → Int32 → Int32 → Int32 → Mm → Option Mm
  | 0, _, _, _, _, _ => none
  | n + 1, x4, x5, x6, x7, h => if x4 < x7 then (some h) else (mlet (wr h 15 1 ((h 15 1) + x6)) (fun h1 => gIn x7 60 (bd1 (mJ9_min_7cf53 h1 (h1 16 x7.toNatClampNeg) (h1 15 1)) (fun v3 => mlet (wr h1 15 1 ((h1 15 1) - v3)) (fun h4 => mlet (wr h4 15 3 ((h4 15 3) + v3)) (fun h5 => if (h5 15 1) ≤ x5 then (mX9_follow_175 (mX9_follow_66 n) x4 x5 x6 x7 h5) else (mlet (wr h5 15 2 ((h5 15 2) + ((h5 15 1) - x5))) (fun h6 => mlet (wr h6 15 1 x5) (fun h7 => if (h7 15 4) = (-4 : Int32) then (mX9_follow_172 (mX9_follow_66 n) x4 x5 x6 x7 x7 h7) else (mX9_follow_172 (mX9_follow_66 n) x4 x5 x6 x7 (h7 15 4) h7))))))))))
set_option maxRecDepth 4000 in
theorem wX9_follow_66 {p : Program} {l : Launch} {e : Env} {s : State} {m : MethodId} {args : Array Value} {below : List Frame} {meth : Method} {c : Code} {D : va_G} {ad : Nat → Nat} {ac : Nat → ClassId} {h' : Mm} (X : Fx p s m args meth c cX9_follow 9 RX9 none D ad ac LC rlC) : ∀ (n : Nat) (x4 : Int32) (x5 : Int32) (x6 : Int32) (x7 : Int32) (h : Mm) (H : Heap) (locs : List Loc) (ls : Array Slot), mX9_follow_66 n x4 x5 x6 x7 h = some h' → Hp D ad ac LC h s H locs → lv_has ls 9 [(0, .ref (ad 15)), (4, .int x4), (5, .int x5), (6, .int x6), (7, .int x7)] → W p l e (rmD 3) s m args below meth c H locs 0 0 (MQ below (QU D ad ac LC none h' s.heap.size) args s 0 0 (Aa ad LC.length s.heap.size)) (F0 m 66 ls []) := by
  obtain ⟨hx, hb, hml, hown, hts, hr, hlk, hC, hI, hR⟩ := id X
  intro n
  induction n with
  | zero => intro x4 x5 x6 x7 h H locs ls hm; rw [mX9_follow_66] at hm; cases hm
  | succ n ih =>
    intro x4 x5 x6 x7 h H locs ls hm hH hl
    rw [mX9_follow_66] at hm
    refine lv_iload hx hb dX9_follow_66 (lv_at hl 4 rfl) ?_
    refine lv_iload hx hb dX9_follow_68 (lv_at hl 1 rfl) ?_
    refine lv_icmp_gt hx hb dX9_follow_70 (tgt := 181) (by decide) (fun hc => ?_) (fun hc => ?_)
    · rw [if_pos hc] at hm
      cases hm
      exact retV X hH dX9_follow_181
    · rw [if_neg hc] at hm
      refine lv_aload_n hx hb dX9_follow_73 rfl (lv_at hl 0 rfl) ?_
      refine lv_dup hx hb dX9_follow_74 rfl ?_
      refine gI X hH fl_X9_41 lC_15 rfl dX9_follow_75 ?_
      refine lv_iload hx hb dX9_follow_78 (lv_at hl 3 rfl) ?_
      refine lv_iadd hx hb dX9_follow_80 ?_
      obtain ⟨h1, eh1, hm⟩ := mlet_some hm
      refine pI X hH fl_X9_41 fw_9_1 lC_15 rfl dX9_follow_81 (fun H locs hH => ?_)
      rw [← eh1] at hH
      refine lv_aload_n hx hb dX9_follow_84 rfl (lv_at hl 0 rfl) ?_
      refine gR X hH fl_X9_9 lC_15 rfl dX9_follow_85 ?_
      refine lv_iload hx hb dX9_follow_88 (lv_at hl 4 rfl) ?_
      obtain ⟨hin2, hm⟩ := gIn_some hm
      refine ild X hH lC_16 hin2 dX9_follow_90 ?_
      refine lv_aload_n hx hb dX9_follow_91 rfl (lv_at hl 0 rfl) ?_
      refine gI X hH fl_X9_41 lC_15 rfl dX9_follow_92 ?_
      obtain ⟨v3, hq, hm⟩ := bd1_some hm
      refine cSi (As := [.int (h1 16 x7.toNatClampNeg), .int (h1 15 1)]) X hH kl_X9_54 ks_J9_min_7cf53 (mt_J9_min_7cf53 hq) rfl (by decide) hl.1 rfl (Nat.le_of_ble_eq_true rfl) dX9_follow_95 (fun H locs hH => ?_)
      refine lv_istore (lv' := [(8, .int v3), (0, .ref (ad 15)), (4, .int x4), (5, .int x5), (6, .int x6), (7, .int x7)]) hx hb dX9_follow_98 hl (by decide) rfl (fun ls hl => ?_)
      refine lv_aload_n hx hb dX9_follow_100 rfl (lv_at hl 1 rfl) ?_
      refine lv_dup hx hb dX9_follow_101 rfl ?_
      refine gI X hH fl_X9_41 lC_15 rfl dX9_follow_102 ?_
      refine lv_iload hx hb dX9_follow_105 (lv_at hl 0 rfl) ?_
      refine lv_isub hx hb dX9_follow_107 ?_
      obtain ⟨h4, eh4, hm⟩ := mlet_some hm
      refine pI X hH fl_X9_41 fw_9_1 lC_15 rfl dX9_follow_108 (fun H locs hH => ?_)
      rw [← eh4] at hH
      refine lv_aload_n hx hb dX9_follow_111 rfl (lv_at hl 1 rfl) ?_
      refine lv_dup hx hb dX9_follow_112 rfl ?_
      refine gI X hH fl_X9_48 lC_15 rfl dX9_follow_113 ?_
      refine lv_iload hx hb dX9_follow_116 (lv_at hl 0 rfl) ?_
      refine lv_iadd hx hb dX9_follow_118 ?_
      obtain ⟨h5, eh5, hm⟩ := mlet_some hm
      refine pI X hH fl_X9_48 fw_9_3 lC_15 rfl dX9_follow_119 (fun H locs hH => ?_)
      rw [← eh5] at hH
      refine lv_aload_n hx hb dX9_follow_122 rfl (lv_at hl 1 rfl) ?_
      refine gI X hH fl_X9_41 lC_15 rfl dX9_follow_123 ?_
      refine lv_iload hx hb dX9_follow_126 (lv_at hl 3 rfl) ?_
      refine lv_icmp_le hx hb dX9_follow_128 (tgt := 175) (by decide) (fun hc => ?_) (fun hc => ?_)
      · rw [if_pos hc] at hm
        exact wX9_follow_175 X ih x4 x5 x6 x7 h5 _ _ _ hm hH (lv_sub hl [1, 2, 3, 4, 5] rfl)
      · rw [if_neg hc] at hm
        refine lv_aload_n hx hb dX9_follow_131 rfl (lv_at hl 1 rfl) ?_
        refine lv_dup hx hb dX9_follow_132 rfl ?_
        refine gI X hH fl_X9_45 lC_15 rfl dX9_follow_133 ?_
        refine lv_aload_n hx hb dX9_follow_136 rfl (lv_at hl 1 rfl) ?_
        refine gI X hH fl_X9_41 lC_15 rfl dX9_follow_137 ?_
        refine lv_iload hx hb dX9_follow_140 (lv_at hl 3 rfl) ?_
        refine lv_isub hx hb dX9_follow_142 ?_
        refine lv_iadd hx hb dX9_follow_143 ?_
        obtain ⟨h6, eh6, hm⟩ := mlet_some hm
        refine pI X hH fl_X9_45 fw_9_2 lC_15 rfl dX9_follow_144 (fun H locs hH => ?_)
        rw [← eh6] at hH
        refine lv_aload_n hx hb dX9_follow_147 rfl (lv_at hl 1 rfl) ?_
        refine lv_iload hx hb dX9_follow_148 (lv_at hl 3 rfl) ?_
        obtain ⟨h7, eh7, hm⟩ := mlet_some hm
        refine pI X hH fl_X9_41 fw_9_1 lC_15 rfl dX9_follow_150 (fun H locs hH => ?_)
        rw [← eh7] at hH
        refine lv_aload_n hx hb dX9_follow_153 rfl (lv_at hl 1 rfl) ?_
        refine lv_aload_n hx hb dX9_follow_154 rfl (lv_at hl 1 rfl) ?_
        refine gI X hH fl_X9_51 lC_15 rfl dX9_follow_155 ?_
        refine lv_bipush (v := (-4)) hx hb dX9_follow_158 (by decide) ?_
        refine lv_icmp_ne hx hb dX9_follow_160 (tgt := 168) (by decide) (fun hc => ?_) (fun hc => ?_)
        · rw [if_neg hc] at hm
          refine lv_aload_n hx hb dX9_follow_168 rfl (lv_at hl 1 rfl) ?_
          refine gI X hH fl_X9_51 lC_15 rfl dX9_follow_169 ?_
          exact wX9_follow_172 X ih x4 x5 x6 x7 (h7 15 4) h7 _ _ _ hm hH (lv_sub hl [1, 2, 3, 4, 5] rfl)
        · rw [if_pos hc] at hm
          refine lv_iload hx hb dX9_follow_163 (lv_at hl 5 rfl) ?_
          refine lv_goto hx hb dX9_follow_165 (tgt := 172) (by decide) ?_
          exact wX9_follow_172 X ih x4 x5 x6 x7 x7 h7 _ _ _ hm hH (lv_sub hl [1, 2, 3, 4, 5] rfl)
def mX9_follow (h : Mm) (a2 : Int32) (a3 : Int32) (a4 : Int32) : Option Mm := bdh (mX9_gatherFlow h a2 a3) (fun h1 => bd1 (mX2_number_31 h1 a2 (3 : Int32)) (fun v2 => mlet ((2 : Int32) * v2) (fun u3 => bd1 (mX2_number_31 h1 a2 (4 : Int32)) (fun v4 => mlet ((2 : Int32) * v4) (fun u5 => mlet (wr h1 15 1 (0 : Int32)) (fun h6 => mlet (wr h6 15 2 (0 : Int32)) (fun h7 => mlet (wr h7 15 3 (0 : Int32)) (fun h8 => mlet (wr h8 15 4 (-4 : Int32)) (fun h9 => mX9_follow_66 FU a4 u3 u5 (0 : Int32) h9)))))))))
set_option maxRecDepth 4000 in
theorem mt_X9_follow {l : Launch} {D : va_G} {ad : Nat → Nat} {ac : Nat → ClassId} {h : Mm} {a2 : Int32} {a3 : Int32} {a4 : Int32} {h' : Mm} (hm : mX9_follow h a2 a3 a4 = some h') : Mt l D ad ac LC rlC yX9_follow cX9_follow 9 none 3 [.ref (ad 15), .ref (ad 3), .int a2, .int a3, .int a4] h none h' := by
  refine Mt.of (own := RX9) (by decide) rfl (Nat.le_of_ble_eq_true rfl) ?_
  intro p e s m below meth c ls X hH hl
  obtain ⟨hx, hb, hml, hown, hts, hr, hlk, hC, hI, hR⟩ := id X
  have hl : lv_has ls 9 [(0, .ref (ad 15)), (1, .ref (ad 3)), (2, .int a2), (3, .int a3), (4, .int a4)] := hl
  rw [mX9_follow] at hm
  refine lv_aload_n hx hb dX9_follow_0 rfl (lv_at hl 0 rfl) ?_
  refine lv_aload_n hx hb dX9_follow_1 rfl (lv_at hl 1 rfl) ?_
  refine gR X hH fl_X9_15 lC_3 rfl dX9_follow_2 ?_
  refine lv_iload_n hx hb dX9_follow_5 rfl (lv_at hl 2 rfl) ?_
  refine lv_iload_n hx hb dX9_follow_6 rfl (lv_at hl 3 rfl) ?_
  obtain ⟨h1, hq, hm⟩ := bdh_some hm
  refine cVv X hH kl_X9_21 kv_X9_gatherFlow (mt_X9_gatherFlow hq) lC_15 rfl rfl (by decide) hl.1 rfl (Nat.le_of_ble_eq_true rfl) dX9_follow_7 (fun H locs hH => ?_)
  refine lv_iconst (v := 2) hx hb dX9_follow_10 (by decide) ?_
  refine lv_aload_n hx hb dX9_follow_11 rfl (lv_at hl 1 rfl) ?_
  refine gR X hH fl_X9_25 lC_3 rfl dX9_follow_12 ?_
  refine gR X hH fl_X9_29 lC_30 rfl dX9_follow_15 ?_
  refine lv_iload_n hx hb dX9_follow_18 rfl (lv_at hl 2 rfl) ?_
  refine lv_iconst (v := 3) hx hb dX9_follow_19 (by decide) ?_
  obtain ⟨v2, hq, hm⟩ := bd1_some hm
  refine cVi X hH kl_X9_35 kv_X2_number (mt_X2_number_31 hq) lC_31 rfl rfl (by decide) hl.1 rfl (Nat.le_of_ble_eq_true rfl) dX9_follow_20 (fun H locs hH => ?_)
  refine lv_imul hx hb dX9_follow_23 ?_
  obtain ⟨u3, eu3, hm⟩ := mlet_some hm
  refine W.eq (g2 := F0 m 24 ls (.int u3 :: [])) (by rw [eu3]) ?_
  refine lv_istore (lv' := [(5, .int u3), (0, .ref (ad 15)), (1, .ref (ad 3)), (2, .int a2), (3, .int a3), (4, .int a4)]) hx hb dX9_follow_24 hl (by decide) rfl (fun ls hl => ?_)
  refine lv_iconst (v := 2) hx hb dX9_follow_26 (by decide) ?_
  refine lv_aload_n hx hb dX9_follow_27 rfl (lv_at hl 2 rfl) ?_
  refine gR X hH fl_X9_25 lC_3 rfl dX9_follow_28 ?_
  refine gR X hH fl_X9_29 lC_30 rfl dX9_follow_31 ?_
  refine lv_iload_n hx hb dX9_follow_34 rfl (lv_at hl 3 rfl) ?_
  refine lv_iconst (v := 4) hx hb dX9_follow_35 (by decide) ?_
  obtain ⟨v4, hq, hm⟩ := bd1_some hm
  refine cVi X hH kl_X9_35 kv_X2_number (mt_X2_number_31 hq) lC_31 rfl rfl (by decide) hl.1 rfl (Nat.le_of_ble_eq_true rfl) dX9_follow_36 (fun H locs hH => ?_)
  refine lv_imul hx hb dX9_follow_39 ?_
  obtain ⟨u5, eu5, hm⟩ := mlet_some hm
  refine W.eq (g2 := F0 m 40 ls (.int u5 :: [])) (by rw [eu5]) ?_
  refine lv_istore (lv' := [(6, .int u5), (5, .int u3), (0, .ref (ad 15)), (1, .ref (ad 3)), (2, .int a2), (3, .int a3), (4, .int a4)]) hx hb dX9_follow_40 hl (by decide) rfl (fun ls hl => ?_)
  refine lv_aload_n hx hb dX9_follow_42 rfl (lv_at hl 2 rfl) ?_
  refine lv_iconst (v := 0) hx hb dX9_follow_43 (by decide) ?_
  obtain ⟨h6, eh6, hm⟩ := mlet_some hm
  refine pI X hH fl_X9_41 fw_9_1 lC_15 rfl dX9_follow_44 (fun H locs hH => ?_)
  rw [← eh6] at hH
  refine lv_aload_n hx hb dX9_follow_47 rfl (lv_at hl 2 rfl) ?_
  refine lv_iconst (v := 0) hx hb dX9_follow_48 (by decide) ?_
  obtain ⟨h7, eh7, hm⟩ := mlet_some hm
  refine pI X hH fl_X9_45 fw_9_2 lC_15 rfl dX9_follow_49 (fun H locs hH => ?_)
  rw [← eh7] at hH
  refine lv_aload_n hx hb dX9_follow_52 rfl (lv_at hl 2 rfl) ?_
  refine lv_iconst (v := 0) hx hb dX9_follow_53 (by decide) ?_
  obtain ⟨h8, eh8, hm⟩ := mlet_some hm
  refine pI X hH fl_X9_48 fw_9_3 lC_15 rfl dX9_follow_54 (fun H locs hH => ?_)
  rw [← eh8] at hH
  refine lv_aload_n hx hb dX9_follow_57 rfl (lv_at hl 2 rfl) ?_
  refine lv_bipush (v := (-4)) hx hb dX9_follow_58 (by decide) ?_
  obtain ⟨h9, eh9, hm⟩ := mlet_some hm
  refine pI X hH fl_X9_51 fw_9_4 lC_15 rfl dX9_follow_60 (fun H locs hH => ?_)
  rw [← eh9] at hH
  refine lv_iconst (v := 0) hx hb dX9_follow_63 (by decide) ?_
  refine lv_istore (lv' := [(7, .int (0 : Int32)), (6, .int u5), (5, .int u3), (0, .ref (ad 15)), (1, .ref (ad 3)), (2, .int a2), (3, .int a3), (4, .int a4)]) hx hb dX9_follow_64 hl (by decide) rfl (fun ls hl => ?_)
  exact wX9_follow_66 X FU a4 u3 u5 (0 : Int32) h9 _ _ _ hm hH (lv_sub hl [3, 7, 2, 1, 0] rfl)
/-! X6_weighLosses -/
def mX6_weighLosses_81 (k10 : Int32 → Mm → Option Mm) (k35 : Int32 → Int32 → Int32 → Mm → Option Mm) (x3 : Int32) (x4 : Int32) (x5 : Int32) (h : Mm) : Option Mm := gIn (((1 : Int32) <<< ((h 22 8) &&& 31)) + x5) 128 (gIn (x5 &&& x4) 64 (gIn (((1 : Int32) <<< ((h 22 8) &&& 31)) + x5) 128 (mlet (wr h 26 (((1 : Int32) <<< ((h 22 8) &&& 31)) + x5).toNatClampNeg ((h 26 (((1 : Int32) <<< ((h 22 8) &&& 31)) + x5).toNatClampNeg) + (h 27 (x5 &&& x4).toNatClampNeg))) (fun h3 => k35 x3 x4 (x5 + 1) h3))))
set_option maxRecDepth 4000 in
theorem wX6_weighLosses_81 {p : Program} {l : Launch} {e : Env} {s : State} {m : MethodId} {args : Array Value} {below : List Frame} {meth : Method} {c : Code} {D : va_G} {ad : Nat → Nat} {ac : Nat → ClassId} {h' : Mm} (X : Fx p s m args meth c cX6_weighLosses 6 RX6 none D ad ac LC rlC) {k10 : Int32 → Mm → Option Mm} {k35 : Int32 → Int32 → Int32 → Mm → Option Mm} (ih10 : ∀ (x3 : Int32) (h : Mm) (H : Heap) (locs : List Loc) (ls : Array Slot), k10 x3 h = some h' → Hp D ad ac LC h s H locs → lv_has ls 6 [(0, .ref (ad 22)), (1, .ref (ad 3)), (2, .ref (ad 15)), (3, .int x3)] → W p l e (rmD 4) s m args below meth c H locs 0 0 (MQ below (QU D ad ac LC none h' s.heap.size) args s 0 0 (Aa ad LC.length s.heap.size)) (F0 m 10 ls [])) (ih35 : ∀ (x3 : Int32) (x4 : Int32) (x5 : Int32) (h : Mm) (H : Heap) (locs : List Loc) (ls : Array Slot), k35 x3 x4 x5 h = some h' → Hp D ad ac LC h s H locs → lv_has ls 6 [(0, .ref (ad 22)), (1, .ref (ad 3)), (2, .ref (ad 15)), (3, .int x3), (4, .int x4), (5, .int x5)] → W p l e (rmD 4) s m args below meth c H locs 0 0 (MQ below (QU D ad ac LC none h' s.heap.size) args s 0 0 (Aa ad LC.length s.heap.size)) (F0 m 35 ls [])) : ∀ (x3 : Int32) (x4 : Int32) (x5 : Int32) (h : Mm) (H : Heap) (locs : List Loc) (ls : Array Slot), mX6_weighLosses_81 k10 k35 x3 x4 x5 h = some h' → Hp D ad ac LC h s H locs → lv_has ls 6 [(0, .ref (ad 22)), (1, .ref (ad 3)), (2, .ref (ad 15)), (3, .int x3), (4, .int x4), (5, .int x5)] → W p l e (rmD 4) s m args below meth c H locs 0 0 (MQ below (QU D ad ac LC none h' s.heap.size) args s 0 0 (Aa ad LC.length s.heap.size)) (F0 m 81 ls []) := by
  obtain ⟨hx, hb, hml, hown, hts, hr, hlk, hC, hI, hR⟩ := id X
  intro x3 x4 x5 h H locs ls hm hH hl
  rw [mX6_weighLosses_81] at hm
  refine lv_aload_n hx hb dX6_weighLosses_81 rfl (lv_at hl 0 rfl) ?_
  refine gR X hH fl_X6_21 lC_22 rfl dX6_weighLosses_82 ?_
  refine lv_iconst (v := 1) hx hb dX6_weighLosses_85 (by decide) ?_
  refine lv_aload_n hx hb dX6_weighLosses_86 rfl (lv_at hl 0 rfl) ?_
  refine gI X hH fl_X6_53 lC_22 rfl dX6_weighLosses_87 ?_
  refine lv_ishl hx hb dX6_weighLosses_90 ?_
  refine lv_iload hx hb dX6_weighLosses_91 (lv_at hl 5 rfl) ?_
  refine lv_iadd hx hb dX6_weighLosses_93 ?_
  refine lv_dup2_11 hx hb dX6_weighLosses_94 rfl rfl ?_
  obtain ⟨hin1, hm⟩ := gIn_some hm
  refine ild X hH lC_26 hin1 dX6_weighLosses_95 ?_
  refine lv_aload_n hx hb dX6_weighLosses_96 rfl (lv_at hl 0 rfl) ?_
  refine gR X hH fl_X6_24 lC_22 rfl dX6_weighLosses_97 ?_
  refine lv_iload hx hb dX6_weighLosses_100 (lv_at hl 5 rfl) ?_
  refine lv_iload hx hb dX6_weighLosses_102 (lv_at hl 4 rfl) ?_
  refine lv_iand hx hb dX6_weighLosses_104 ?_
  obtain ⟨hin2, hm⟩ := gIn_some hm
  refine ild X hH lC_27 hin2 dX6_weighLosses_105 ?_
  refine lv_iadd hx hb dX6_weighLosses_106 ?_
  obtain ⟨hin4, hm⟩ := gIn_some hm
  obtain ⟨h3, eh3, hm⟩ := mlet_some hm
  refine ist X hH lC_26 hin4 dX6_weighLosses_107 (fun H locs hH => ?_)
  rw [← eh3] at hH
  refine lv_iinc (k := 5) (v := (x5 + 1)) (lv' := [(5, .int (x5 + 1)), (0, .ref (ad 22)), (1, .ref (ad 3)), (2, .ref (ad 15)), (3, .int x3), (4, .int x4)]) hx hb dX6_weighLosses_108 hl rfl rfl (by decide) rfl (fun ls hl => ?_)
  refine lv_goto hx hb dX6_weighLosses_111 (tgt := 35) (by decide) ?_
  exact ih35 x3 x4 (x5 + 1) h3 _ _ _ hm hH (lv_sub hl [1, 2, 3, 4, 5, 0] rfl)
def mX6_weighLosses_35 (k10 : Int32 → Mm → Option Mm) : Nat → Int32 → Int32 → Int32 → Mm → Option Mm
  | 0, _, _, _, _ => none
  | n + 1, x3, x4, x5, h => if ((1 : Int32) <<< ((h 22 8) &&& 31)) ≤ x5 then (k10 (x3 + 1) h) else (if (x5 &&& (x4 ^^^ (-1 : Int32))) = 0 then (bd1 (mX6_contactBits h x5) (fun v1 => bdh (mX9_follow h x3 v1 (59 : Int32)) (fun h2 => gIn x5 64 (mlet (wr h2 27 x5.toNatClampNeg (h2 15 2)) (fun h3 => mX6_weighLosses_81 k10 (mX6_weighLosses_35 k10 n) x3 x4 x5 h3))))) else (mX6_weighLosses_81 k10 (mX6_weighLosses_35 k10 n) x3 x4 x5 h))
set_option maxRecDepth 4000 in
theorem wX6_weighLosses_35 {p : Program} {l : Launch} {e : Env} {s : State} {m : MethodId} {args : Array Value} {below : List Frame} {meth : Method} {c : Code} {D : va_G} {ad : Nat → Nat} {ac : Nat → ClassId} {h' : Mm} (X : Fx p s m args meth c cX6_weighLosses 6 RX6 none D ad ac LC rlC) {k10 : Int32 → Mm → Option Mm} (ih10 : ∀ (x3 : Int32) (h : Mm) (H : Heap) (locs : List Loc) (ls : Array Slot), k10 x3 h = some h' → Hp D ad ac LC h s H locs → lv_has ls 6 [(0, .ref (ad 22)), (1, .ref (ad 3)), (2, .ref (ad 15)), (3, .int x3)] → W p l e (rmD 4) s m args below meth c H locs 0 0 (MQ below (QU D ad ac LC none h' s.heap.size) args s 0 0 (Aa ad LC.length s.heap.size)) (F0 m 10 ls [])) : ∀ (n : Nat) (x3 : Int32) (x4 : Int32) (x5 : Int32) (h : Mm) (H : Heap) (locs : List Loc) (ls : Array Slot), mX6_weighLosses_35 k10 n x3 x4 x5 h = some h' → Hp D ad ac LC h s H locs → lv_has ls 6 [(0, .ref (ad 22)), (1, .ref (ad 3)), (2, .ref (ad 15)), (3, .int x3), (4, .int x4), (5, .int x5)] → W p l e (rmD 4) s m args below meth c H locs 0 0 (MQ below (QU D ad ac LC none h' s.heap.size) args s 0 0 (Aa ad LC.length s.heap.size)) (F0 m 35 ls []) := by
  obtain ⟨hx, hb, hml, hown, hts, hr, hlk, hC, hI, hR⟩ := id X
  intro n
  induction n with
  | zero => intro x3 x4 x5 h H locs ls hm; rw [mX6_weighLosses_35] at hm; cases hm
  | succ n ih =>
    intro x3 x4 x5 h H locs ls hm hH hl
    rw [mX6_weighLosses_35] at hm
    refine lv_iload hx hb dX6_weighLosses_35 (lv_at hl 5 rfl) ?_
    refine lv_iconst (v := 1) hx hb dX6_weighLosses_37 (by decide) ?_
    refine lv_aload_n hx hb dX6_weighLosses_38 rfl (lv_at hl 0 rfl) ?_
    refine gI X hH fl_X6_53 lC_22 rfl dX6_weighLosses_39 ?_
    refine lv_ishl hx hb dX6_weighLosses_42 ?_
    refine lv_icmp_ge hx hb dX6_weighLosses_43 (tgt := 114) (by decide) (fun hc => ?_) (fun hc => ?_)
    · rw [if_pos hc] at hm
      refine lv_iinc (k := 3) (v := (x3 + 1)) (lv' := [(3, .int (x3 + 1)), (0, .ref (ad 22)), (1, .ref (ad 3)), (2, .ref (ad 15)), (4, .int x4), (5, .int x5)]) hx hb dX6_weighLosses_114 hl rfl rfl (by decide) rfl (fun ls hl => ?_)
      refine lv_goto hx hb dX6_weighLosses_117 (tgt := 10) (by decide) ?_
      exact ih10 (x3 + 1) h _ _ _ hm hH (lv_sub hl [1, 2, 3, 0] rfl)
    · rw [if_neg hc] at hm
      refine lv_iload hx hb dX6_weighLosses_46 (lv_at hl 5 rfl) ?_
      refine lv_iload hx hb dX6_weighLosses_48 (lv_at hl 4 rfl) ?_
      refine lv_iconst (v := (-1)) hx hb dX6_weighLosses_50 (by decide) ?_
      refine lv_ixor hx hb dX6_weighLosses_51 ?_
      refine lv_iand hx hb dX6_weighLosses_52 ?_
      refine lv_if_ne hx hb dX6_weighLosses_53 (tgt := 81) (by decide) (fun hc => ?_) (fun hc => ?_)
      · rw [if_neg hc] at hm
        exact wX6_weighLosses_81 X ih10 ih x3 x4 x5 h _ _ _ hm hH (lv_sub hl [0, 1, 2, 3, 4, 5] rfl)
      · rw [if_pos hc] at hm
        refine lv_aload_n hx hb dX6_weighLosses_56 rfl (lv_at hl 2 rfl) ?_
        refine lv_aload_n hx hb dX6_weighLosses_57 rfl (lv_at hl 1 rfl) ?_
        refine lv_iload_n hx hb dX6_weighLosses_58 rfl (lv_at hl 3 rfl) ?_
        refine lv_aload_n hx hb dX6_weighLosses_59 rfl (lv_at hl 0 rfl) ?_
        refine lv_iload hx hb dX6_weighLosses_60 (lv_at hl 5 rfl) ?_
        obtain ⟨v1, hq, hm⟩ := bd1_some hm
        refine cVi X hH kl_X6_139 kv_X6_contactBits (mt_X6_contactBits hq) lC_22 rfl rfl (by decide) hl.1 rfl (Nat.le_of_ble_eq_true rfl) dX6_weighLosses_62 (fun H locs hH => ?_)
        refine lv_bipush (v := 59) hx hb dX6_weighLosses_65 (by decide) ?_
        obtain ⟨h2, hq, hm⟩ := bdh_some hm
        refine cVv X hH kl_X6_141 kv_X9_follow (mt_X9_follow hq) lC_15 rfl rfl (by decide) hl.1 rfl (Nat.le_of_ble_eq_true rfl) dX6_weighLosses_67 (fun H locs hH => ?_)
        refine lv_aload_n hx hb dX6_weighLosses_70 rfl (lv_at hl 0 rfl) ?_
        refine gR X hH fl_X6_24 lC_22 rfl dX6_weighLosses_71 ?_
        refine lv_iload hx hb dX6_weighLosses_74 (lv_at hl 5 rfl) ?_
        refine lv_aload_n hx hb dX6_weighLosses_76 rfl (lv_at hl 2 rfl) ?_
        refine gI X hH fl_X6_147 lC_15 rfl dX6_weighLosses_77 ?_
        obtain ⟨hin4, hm⟩ := gIn_some hm
        obtain ⟨h3, eh3, hm⟩ := mlet_some hm
        refine ist X hH lC_27 hin4 dX6_weighLosses_80 (fun H locs hH => ?_)
        rw [← eh3] at hH
        exact wX6_weighLosses_81 X ih10 ih x3 x4 x5 h3 _ _ _ hm hH (lv_sub hl [0, 1, 2, 3, 4, 5] rfl)
def mX6_weighLosses_10 : Nat → Int32 → Mm → Option Mm
  | 0, _, _ => none
  | n + 1, x3, h => if (h 31 3) ≤ x3 then (some h) else (bd1 (mX6_passesOf h x3) (fun v1 => mX6_weighLosses_35 (mX6_weighLosses_10 n) FU x3 v1 (0 : Int32) h))
set_option maxRecDepth 4000 in
theorem wX6_weighLosses_10 {p : Program} {l : Launch} {e : Env} {s : State} {m : MethodId} {args : Array Value} {below : List Frame} {meth : Method} {c : Code} {D : va_G} {ad : Nat → Nat} {ac : Nat → ClassId} {h' : Mm} (X : Fx p s m args meth c cX6_weighLosses 6 RX6 none D ad ac LC rlC) : ∀ (n : Nat) (x3 : Int32) (h : Mm) (H : Heap) (locs : List Loc) (ls : Array Slot), mX6_weighLosses_10 n x3 h = some h' → Hp D ad ac LC h s H locs → lv_has ls 6 [(0, .ref (ad 22)), (1, .ref (ad 3)), (2, .ref (ad 15)), (3, .int x3)] → W p l e (rmD 4) s m args below meth c H locs 0 0 (MQ below (QU D ad ac LC none h' s.heap.size) args s 0 0 (Aa ad LC.length s.heap.size)) (F0 m 10 ls []) := by
  obtain ⟨hx, hb, hml, hown, hts, hr, hlk, hC, hI, hR⟩ := id X
  intro n
  induction n with
  | zero => intro x3 h H locs ls hm; rw [mX6_weighLosses_10] at hm; cases hm
  | succ n ih =>
    intro x3 h H locs ls hm hH hl
    rw [mX6_weighLosses_10] at hm
    refine lv_iload_n hx hb dX6_weighLosses_10 rfl (lv_at hl 3 rfl) ?_
    refine lv_aload_n hx hb dX6_weighLosses_11 rfl (lv_at hl 1 rfl) ?_
    refine gR X hH fl_X6_93 lC_3 rfl dX6_weighLosses_12 ?_
    refine gR X hH fl_X6_132 lC_30 rfl dX6_weighLosses_15 ?_
    refine gI X hH fl_X6_103 lC_31 rfl dX6_weighLosses_18 ?_
    refine lv_icmp_ge hx hb dX6_weighLosses_21 (tgt := 120) (by decide) (fun hc => ?_) (fun hc => ?_)
    · rw [if_pos hc] at hm
      cases hm
      exact retV X hH dX6_weighLosses_120
    · rw [if_neg hc] at hm
      refine lv_aload_n hx hb dX6_weighLosses_24 rfl (lv_at hl 0 rfl) ?_
      refine lv_aload_n hx hb dX6_weighLosses_25 rfl (lv_at hl 1 rfl) ?_
      refine lv_iload_n hx hb dX6_weighLosses_26 rfl (lv_at hl 3 rfl) ?_
      obtain ⟨v1, hq, hm⟩ := bd1_some hm
      refine cVi X hH kl_X6_135 kv_X6_passesOf (mt_X6_passesOf hq) lC_22 rfl rfl (by decide) hl.1 rfl (Nat.le_of_ble_eq_true rfl) dX6_weighLosses_27 (fun H locs hH => ?_)
      refine lv_istore (lv' := [(4, .int v1), (0, .ref (ad 22)), (1, .ref (ad 3)), (2, .ref (ad 15)), (3, .int x3)]) hx hb dX6_weighLosses_30 hl (by decide) rfl (fun ls hl => ?_)
      refine lv_iconst (v := 0) hx hb dX6_weighLosses_32 (by decide) ?_
      refine lv_istore (lv' := [(5, .int (0 : Int32)), (4, .int v1), (0, .ref (ad 22)), (1, .ref (ad 3)), (2, .ref (ad 15)), (3, .int x3)]) hx hb dX6_weighLosses_33 hl (by decide) rfl (fun ls hl => ?_)
      exact wX6_weighLosses_35 X ih FU x3 v1 (0 : Int32) h _ _ _ hm hH (lv_sub hl [2, 3, 4, 5, 1, 0] rfl)
def mX6_weighLosses (h : Mm) : Option Mm := bdh (mJ7_fill_53178_26 h (0 : Int32)) (fun h1 => mX6_weighLosses_10 FU (0 : Int32) h1)
set_option maxRecDepth 4000 in
theorem mt_X6_weighLosses {l : Launch} {D : va_G} {ad : Nat → Nat} {ac : Nat → ClassId} {h : Mm} {h' : Mm} (hm : mX6_weighLosses h = some h') : Mt l D ad ac LC rlC yX6_weighLosses cX6_weighLosses 6 none 4 [.ref (ad 22), .ref (ad 3), .ref (ad 15)] h none h' := by
  refine Mt.of (own := RX6) (by decide) rfl (Nat.le_of_ble_eq_true rfl) ?_
  intro p e s m below meth c ls X hH hl
  obtain ⟨hx, hb, hml, hown, hts, hr, hlk, hC, hI, hR⟩ := id X
  have hl : lv_has ls 6 [(0, .ref (ad 22)), (1, .ref (ad 3)), (2, .ref (ad 15))] := hl
  rw [mX6_weighLosses] at hm
  refine lv_aload_n hx hb dX6_weighLosses_0 rfl (lv_at hl 0 rfl) ?_
  refine gR X hH fl_X6_21 lC_22 rfl dX6_weighLosses_1 ?_
  refine lv_iconst (v := 0) hx hb dX6_weighLosses_4 (by decide) ?_
  obtain ⟨h1, hq, hm⟩ := bdh_some hm
  refine cSv (As := [.ref (ad 26), .int (0 : Int32)]) X hH kl_X6_126 ks_J7_fill_53178 (mt_J7_fill_53178_26 hq) rfl (by decide) hl.1 rfl (Nat.le_of_ble_eq_true rfl) dX6_weighLosses_5 (fun H locs hH => ?_)
  refine lv_iconst (v := 0) hx hb dX6_weighLosses_8 (by decide) ?_
  refine lv_istore_n (lv' := [(3, .int (0 : Int32)), (0, .ref (ad 22)), (1, .ref (ad 3)), (2, .ref (ad 15))]) hx hb dX6_weighLosses_9 rfl hl (by decide) rfl (fun ls hl => ?_)
  exact wX6_weighLosses_10 X FU (0 : Int32) h1 _ _ _ hm hH (lv_sub hl [1, 2, 3, 0] rfl)
/-! X4_volumeOf -/
def mX4_volumeOf_35 (h : Mm) (k4 : Int32 → Int32 → Int32 → Option Int32) (x1 : Int32) (x2 : Int32) (x3 : Int32) : Option Int32 := k4 x1 x2 (x3 + 1)
set_option maxRecDepth 4000 in
theorem wX4_volumeOf_35 {p : Program} {l : Launch} {e : Env} {s : State} {m : MethodId} {args : Array Value} {below : List Frame} {meth : Method} {c : Code} {D : va_G} {ad : Nat → Nat} {ac : Nat → ClassId} {h : Mm} {r : Int32} (X : Fx p s m args meth c cX4_volumeOf 4 RX4 (some .int) D ad ac LC rlC) {k4 : Int32 → Int32 → Int32 → Option Int32} (ih4 : ∀ (x1 : Int32) (x2 : Int32) (x3 : Int32) (H : Heap) (locs : List Loc) (ls : Array Slot), k4 x1 x2 x3 = some r → Hp D ad ac LC h s H locs → lv_has ls 4 [(0, .ref (ad 3)), (1, .int x1), (2, .int x2), (3, .int x3)] → W p l e (rmD 0) s m args below meth c H locs 0 0 (MQ below (QU D ad ac LC (some (.int r)) h s.heap.size) args s 0 0 (Aa ad LC.length s.heap.size)) (F0 m 4 ls [])) : ∀ (x1 : Int32) (x2 : Int32) (x3 : Int32) (H : Heap) (locs : List Loc) (ls : Array Slot), mX4_volumeOf_35 h k4 x1 x2 x3 = some r → Hp D ad ac LC h s H locs → lv_has ls 4 [(0, .ref (ad 3)), (1, .int x1), (2, .int x2), (3, .int x3)] → W p l e (rmD 0) s m args below meth c H locs 0 0 (MQ below (QU D ad ac LC (some (.int r)) h s.heap.size) args s 0 0 (Aa ad LC.length s.heap.size)) (F0 m 35 ls []) := by
  obtain ⟨hx, hb, hml, hown, hts, hr, hlk, hC, hI, hR⟩ := id X
  intro x1 x2 x3 H locs ls hm hH hl
  rw [mX4_volumeOf_35] at hm
  refine lv_iinc (k := 3) (v := (x3 + 1)) (lv' := [(3, .int (x3 + 1)), (0, .ref (ad 3)), (1, .int x1), (2, .int x2)]) hx hb dX4_volumeOf_35 hl rfl rfl (by decide) rfl (fun ls hl => ?_)
  refine lv_goto hx hb dX4_volumeOf_38 (tgt := 4) (by decide) ?_
  exact ih4 x1 x2 (x3 + 1) _ _ _ hm hH (lv_sub hl [1, 2, 3, 0] rfl)
def mX4_volumeOf_4 (h : Mm) : Nat → Int32 → Int32 → Int32 → Option Int32
  | 0, _, _, _ => none
  | n + 1, x1, x2, x3 => if (h 4 6) ≤ x3 then (some x2) else (if ((x1 >>> (x3 &&& 31)) &&& (1 : Int32)) = 0 then (mX4_volumeOf_35 h (mX4_volumeOf_4 h n) x1 x2 x3) else (gIn x3 24 (mlet (x2 + (h 9 x3.toNatClampNeg)) (fun u2 => mX4_volumeOf_35 h (mX4_volumeOf_4 h n) x1 u2 x3))))
set_option maxRecDepth 4000 in
theorem wX4_volumeOf_4 {p : Program} {l : Launch} {e : Env} {s : State} {m : MethodId} {args : Array Value} {below : List Frame} {meth : Method} {c : Code} {D : va_G} {ad : Nat → Nat} {ac : Nat → ClassId} {h : Mm} {r : Int32} (X : Fx p s m args meth c cX4_volumeOf 4 RX4 (some .int) D ad ac LC rlC) : ∀ (n : Nat) (x1 : Int32) (x2 : Int32) (x3 : Int32) (H : Heap) (locs : List Loc) (ls : Array Slot), mX4_volumeOf_4 h n x1 x2 x3 = some r → Hp D ad ac LC h s H locs → lv_has ls 4 [(0, .ref (ad 3)), (1, .int x1), (2, .int x2), (3, .int x3)] → W p l e (rmD 0) s m args below meth c H locs 0 0 (MQ below (QU D ad ac LC (some (.int r)) h s.heap.size) args s 0 0 (Aa ad LC.length s.heap.size)) (F0 m 4 ls []) := by
  obtain ⟨hx, hb, hml, hown, hts, hr, hlk, hC, hI, hR⟩ := id X
  intro n
  induction n with
  | zero => intro x1 x2 x3 H locs ls hm; rw [mX4_volumeOf_4] at hm; cases hm
  | succ n ih =>
    intro x1 x2 x3 H locs ls hm hH hl
    rw [mX4_volumeOf_4] at hm
    refine lv_iload_n hx hb dX4_volumeOf_4 rfl (lv_at hl 3 rfl) ?_
    refine lv_aload_n hx hb dX4_volumeOf_5 rfl (lv_at hl 0 rfl) ?_
    refine gR X hH fl_X4_21 lC_3 rfl dX4_volumeOf_6 ?_
    refine gI X hH fl_X4_39 lC_4 rfl dX4_volumeOf_9 ?_
    refine lv_icmp_ge hx hb dX4_volumeOf_12 (tgt := 41) (by decide) (fun hc => ?_) (fun hc => ?_)
    · rw [if_pos hc] at hm
      refine lv_iload_n hx hb dX4_volumeOf_41 rfl (lv_at hl 2 rfl) ?_
      cases hm
      exact retI X hH dX4_volumeOf_42
    · rw [if_neg hc] at hm
      refine lv_iload_n hx hb dX4_volumeOf_15 rfl (lv_at hl 1 rfl) ?_
      refine lv_iload_n hx hb dX4_volumeOf_16 rfl (lv_at hl 3 rfl) ?_
      refine lv_ishr hx hb dX4_volumeOf_17 ?_
      refine lv_iconst (v := 1) hx hb dX4_volumeOf_18 (by decide) ?_
      refine lv_iand hx hb dX4_volumeOf_19 ?_
      refine lv_if_eq hx hb dX4_volumeOf_20 (tgt := 35) (by decide) (fun hc => ?_) (fun hc => ?_)
      · rw [if_pos hc] at hm
        exact wX4_volumeOf_35 X ih x1 x2 x3 _ _ _ hm hH (lv_sub hl [0, 1, 2, 3] rfl)
      · rw [if_neg hc] at hm
        refine lv_iload_n hx hb dX4_volumeOf_23 rfl (lv_at hl 2 rfl) ?_
        refine lv_aload_n hx hb dX4_volumeOf_24 rfl (lv_at hl 0 rfl) ?_
        refine gR X hH fl_X4_21 lC_3 rfl dX4_volumeOf_25 ?_
        refine gR X hH fl_X4_53 lC_4 rfl dX4_volumeOf_28 ?_
        refine lv_iload_n hx hb dX4_volumeOf_31 rfl (lv_at hl 3 rfl) ?_
        obtain ⟨hin1, hm⟩ := gIn_some hm
        refine ild X hH lC_9 hin1 dX4_volumeOf_32 ?_
        refine lv_iadd hx hb dX4_volumeOf_33 ?_
        obtain ⟨u2, eu2, hm⟩ := mlet_some hm
        refine W.eq (g2 := F0 m 34 ls (.int u2 :: [])) (by rw [eu2]) ?_
        refine lv_istore_n (lv' := [(2, .int u2), (0, .ref (ad 3)), (1, .int x1), (3, .int x3)]) hx hb dX4_volumeOf_34 rfl hl (by decide) rfl (fun ls hl => ?_)
        exact wX4_volumeOf_35 X ih x1 u2 x3 _ _ _ hm hH (lv_sub hl [1, 2, 0, 3] rfl)
def mX4_volumeOf (h : Mm) (a1 : Int32) : Option Int32 := mX4_volumeOf_4 h FU a1 (0 : Int32) (0 : Int32)
set_option maxRecDepth 4000 in
theorem mt_X4_volumeOf {l : Launch} {D : va_G} {ad : Nat → Nat} {ac : Nat → ClassId} {h : Mm} {a1 : Int32} {r : Int32} (hm : mX4_volumeOf h a1 = some r) : Mt l D ad ac LC rlC yX4_volumeOf cX4_volumeOf 4 (some .int) 0 [.ref (ad 3), .int a1] h (some (.int r)) h := by
  refine Mt.of (own := RX4) (by decide) rfl (Nat.le_of_ble_eq_true rfl) ?_
  intro p e s m below meth c ls X hH hl
  obtain ⟨hx, hb, hml, hown, hts, hr, hlk, hC, hI, hR⟩ := id X
  have hl : lv_has ls 4 [(0, .ref (ad 3)), (1, .int a1)] := hl
  rw [mX4_volumeOf] at hm
  refine lv_iconst (v := 0) hx hb dX4_volumeOf_0 (by decide) ?_
  refine lv_istore_n (lv' := [(2, .int (0 : Int32)), (0, .ref (ad 3)), (1, .int a1)]) hx hb dX4_volumeOf_1 rfl hl (by decide) rfl (fun ls hl => ?_)
  refine lv_iconst (v := 0) hx hb dX4_volumeOf_2 (by decide) ?_
  refine lv_istore_n (lv' := [(3, .int (0 : Int32)), (2, .int (0 : Int32)), (0, .ref (ad 3)), (1, .int a1)]) hx hb dX4_volumeOf_3 rfl hl (by decide) rfl (fun ls hl => ?_)
  exact wX4_volumeOf_4 X FU a1 (0 : Int32) (0 : Int32) _ _ _ hm hH (lv_sub hl [2, 3, 1, 0] rfl)
/-! X6_weighVolumes -/
def mX6_weighVolumes_2 : Nat → Int32 → Mm → Option Mm
  | 0, _, _ => none
  | n + 1, x2, h => if ((1 : Int32) <<< ((h 22 8) &&& 31)) ≤ x2 then (some h) else (bd1 (mX4_volumeOf h (x2 <<< ((h 22 11) &&& 31))) (fun v1 => gIn (((1 : Int32) <<< ((h 22 8) &&& 31)) + x2) 128 (mlet (wr h 26 (((1 : Int32) <<< ((h 22 8) &&& 31)) + x2).toNatClampNeg (-v1)) (fun h2 => mX6_weighVolumes_2 n (x2 + 1) h2))))
set_option maxRecDepth 4000 in
theorem wX6_weighVolumes_2 {p : Program} {l : Launch} {e : Env} {s : State} {m : MethodId} {args : Array Value} {below : List Frame} {meth : Method} {c : Code} {D : va_G} {ad : Nat → Nat} {ac : Nat → ClassId} {h' : Mm} (X : Fx p s m args meth c cX6_weighVolumes 3 RX6 none D ad ac LC rlC) : ∀ (n : Nat) (x2 : Int32) (h : Mm) (H : Heap) (locs : List Loc) (ls : Array Slot), mX6_weighVolumes_2 n x2 h = some h' → Hp D ad ac LC h s H locs → lv_has ls 3 [(0, .ref (ad 22)), (1, .ref (ad 3)), (2, .int x2)] → W p l e (rmD 1) s m args below meth c H locs 0 0 (MQ below (QU D ad ac LC none h' s.heap.size) args s 0 0 (Aa ad LC.length s.heap.size)) (F0 m 2 ls []) := by
  obtain ⟨hx, hb, hml, hown, hts, hr, hlk, hC, hI, hR⟩ := id X
  intro n
  induction n with
  | zero => intro x2 h H locs ls hm; rw [mX6_weighVolumes_2] at hm; cases hm
  | succ n ih =>
    intro x2 h H locs ls hm hH hl
    rw [mX6_weighVolumes_2] at hm
    refine lv_iload_n hx hb dX6_weighVolumes_2 rfl (lv_at hl 2 rfl) ?_
    refine lv_iconst (v := 1) hx hb dX6_weighVolumes_3 (by decide) ?_
    refine lv_aload_n hx hb dX6_weighVolumes_4 rfl (lv_at hl 0 rfl) ?_
    refine gI X hH fl_X6_53 lC_22 rfl dX6_weighVolumes_5 ?_
    refine lv_ishl hx hb dX6_weighVolumes_8 ?_
    refine lv_icmp_ge hx hb dX6_weighVolumes_9 (tgt := 42) (by decide) (fun hc => ?_) (fun hc => ?_)
    · rw [if_pos hc] at hm
      cases hm
      exact retV X hH dX6_weighVolumes_42
    · rw [if_neg hc] at hm
      refine lv_aload_n hx hb dX6_weighVolumes_12 rfl (lv_at hl 0 rfl) ?_
      refine gR X hH fl_X6_21 lC_22 rfl dX6_weighVolumes_13 ?_
      refine lv_iconst (v := 1) hx hb dX6_weighVolumes_16 (by decide) ?_
      refine lv_aload_n hx hb dX6_weighVolumes_17 rfl (lv_at hl 0 rfl) ?_
      refine gI X hH fl_X6_53 lC_22 rfl dX6_weighVolumes_18 ?_
      refine lv_ishl hx hb dX6_weighVolumes_21 ?_
      refine lv_iload_n hx hb dX6_weighVolumes_22 rfl (lv_at hl 2 rfl) ?_
      refine lv_iadd hx hb dX6_weighVolumes_23 ?_
      refine lv_aload_n hx hb dX6_weighVolumes_24 rfl (lv_at hl 1 rfl) ?_
      refine lv_iload_n hx hb dX6_weighVolumes_25 rfl (lv_at hl 2 rfl) ?_
      refine lv_aload_n hx hb dX6_weighVolumes_26 rfl (lv_at hl 0 rfl) ?_
      refine gI X hH fl_X6_41 lC_22 rfl dX6_weighVolumes_27 ?_
      refine lv_ishl hx hb dX6_weighVolumes_30 ?_
      obtain ⟨v1, hq, hm⟩ := bd1_some hm
      refine cVi X hH kl_X6_123 kv_X4_volumeOf (mt_X4_volumeOf hq) lC_3 rfl rfl (by decide) hl.1 rfl (Nat.le_of_ble_eq_true rfl) dX6_weighVolumes_31 (fun H locs hH => ?_)
      refine lv_ineg hx hb dX6_weighVolumes_34 ?_
      obtain ⟨hin3, hm⟩ := gIn_some hm
      obtain ⟨h2, eh2, hm⟩ := mlet_some hm
      refine ist X hH lC_26 hin3 dX6_weighVolumes_35 (fun H locs hH => ?_)
      rw [← eh2] at hH
      refine lv_iinc (k := 2) (v := (x2 + 1)) (lv' := [(2, .int (x2 + 1)), (0, .ref (ad 22)), (1, .ref (ad 3))]) hx hb dX6_weighVolumes_36 hl rfl rfl (by decide) rfl (fun ls hl => ?_)
      refine lv_goto hx hb dX6_weighVolumes_39 (tgt := 2) (by decide) ?_
      exact ih (x2 + 1) h2 _ _ _ hm hH (lv_sub hl [1, 2, 0] rfl)
def mX6_weighVolumes (h : Mm) : Option Mm := mX6_weighVolumes_2 FU (0 : Int32) h
set_option maxRecDepth 4000 in
theorem mt_X6_weighVolumes {l : Launch} {D : va_G} {ad : Nat → Nat} {ac : Nat → ClassId} {h : Mm} {h' : Mm} (hm : mX6_weighVolumes h = some h') : Mt l D ad ac LC rlC yX6_weighVolumes cX6_weighVolumes 3 none 1 [.ref (ad 22), .ref (ad 3)] h none h' := by
  refine Mt.of (own := RX6) (by decide) rfl (Nat.le_of_ble_eq_true rfl) ?_
  intro p e s m below meth c ls X hH hl
  obtain ⟨hx, hb, hml, hown, hts, hr, hlk, hC, hI, hR⟩ := id X
  have hl : lv_has ls 3 [(0, .ref (ad 22)), (1, .ref (ad 3))] := hl
  rw [mX6_weighVolumes] at hm
  refine lv_iconst (v := 0) hx hb dX6_weighVolumes_0 (by decide) ?_
  refine lv_istore_n (lv' := [(2, .int (0 : Int32)), (0, .ref (ad 22)), (1, .ref (ad 3))]) hx hb dX6_weighVolumes_1 rfl hl (by decide) rfl (fun ls hl => ?_)
  exact wX6_weighVolumes_2 X FU (0 : Int32) h _ _ _ hm hH (lv_sub hl [1, 2, 0] rfl)
/-! J6_bitCount_0f7a4 -/
def mJ6_bitCount_0f7a4 (h : Mm) (a0 : Int32) : Option Int32 := mlet (a0 - (((a0.toUInt32 >>> ((1 : Int32).toUInt32 &&& Int32.toUInt32 31)).toInt32) &&& (1431655765 : Int32))) (fun u1 => mlet ((u1 &&& (858993459 : Int32)) + (((u1.toUInt32 >>> ((2 : Int32).toUInt32 &&& Int32.toUInt32 31)).toInt32) &&& (858993459 : Int32))) (fun u2 => mlet ((u2 + ((u2.toUInt32 >>> ((4 : Int32).toUInt32 &&& Int32.toUInt32 31)).toInt32)) &&& (252645135 : Int32)) (fun u3 => mlet (u3 + ((u3.toUInt32 >>> ((8 : Int32).toUInt32 &&& Int32.toUInt32 31)).toInt32)) (fun u4 => mlet (u4 + ((u4.toUInt32 >>> ((16 : Int32).toUInt32 &&& Int32.toUInt32 31)).toInt32)) (fun u5 => some (u5 &&& (63 : Int32)))))))
set_option maxRecDepth 4000 in
theorem mt_J6_bitCount_0f7a4 {l : Launch} {D : va_G} {ad : Nat → Nat} {ac : Nat → ClassId} {L : List CD} {rl : RomL} {h : Mm} {a0 : Int32} {r : Int32} (hm : mJ6_bitCount_0f7a4 h a0 = some r) : Mt l D ad ac L rl yJ6_bitCount_0f7a4 cJ6_bitCount_0f7a4 1 (some .int) 0 [.int a0] h (some (.int r)) h := by
  refine Mt.of (own := RJ6) (by decide) rfl (Nat.le_of_ble_eq_true rfl) ?_
  intro p e s m below meth c ls X hH hl
  obtain ⟨hx, hb, hml, hown, hts, hr, hlk, hC, hI, hR⟩ := id X
  have hl : lv_has ls 1 [(0, .int a0)] := hl
  rw [mJ6_bitCount_0f7a4] at hm
  refine lv_iload_n hx hb dJ6_bitCount_0f7a4_0 rfl (lv_at hl 0 rfl) ?_
  refine lv_iload_n hx hb dJ6_bitCount_0f7a4_1 rfl (lv_at hl 0 rfl) ?_
  refine lv_iconst (v := 1) hx hb dJ6_bitCount_0f7a4_2 (by decide) ?_
  refine lv_iushr (v := (a0.toUInt32 >>> ((1 : Int32).toUInt32 &&& Int32.toUInt32 31)).toInt32) hx hb dJ6_bitCount_0f7a4_3 rfl ?_
  refine lv_ldcw hx hb hown (hts _ kc_J6_265) dJ6_bitCount_0f7a4_4 ?_
  refine lv_iand hx hb dJ6_bitCount_0f7a4_7 ?_
  refine lv_isub hx hb dJ6_bitCount_0f7a4_8 ?_
  obtain ⟨u1, eu1, hm⟩ := mlet_some hm
  refine W.eq (g2 := F0 m 9 ls (.int u1 :: [])) (by rw [eu1]) ?_
  refine lv_istore_n (lv' := [(0, .int u1)]) hx hb dJ6_bitCount_0f7a4_9 rfl hl (by decide) rfl (fun ls hl => ?_)
  refine lv_iload_n hx hb dJ6_bitCount_0f7a4_10 rfl (lv_at hl 0 rfl) ?_
  refine lv_ldcw hx hb hown (hts _ kc_J6_266) dJ6_bitCount_0f7a4_11 ?_
  refine lv_iand hx hb dJ6_bitCount_0f7a4_14 ?_
  refine lv_iload_n hx hb dJ6_bitCount_0f7a4_15 rfl (lv_at hl 0 rfl) ?_
  refine lv_iconst (v := 2) hx hb dJ6_bitCount_0f7a4_16 (by decide) ?_
  refine lv_iushr (v := (u1.toUInt32 >>> ((2 : Int32).toUInt32 &&& Int32.toUInt32 31)).toInt32) hx hb dJ6_bitCount_0f7a4_17 rfl ?_
  refine lv_ldcw hx hb hown (hts _ kc_J6_266) dJ6_bitCount_0f7a4_18 ?_
  refine lv_iand hx hb dJ6_bitCount_0f7a4_21 ?_
  refine lv_iadd hx hb dJ6_bitCount_0f7a4_22 ?_
  obtain ⟨u2, eu2, hm⟩ := mlet_some hm
  refine W.eq (g2 := F0 m 23 ls (.int u2 :: [])) (by rw [eu2]) ?_
  refine lv_istore_n (lv' := [(0, .int u2)]) hx hb dJ6_bitCount_0f7a4_23 rfl hl (by decide) rfl (fun ls hl => ?_)
  refine lv_iload_n hx hb dJ6_bitCount_0f7a4_24 rfl (lv_at hl 0 rfl) ?_
  refine lv_iload_n hx hb dJ6_bitCount_0f7a4_25 rfl (lv_at hl 0 rfl) ?_
  refine lv_iconst (v := 4) hx hb dJ6_bitCount_0f7a4_26 (by decide) ?_
  refine lv_iushr (v := (u2.toUInt32 >>> ((4 : Int32).toUInt32 &&& Int32.toUInt32 31)).toInt32) hx hb dJ6_bitCount_0f7a4_27 rfl ?_
  refine lv_iadd hx hb dJ6_bitCount_0f7a4_28 ?_
  refine lv_ldcw hx hb hown (hts _ kc_J6_267) dJ6_bitCount_0f7a4_29 ?_
  refine lv_iand hx hb dJ6_bitCount_0f7a4_32 ?_
  obtain ⟨u3, eu3, hm⟩ := mlet_some hm
  refine W.eq (g2 := F0 m 33 ls (.int u3 :: [])) (by rw [eu3]) ?_
  refine lv_istore_n (lv' := [(0, .int u3)]) hx hb dJ6_bitCount_0f7a4_33 rfl hl (by decide) rfl (fun ls hl => ?_)
  refine lv_iload_n hx hb dJ6_bitCount_0f7a4_34 rfl (lv_at hl 0 rfl) ?_
  refine lv_iload_n hx hb dJ6_bitCount_0f7a4_35 rfl (lv_at hl 0 rfl) ?_
  refine lv_bipush (v := 8) hx hb dJ6_bitCount_0f7a4_36 (by decide) ?_
  refine lv_iushr (v := (u3.toUInt32 >>> ((8 : Int32).toUInt32 &&& Int32.toUInt32 31)).toInt32) hx hb dJ6_bitCount_0f7a4_38 rfl ?_
  refine lv_iadd hx hb dJ6_bitCount_0f7a4_39 ?_
  obtain ⟨u4, eu4, hm⟩ := mlet_some hm
  refine W.eq (g2 := F0 m 40 ls (.int u4 :: [])) (by rw [eu4]) ?_
  refine lv_istore_n (lv' := [(0, .int u4)]) hx hb dJ6_bitCount_0f7a4_40 rfl hl (by decide) rfl (fun ls hl => ?_)
  refine lv_iload_n hx hb dJ6_bitCount_0f7a4_41 rfl (lv_at hl 0 rfl) ?_
  refine lv_iload_n hx hb dJ6_bitCount_0f7a4_42 rfl (lv_at hl 0 rfl) ?_
  refine lv_bipush (v := 16) hx hb dJ6_bitCount_0f7a4_43 (by decide) ?_
  refine lv_iushr (v := (u4.toUInt32 >>> ((16 : Int32).toUInt32 &&& Int32.toUInt32 31)).toInt32) hx hb dJ6_bitCount_0f7a4_45 rfl ?_
  refine lv_iadd hx hb dJ6_bitCount_0f7a4_46 ?_
  obtain ⟨u5, eu5, hm⟩ := mlet_some hm
  refine W.eq (g2 := F0 m 47 ls (.int u5 :: [])) (by rw [eu5]) ?_
  refine lv_istore_n (lv' := [(0, .int u5)]) hx hb dJ6_bitCount_0f7a4_47 rfl hl (by decide) rfl (fun ls hl => ?_)
  refine lv_iload_n hx hb dJ6_bitCount_0f7a4_48 rfl (lv_at hl 0 rfl) ?_
  refine lv_bipush (v := 63) hx hb dJ6_bitCount_0f7a4_49 (by decide) ?_
  refine lv_iand hx hb dJ6_bitCount_0f7a4_51 ?_
  cases hm
  exact retI X hH dJ6_bitCount_0f7a4_52
/-! X6_rankMasks -/
def mX6_rankMasks_79 (k2 : Int32 → Mm → Option Mm) (x1 : Int32) (t0 : Int32) (t1 : Int32) (h : Mm) : Option Mm := gIn t1 128 (mlet (wr h 26 t1.toNatClampNeg t0) (fun h1 => k2 (x1 + 1) h1))
set_option maxRecDepth 4000 in
theorem wX6_rankMasks_79 {p : Program} {l : Launch} {e : Env} {s : State} {m : MethodId} {args : Array Value} {below : List Frame} {meth : Method} {c : Code} {D : va_G} {ad : Nat → Nat} {ac : Nat → ClassId} {h' : Mm} (X : Fx p s m args meth c cX6_rankMasks 5 RX6 none D ad ac LC rlC) {k2 : Int32 → Mm → Option Mm} (ih2 : ∀ (x1 : Int32) (h : Mm) (H : Heap) (locs : List Loc) (ls : Array Slot), k2 x1 h = some h' → Hp D ad ac LC h s H locs → lv_has ls 5 [(0, .ref (ad 22)), (1, .int x1)] → W p l e (rmD 1) s m args below meth c H locs 0 0 (MQ below (QU D ad ac LC none h' s.heap.size) args s 0 0 (Aa ad LC.length s.heap.size)) (F0 m 2 ls [])) : ∀ (x1 : Int32) (t0 : Int32) (t1 : Int32) (h : Mm) (H : Heap) (locs : List Loc) (ls : Array Slot), mX6_rankMasks_79 k2 x1 t0 t1 h = some h' → Hp D ad ac LC h s H locs → lv_has ls 5 [(0, .ref (ad 22)), (1, .int x1)] → W p l e (rmD 1) s m args below meth c H locs 0 0 (MQ below (QU D ad ac LC none h' s.heap.size) args s 0 0 (Aa ad LC.length s.heap.size)) (F0 m 79 ls [.int t0, .int t1, .ref (ad 26)]) := by
  obtain ⟨hx, hb, hml, hown, hts, hr, hlk, hC, hI, hR⟩ := id X
  intro x1 t0 t1 h H locs ls hm hH hl
  rw [mX6_rankMasks_79] at hm
  obtain ⟨hin2, hm⟩ := gIn_some hm
  obtain ⟨h1, eh1, hm⟩ := mlet_some hm
  refine ist X hH lC_26 hin2 dX6_rankMasks_79 (fun H locs hH => ?_)
  rw [← eh1] at hH
  refine lv_iinc (k := 1) (v := (x1 + 1)) (lv' := [(1, .int (x1 + 1)), (0, .ref (ad 22))]) hx hb dX6_rankMasks_80 hl rfl rfl (by decide) rfl (fun ls hl => ?_)
  refine lv_goto hx hb dX6_rankMasks_83 (tgt := 2) (by decide) ?_
  exact ih2 (x1 + 1) h1 _ _ _ hm hH (lv_sub hl [1, 0] rfl)
def mX6_rankMasks_2 : Nat → Int32 → Mm → Option Mm
  | 0, _, _ => none
  | n + 1, x1, h => if ((1 : Int32) <<< ((h 22 8) &&& 31)) ≤ x1 then (some h) else (gIn (((1 : Int32) <<< ((h 22 8) &&& 31)) + x1) 128 (mlet (h 26 (((1 : Int32) <<< ((h 22 8) &&& 31)) + x1).toNatClampNeg) (fun u2 => bd1 (mJ6_bitCount_0f7a4 h (x1 ^^^ (h 22 7))) (fun v3 => bd1 (mJ6_bitCount_0f7a4 h x1) (fun v4 => mlet ((((u2 * (8 : Int32)) + v4) * (8 : Int32)) + v3) (fun u5 => if (h 22 12) < v3 then (mX6_rankMasks_79 (mX6_rankMasks_2 n) x1 (1073741824 : Int32) (((1 : Int32) <<< ((h 22 8) &&& 31)) + x1) h) else (mX6_rankMasks_79 (mX6_rankMasks_2 n) x1 u5 (((1 : Int32) <<< ((h 22 8) &&& 31)) + x1) h)))))))
set_option maxRecDepth 4000 in
theorem wX6_rankMasks_2 {p : Program} {l : Launch} {e : Env} {s : State} {m : MethodId} {args : Array Value} {below : List Frame} {meth : Method} {c : Code} {D : va_G} {ad : Nat → Nat} {ac : Nat → ClassId} {h' : Mm} (X : Fx p s m args meth c cX6_rankMasks 5 RX6 none D ad ac LC rlC) : ∀ (n : Nat) (x1 : Int32) (h : Mm) (H : Heap) (locs : List Loc) (ls : Array Slot), mX6_rankMasks_2 n x1 h = some h' → Hp D ad ac LC h s H locs → lv_has ls 5 [(0, .ref (ad 22)), (1, .int x1)] → W p l e (rmD 1) s m args below meth c H locs 0 0 (MQ below (QU D ad ac LC none h' s.heap.size) args s 0 0 (Aa ad LC.length s.heap.size)) (F0 m 2 ls []) := by
  obtain ⟨hx, hb, hml, hown, hts, hr, hlk, hC, hI, hR⟩ := id X
  intro n
  induction n with
  | zero => intro x1 h H locs ls hm; rw [mX6_rankMasks_2] at hm; cases hm
  | succ n ih =>
    intro x1 h H locs ls hm hH hl
    rw [mX6_rankMasks_2] at hm
    refine lv_iload_n hx hb dX6_rankMasks_2 rfl (lv_at hl 1 rfl) ?_
    refine lv_iconst (v := 1) hx hb dX6_rankMasks_3 (by decide) ?_
    refine lv_aload_n hx hb dX6_rankMasks_4 rfl (lv_at hl 0 rfl) ?_
    refine gI X hH fl_X6_53 lC_22 rfl dX6_rankMasks_5 ?_
    refine lv_ishl hx hb dX6_rankMasks_8 ?_
    refine lv_icmp_ge hx hb dX6_rankMasks_9 (tgt := 86) (by decide) (fun hc => ?_) (fun hc => ?_)
    · rw [if_pos hc] at hm
      cases hm
      exact retV X hH dX6_rankMasks_86
    · rw [if_neg hc] at hm
      refine lv_aload_n hx hb dX6_rankMasks_12 rfl (lv_at hl 0 rfl) ?_
      refine gR X hH fl_X6_21 lC_22 rfl dX6_rankMasks_13 ?_
      refine lv_iconst (v := 1) hx hb dX6_rankMasks_16 (by decide) ?_
      refine lv_aload_n hx hb dX6_rankMasks_17 rfl (lv_at hl 0 rfl) ?_
      refine gI X hH fl_X6_53 lC_22 rfl dX6_rankMasks_18 ?_
      refine lv_ishl hx hb dX6_rankMasks_21 ?_
      refine lv_iload_n hx hb dX6_rankMasks_22 rfl (lv_at hl 1 rfl) ?_
      refine lv_iadd hx hb dX6_rankMasks_23 ?_
      obtain ⟨hin1, hm⟩ := gIn_some hm
      refine ild X hH lC_26 hin1 dX6_rankMasks_24 ?_
      obtain ⟨u2, eu2, hm⟩ := mlet_some hm
      refine W.eq (g2 := F0 m 25 ls (.int u2 :: [])) (by rw [eu2]) ?_
      refine lv_istore_n (lv' := [(2, .int u2), (0, .ref (ad 22)), (1, .int x1)]) hx hb dX6_rankMasks_25 rfl hl (by decide) rfl (fun ls hl => ?_)
      refine lv_iload_n hx hb dX6_rankMasks_26 rfl (lv_at hl 2 rfl) ?_
      refine lv_aload_n hx hb dX6_rankMasks_27 rfl (lv_at hl 1 rfl) ?_
      refine gI X hH fl_X6_63 lC_22 rfl dX6_rankMasks_28 ?_
      refine lv_ixor hx hb dX6_rankMasks_31 ?_
      obtain ⟨v3, hq, hm⟩ := bd1_some hm
      refine cSi (As := [.int (x1 ^^^ (h 22 7))]) X hH kl_X6_159 ks_J6_bitCount_0f7a4 (mt_J6_bitCount_0f7a4 hq) rfl (by decide) hl.1 rfl (Nat.le_of_ble_eq_true rfl) dX6_rankMasks_32 (fun H locs hH => ?_)
      refine lv_istore_n (lv' := [(3, .int v3), (2, .int u2), (0, .ref (ad 22)), (1, .int x1)]) hx hb dX6_rankMasks_35 rfl hl (by decide) rfl (fun ls hl => ?_)
      refine lv_iload_n hx hb dX6_rankMasks_36 rfl (lv_at hl 1 rfl) ?_
      refine lv_bipush (v := 8) hx hb dX6_rankMasks_37 (by decide) ?_
      refine lv_imul hx hb dX6_rankMasks_39 ?_
      refine lv_iload_n hx hb dX6_rankMasks_40 rfl (lv_at hl 3 rfl) ?_
      obtain ⟨v4, hq, hm⟩ := bd1_some hm
      refine cSi (As := [.int x1]) X hH kl_X6_159 ks_J6_bitCount_0f7a4 (mt_J6_bitCount_0f7a4 hq) rfl (by decide) hl.1 rfl (Nat.le_of_ble_eq_true rfl) dX6_rankMasks_41 (fun H locs hH => ?_)
      refine lv_iadd hx hb dX6_rankMasks_44 ?_
      refine lv_bipush (v := 8) hx hb dX6_rankMasks_45 (by decide) ?_
      refine lv_imul hx hb dX6_rankMasks_47 ?_
      refine lv_iload_n hx hb dX6_rankMasks_48 rfl (lv_at hl 0 rfl) ?_
      refine lv_iadd hx hb dX6_rankMasks_49 ?_
      obtain ⟨u5, eu5, hm⟩ := mlet_some hm
      refine W.eq (g2 := F0 m 50 ls (.int u5 :: [])) (by rw [eu5]) ?_
      refine lv_istore (lv' := [(4, .int u5), (3, .int v3), (2, .int u2), (0, .ref (ad 22)), (1, .int x1)]) hx hb dX6_rankMasks_50 hl (by decide) rfl (fun ls hl => ?_)
      refine lv_aload_n hx hb dX6_rankMasks_52 rfl (lv_at hl 3 rfl) ?_
      refine gR X hH fl_X6_21 lC_22 rfl dX6_rankMasks_53 ?_
      refine lv_iconst (v := 1) hx hb dX6_rankMasks_56 (by decide) ?_
      refine lv_aload_n hx hb dX6_rankMasks_57 rfl (lv_at hl 3 rfl) ?_
      refine gI X hH fl_X6_53 lC_22 rfl dX6_rankMasks_58 ?_
      refine lv_ishl hx hb dX6_rankMasks_61 ?_
      refine lv_iload_n hx hb dX6_rankMasks_62 rfl (lv_at hl 4 rfl) ?_
      refine lv_iadd hx hb dX6_rankMasks_63 ?_
      refine lv_iload_n hx hb dX6_rankMasks_64 rfl (lv_at hl 1 rfl) ?_
      refine lv_aload_n hx hb dX6_rankMasks_65 rfl (lv_at hl 3 rfl) ?_
      refine gI X hH fl_X6_44 lC_22 rfl dX6_rankMasks_66 ?_
      refine lv_icmp_gt hx hb dX6_rankMasks_69 (tgt := 77) (by decide) (fun hc => ?_) (fun hc => ?_)
      · rw [if_pos hc] at hm
        refine lv_ldc hx hb hown (hts _ kc_X6_164) dX6_rankMasks_77 ?_
        exact wX6_rankMasks_79 X ih x1 (1073741824 : Int32) (((1 : Int32) <<< ((h 22 8) &&& 31)) + x1) h _ _ _ hm hH (lv_sub hl [3, 4] rfl)
      · rw [if_neg hc] at hm
        refine lv_iload hx hb dX6_rankMasks_72 (lv_at hl 0 rfl) ?_
        refine lv_goto hx hb dX6_rankMasks_74 (tgt := 79) (by decide) ?_
        exact wX6_rankMasks_79 X ih x1 u5 (((1 : Int32) <<< ((h 22 8) &&& 31)) + x1) h _ _ _ hm hH (lv_sub hl [3, 4] rfl)
def mX6_rankMasks (h : Mm) : Option Mm := mX6_rankMasks_2 FU (0 : Int32) h
set_option maxRecDepth 4000 in
theorem mt_X6_rankMasks {l : Launch} {D : va_G} {ad : Nat → Nat} {ac : Nat → ClassId} {h : Mm} {h' : Mm} (hm : mX6_rankMasks h = some h') : Mt l D ad ac LC rlC yX6_rankMasks cX6_rankMasks 5 none 1 [.ref (ad 22)] h none h' := by
  refine Mt.of (own := RX6) (by decide) rfl (Nat.le_of_ble_eq_true rfl) ?_
  intro p e s m below meth c ls X hH hl
  obtain ⟨hx, hb, hml, hown, hts, hr, hlk, hC, hI, hR⟩ := id X
  have hl : lv_has ls 5 [(0, .ref (ad 22))] := hl
  rw [mX6_rankMasks] at hm
  refine lv_iconst (v := 0) hx hb dX6_rankMasks_0 (by decide) ?_
  refine lv_istore_n (lv' := [(1, .int (0 : Int32)), (0, .ref (ad 22))]) hx hb dX6_rankMasks_1 rfl hl (by decide) rfl (fun ls hl => ?_)
  exact wX6_rankMasks_2 X FU (0 : Int32) h _ _ _ hm hH (lv_sub hl [1, 0] rfl)
