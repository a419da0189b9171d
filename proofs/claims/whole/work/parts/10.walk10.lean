/-! X11_note -/
def mX11_note_51 : Nat → Int32 → Mm → Option Mm
  | 0, _, _ => none
  | n + 1, x1, h => if (32 : Int32) ≤ x1 then (mlet (wr h 0 19 ((h 0 19) + (1 : Int32))) (fun h1 => some h1)) else (gIn x1 32 (gIn (((32 : Int32) * (h 0 19)) + x1) 192 (mlet (wr h 16 (((32 : Int32) * (h 0 19)) + x1).toNatClampNeg (h 15 x1.toNatClampNeg)) (fun h3 => mX11_note_51 n (x1 + 1) h3))))
set_option maxRecDepth 4000 in
theorem wX11_note_51 {p : Program} {l : Launch} {e : Env} {s : State} {m : MethodId} {args : Array Value} {below : List Frame} {meth : Method} {c : Code} {D : va_G} {ad : Nat → Nat} {ac : Nat → ClassId} {h' : Mm} (X : Fx p s m args meth c cX11_note 2 RX11 none D ad ac LM []) : ∀ (n : Nat) (x1 : Int32) (h : Mm) (H : Heap) (locs : List Loc) (ls : Array Slot), mX11_note_51 n x1 h = some h' → Hp D ad ac LM h s H locs → lv_has ls 2 [(0, .ref (ad 0)), (1, .int x1)] → W p l e (rmD 0) s m args below meth c H locs 0 0 (MQ below (QU D ad ac LM none h' s.heap.size) args s 0 0 (Aa ad LM.length s.heap.size)) (F0 m 51 ls []) := by
  obtain ⟨hx, hb, hml, hown, hts, hr, hlk, hC, hI, hR⟩ := id X
  intro n
  induction n with
  | zero => intro x1 h H locs ls hm; rw [mX11_note_51] at hm; cases hm
  | succ n ih =>
    intro x1 h H locs ls hm hH hl
    rw [mX11_note_51] at hm
    refine lv_iload_n hx hb dX11_note_51 rfl (lv_at hl 1 rfl) ?_
    refine lv_bipush (v := 32) hx hb dX11_note_52 (by decide) ?_
    refine lv_icmp_ge hx hb dX11_note_54 (tgt := 83) (by decide) (fun hc => ?_) (fun hc => ?_)
    · rw [if_pos hc] at hm
      refine lv_aload_n hx hb dX11_note_83 rfl (lv_at hl 0 rfl) ?_
      refine lv_dup hx hb dX11_note_84 rfl ?_
      refine gI X hH fl_X11_135 lM_0 rfl dX11_note_85 ?_
      refine lv_iconst (v := 1) hx hb dX11_note_88 (by decide) ?_
      refine lv_iadd hx hb dX11_note_89 ?_
      obtain ⟨h1, eh1, hm⟩ := mlet_some hm
      refine pI X hH fl_X11_135 fw_11_19 lM_0 rfl dX11_note_90 (fun H locs hH => ?_)
      rw [← eh1] at hH
      cases hm
      exact retV X hH dX11_note_93
    · rw [if_neg hc] at hm
      refine lv_aload_n hx hb dX11_note_57 rfl (lv_at hl 0 rfl) ?_
      refine gR X hH fl_X11_55 lM_0 rfl dX11_note_58 ?_
      refine lv_bipush (v := 32) hx hb dX11_note_61 (by decide) ?_
      refine lv_aload_n hx hb dX11_note_63 rfl (lv_at hl 0 rfl) ?_
      refine gI X hH fl_X11_135 lM_0 rfl dX11_note_64 ?_
      refine lv_imul hx hb dX11_note_67 ?_
      refine lv_iload_n hx hb dX11_note_68 rfl (lv_at hl 1 rfl) ?_
      refine lv_iadd hx hb dX11_note_69 ?_
      refine lv_aload_n hx hb dX11_note_70 rfl (lv_at hl 0 rfl) ?_
      refine gR X hH fl_X11_52 lM_0 rfl dX11_note_71 ?_
      refine lv_iload_n hx hb dX11_note_74 rfl (lv_at hl 1 rfl) ?_
      obtain ⟨hin2, hm⟩ := gIn_some hm
      refine ild X hH lM_15 hin2 dX11_note_75 ?_
      obtain ⟨hin4, hm⟩ := gIn_some hm
      obtain ⟨h3, eh3, hm⟩ := mlet_some hm
      refine ist X hH lM_16 hin4 dX11_note_76 (fun H locs hH => ?_)
      rw [← eh3] at hH
      refine lv_iinc (k := 1) (v := (x1 + 1)) (lv' := [(1, .int (x1 + 1)), (0, .ref (ad 0))]) hx hb dX11_note_77 hl rfl rfl (by decide) rfl (fun ls hl => ?_)
      refine lv_goto hx hb dX11_note_80 (tgt := 51) (by decide) ?_
      exact ih (x1 + 1) h3 _ _ _ hm hH (lv_sub hl [1, 0] rfl)
def mX11_note_49 (h : Mm) : Option Mm := mX11_note_51 FU (0 : Int32) h
set_option maxRecDepth 4000 in
theorem wX11_note_49 {p : Program} {l : Launch} {e : Env} {s : State} {m : MethodId} {args : Array Value} {below : List Frame} {meth : Method} {c : Code} {D : va_G} {ad : Nat → Nat} {ac : Nat → ClassId} {h' : Mm} (X : Fx p s m args meth c cX11_note 2 RX11 none D ad ac LM []) : ∀ (h : Mm) (H : Heap) (locs : List Loc) (ls : Array Slot), mX11_note_49 h = some h' → Hp D ad ac LM h s H locs → lv_has ls 2 [(0, .ref (ad 0))] → W p l e (rmD 0) s m args below meth c H locs 0 0 (MQ below (QU D ad ac LM none h' s.heap.size) args s 0 0 (Aa ad LM.length s.heap.size)) (F0 m 49 ls []) := by
  obtain ⟨hx, hb, hml, hown, hts, hr, hlk, hC, hI, hR⟩ := id X
  intro h H locs ls hm hH hl
  rw [mX11_note_49] at hm
  refine lv_iconst (v := 0) hx hb dX11_note_49 (by decide) ?_
  refine lv_istore_n (lv' := [(1, .int (0 : Int32)), (0, .ref (ad 0))]) hx hb dX11_note_50 rfl hl (by decide) rfl (fun ls hl => ?_)
  exact wX11_note_51 X FU (0 : Int32) h _ _ _ hm hH (lv_sub hl [1, 0] rfl)
def mX11_note_11 : Nat → Int32 → Mm → Option Mm
  | 0, _, _ => none
  | n + 1, x1, h => if (160 : Int32) ≤ x1 then (mlet (wr h 0 19 ((h 0 19) - (1 : Int32))) (fun h1 => mX11_note_49  h1)) else (gIn ((32 : Int32) + x1) 192 (gIn x1 192 (mlet (wr h 16 x1.toNatClampNeg (h 16 ((32 : Int32) + x1).toNatClampNeg)) (fun h3 => mX11_note_11 n (x1 + 1) h3))))
set_option maxRecDepth 4000 in
theorem wX11_note_11 {p : Program} {l : Launch} {e : Env} {s : State} {m : MethodId} {args : Array Value} {below : List Frame} {meth : Method} {c : Code} {D : va_G} {ad : Nat → Nat} {ac : Nat → ClassId} {h' : Mm} (X : Fx p s m args meth c cX11_note 2 RX11 none D ad ac LM []) : ∀ (n : Nat) (x1 : Int32) (h : Mm) (H : Heap) (locs : List Loc) (ls : Array Slot), mX11_note_11 n x1 h = some h' → Hp D ad ac LM h s H locs → lv_has ls 2 [(0, .ref (ad 0)), (1, .int x1)] → W p l e (rmD 0) s m args below meth c H locs 0 0 (MQ below (QU D ad ac LM none h' s.heap.size) args s 0 0 (Aa ad LM.length s.heap.size)) (F0 m 11 ls []) := by
  obtain ⟨hx, hb, hml, hown, hts, hr, hlk, hC, hI, hR⟩ := id X
  intro n
  induction n with
  | zero => intro x1 h H locs ls hm; rw [mX11_note_11] at hm; cases hm
  | succ n ih =>
    intro x1 h H locs ls hm hH hl
    rw [mX11_note_11] at hm
    refine lv_iload_n hx hb dX11_note_11 rfl (lv_at hl 1 rfl) ?_
    refine lv_sipush (v := 160) hx hb dX11_note_12 (by decide) ?_
    refine lv_icmp_ge hx hb dX11_note_15 (tgt := 39) (by decide) (fun hc => ?_) (fun hc => ?_)
    · rw [if_pos hc] at hm
      refine lv_aload_n hx hb dX11_note_39 rfl (lv_at hl 0 rfl) ?_
      refine lv_dup hx hb dX11_note_40 rfl ?_
      refine gI X hH fl_X11_135 lM_0 rfl dX11_note_41 ?_
      refine lv_iconst (v := 1) hx hb dX11_note_44 (by decide) ?_
      refine lv_isub hx hb dX11_note_45 ?_
      obtain ⟨h1, eh1, hm⟩ := mlet_some hm
      refine pI X hH fl_X11_135 fw_11_19 lM_0 rfl dX11_note_46 (fun H locs hH => ?_)
      rw [← eh1] at hH
      exact wX11_note_49 X  h1 _ _ _ hm hH (lv_sub hl [0] rfl)
    · rw [if_neg hc] at hm
      refine lv_aload_n hx hb dX11_note_18 rfl (lv_at hl 0 rfl) ?_
      refine gR X hH fl_X11_55 lM_0 rfl dX11_note_19 ?_
      refine lv_iload_n hx hb dX11_note_22 rfl (lv_at hl 1 rfl) ?_
      refine lv_aload_n hx hb dX11_note_23 rfl (lv_at hl 0 rfl) ?_
      refine gR X hH fl_X11_55 lM_0 rfl dX11_note_24 ?_
      refine lv_bipush (v := 32) hx hb dX11_note_27 (by decide) ?_
      refine lv_iload_n hx hb dX11_note_29 rfl (lv_at hl 1 rfl) ?_
      refine lv_iadd hx hb dX11_note_30 ?_
      obtain ⟨hin2, hm⟩ := gIn_some hm
      refine ild X hH lM_16 hin2 dX11_note_31 ?_
      obtain ⟨hin4, hm⟩ := gIn_some hm
      obtain ⟨h3, eh3, hm⟩ := mlet_some hm
      refine ist X hH lM_16 hin4 dX11_note_32 (fun H locs hH => ?_)
      rw [← eh3] at hH
      refine lv_iinc (k := 1) (v := (x1 + 1)) (lv' := [(1, .int (x1 + 1)), (0, .ref (ad 0))]) hx hb dX11_note_33 hl rfl rfl (by decide) rfl (fun ls hl => ?_)
      refine lv_goto hx hb dX11_note_36 (tgt := 11) (by decide) ?_
      exact ih (x1 + 1) h3 _ _ _ hm hH (lv_sub hl [1, 0] rfl)
def mX11_note (h : Mm) : Option Mm := if (h 0 19) = (6 : Int32) then (mX11_note_11 FU (0 : Int32) h) else (mX11_note_49  h)
set_option maxRecDepth 4000 in
theorem mt_X11_note {l : Launch} {D : va_G} {ad : Nat → Nat} {ac : Nat → ClassId} {h : Mm} {h' : Mm} (hm : mX11_note h = some h') : Mt l D ad ac LM [] yX11_note cX11_note 2 none 0 [.ref (ad 0)] h none h' := by
  refine Mt.of (own := RX11) (by decide) rfl (Nat.le_of_ble_eq_true rfl) ?_
  intro p e s m below meth c ls X hH hl
  obtain ⟨hx, hb, hml, hown, hts, hr, hlk, hC, hI, hR⟩ := id X
  have hl : lv_has ls 2 [(0, .ref (ad 0))] := hl
  rw [mX11_note] at hm
  refine lv_aload_n hx hb dX11_note_0 rfl (lv_at hl 0 rfl) ?_
  refine gI X hH fl_X11_135 lM_0 rfl dX11_note_1 ?_
  refine lv_bipush (v := 6) hx hb dX11_note_4 (by decide) ?_
  refine lv_icmp_ne hx hb dX11_note_6 (tgt := 49) (by decide) (fun hc => ?_) (fun hc => ?_)
  · rw [if_neg hc] at hm
    exact wX11_note_49 X  h _ _ _ hm hH (lv_sub hl [0] rfl)
  · rw [if_pos hc] at hm
    refine lv_iconst (v := 0) hx hb dX11_note_9 (by decide) ?_
    refine lv_istore_n (lv' := [(1, .int (0 : Int32)), (0, .ref (ad 0))]) hx hb dX11_note_10 rfl hl (by decide) rfl (fun ls hl => ?_)
    exact wX11_note_11 X FU (0 : Int32) h _ _ _ hm hH (lv_sub hl [1, 0] rfl)
/-! X11_adopt -/
def mX11_adopt_46 : Nat → Int32 → Int32 → Mm → Option (Int32 × Mm)
  | 0, _, _, _ => none
  | n + 1, x2, x4, h => bd1 (mX11_wide h x2) (fun v1 => if v1 ≤ x4 then (gIn (2 : Int32) 4 (some ((h 22 (2 : Int32).toNatClampNeg), h))) else (gIn x4 6 (gIn (x2 + x4) 32 (mlet (wr h 15 (x2 + x4).toNatClampNeg (h 21 x4.toNatClampNeg)) (fun h4 => mX11_adopt_46 n x2 (x4 + 1) h4)))))
set_option maxRecDepth 4000 in
theorem wX11_adopt_46 {p : Program} {l : Launch} {e : Env} {s : State} {m : MethodId} {args : Array Value} {below : List Frame} {meth : Method} {c : Code} {D : va_G} {ad : Nat → Nat} {ac : Nat → ClassId} {r : Int32} {h' : Mm} (X : Fx p s m args meth c cX11_adopt 5 RX11 (some .int) D ad ac LM []) : ∀ (n : Nat) (x2 : Int32) (x4 : Int32) (h : Mm) (H : Heap) (locs : List Loc) (ls : Array Slot), mX11_adopt_46 n x2 x4 h = some (r, h') → Hp D ad ac LM h s H locs → lv_has ls 5 [(0, .ref (ad 0)), (2, .int x2), (4, .int x4)] → W p l e (rmD 5) s m args below meth c H locs 0 0 (MQ below (QU D ad ac LM (some (.int r)) h' s.heap.size) args s 0 0 (Aa ad LM.length s.heap.size)) (F0 m 46 ls []) := by
  obtain ⟨hx, hb, hml, hown, hts, hr, hlk, hC, hI, hR⟩ := id X
  intro n
  induction n with
  | zero => intro x2 x4 h H locs ls hm; rw [mX11_adopt_46] at hm; cases hm
  | succ n ih =>
    intro x2 x4 h H locs ls hm hH hl
    rw [mX11_adopt_46] at hm
    refine lv_iload hx hb dX11_adopt_46 (lv_at hl 2 rfl) ?_
    refine lv_aload_n hx hb dX11_adopt_48 rfl (lv_at hl 0 rfl) ?_
    refine lv_iload_n hx hb dX11_adopt_49 rfl (lv_at hl 1 rfl) ?_
    obtain ⟨v1, hq, hm⟩ := bd1_some hm
    refine cVi X hH kl_X11_189 kv_X11_wide (mt_X11_wide hq) lM_0 rfl rfl (by decide) hl.1 rfl (Nat.le_of_ble_eq_true rfl) dX11_adopt_50 (fun H locs hH => ?_)
    refine lv_icmp_ge hx hb dX11_adopt_53 (tgt := 78) (by decide) (fun hc => ?_) (fun hc => ?_)
    · rw [if_pos hc] at hm
      refine lv_aload_n hx hb dX11_adopt_78 rfl (lv_at hl 0 rfl) ?_
      refine gR X hH fl_X11_73 lM_0 rfl dX11_adopt_79 ?_
      refine lv_iconst (v := 2) hx hb dX11_adopt_82 (by decide) ?_
      obtain ⟨hin2, hm⟩ := gIn_some hm
      refine ild X hH lM_22 hin2 dX11_adopt_83 ?_
      cases hm
      exact retI X hH dX11_adopt_84
    · rw [if_neg hc] at hm
      refine lv_aload_n hx hb dX11_adopt_56 rfl (lv_at hl 0 rfl) ?_
      refine gR X hH fl_X11_52 lM_0 rfl dX11_adopt_57 ?_
      refine lv_iload_n hx hb dX11_adopt_60 rfl (lv_at hl 1 rfl) ?_
      refine lv_iload hx hb dX11_adopt_61 (lv_at hl 2 rfl) ?_
      refine lv_iadd hx hb dX11_adopt_63 ?_
      refine lv_aload_n hx hb dX11_adopt_64 rfl (lv_at hl 0 rfl) ?_
      refine gR X hH fl_X11_70 lM_0 rfl dX11_adopt_65 ?_
      refine lv_iload hx hb dX11_adopt_68 (lv_at hl 2 rfl) ?_
      obtain ⟨hin3, hm⟩ := gIn_some hm
      refine ild X hH lM_21 hin3 dX11_adopt_70 ?_
      obtain ⟨hin5, hm⟩ := gIn_some hm
      obtain ⟨h4, eh4, hm⟩ := mlet_some hm
      refine ist X hH lM_15 hin5 dX11_adopt_71 (fun H locs hH => ?_)
      rw [← eh4] at hH
      refine lv_iinc (k := 2) (v := (x4 + 1)) (lv' := [(4, .int (x4 + 1)), (0, .ref (ad 0)), (2, .int x2)]) hx hb dX11_adopt_72 hl rfl rfl (by decide) rfl (fun ls hl => ?_)
      refine lv_goto hx hb dX11_adopt_75 (tgt := 46) (by decide) ?_
      exact ih x2 (x4 + 1) h4 _ _ _ hm hH (lv_sub hl [1, 2, 0] rfl)
def mX11_adopt (h : Mm) (a1 : Int32) (a2 : Int32) (a3 : Int32) : Option (Int32 × Mm) := bd1 (mX11_in h a1.toInt64 (0 : Int64) (1 : Int64)) (fun v1 => if v1 = 0 then (some ((-1 : Int32), h)) else (bd1 (mX11_isPass h a2) (fun v2 => if v2 = 0 then (some ((-1 : Int32), h)) else (bd1 (mX11_in h a3.toInt64 (0 : Int64) (6 : Int64)) (fun v3 => if v3 = 0 then (some ((-1 : Int32), h)) else (bdh (mX11_plans h a1 a2 a3) (fun h4 => bdh (mX11_note h4) (fun h5 => mX11_adopt_46 FU a2 (0 : Int32) h5))))))))
set_option maxRecDepth 4000 in
theorem mt_X11_adopt {l : Launch} {D : va_G} {ad : Nat → Nat} {ac : Nat → ClassId} {h : Mm} {a1 : Int32} {a2 : Int32} {a3 : Int32} {r : Int32} {h' : Mm} (hm : mX11_adopt h a1 a2 a3 = some (r, h')) : Mt l D ad ac LM [] yX11_adopt cX11_adopt 5 (some .int) 5 [.ref (ad 0), .int a1, .int a2, .int a3] h (some (.int r)) h' := by
  refine Mt.of (own := RX11) (by decide) rfl (Nat.le_of_ble_eq_true rfl) ?_
  intro p e s m below meth c ls X hH hl
  obtain ⟨hx, hb, hml, hown, hts, hr, hlk, hC, hI, hR⟩ := id X
  have hl : lv_has ls 5 [(0, .ref (ad 0)), (1, .int a1), (2, .int a2), (3, .int a3)] := hl
  rw [mX11_adopt] at hm
  refine lv_iload_n hx hb dX11_adopt_0 rfl (lv_at hl 1 rfl) ?_
  refine lv_i2l hx hb dX11_adopt_1 rfl ?_
  refine lv_lconst (v := 0) hx hb dX11_adopt_2 (by decide) ?_
  refine lv_lconst (v := 1) hx hb dX11_adopt_3 (by decide) ?_
  obtain ⟨v1, hq, hm⟩ := bd1_some hm
  refine cSi (As := [.long a1.toInt64, .long (0 : Int64), .long (1 : Int64)]) X hH kl_X11_93 ks_X11_in (mt_X11_in hq) rfl (by decide) hl.1 rfl (Nat.le_of_ble_eq_true rfl) dX11_adopt_4 (fun H locs hH => ?_)
  refine lv_if_eq hx hb dX11_adopt_7 (tgt := 30) (by decide) (fun hc => ?_) (fun hc => ?_)
  · rw [if_pos hc] at hm
    refine lv_iconst (v := (-1)) hx hb dX11_adopt_30 (by decide) ?_
    cases hm
    exact retI X hH dX11_adopt_31
  · rw [if_neg hc] at hm
    refine lv_aload_n hx hb dX11_adopt_10 rfl (lv_at hl 0 rfl) ?_
    refine lv_iload_n hx hb dX11_adopt_11 rfl (lv_at hl 2 rfl) ?_
    obtain ⟨v2, hq, hm⟩ := bd1_some hm
    refine cVi X hH kl_X11_149 kv_X11_isPass (mt_X11_isPass hq) lM_0 rfl rfl (by decide) hl.1 rfl (Nat.le_of_ble_eq_true rfl) dX11_adopt_12 (fun H locs hH => ?_)
    refine lv_if_eq hx hb dX11_adopt_15 (tgt := 30) (by decide) (fun hc => ?_) (fun hc => ?_)
    · rw [if_pos hc] at hm
      refine lv_iconst (v := (-1)) hx hb dX11_adopt_30 (by decide) ?_
      cases hm
      exact retI X hH dX11_adopt_31
    · rw [if_neg hc] at hm
      refine lv_iload_n hx hb dX11_adopt_18 rfl (lv_at hl 3 rfl) ?_
      refine lv_i2l hx hb dX11_adopt_19 rfl ?_
      refine lv_lconst (v := 0) hx hb dX11_adopt_20 (by decide) ?_
      refine lv_ldc2 hx hb hown (hts _ kc_X11_138) dX11_adopt_21 ?_
      obtain ⟨v3, hq, hm⟩ := bd1_some hm
      refine cSi (As := [.long a3.toInt64, .long (0 : Int64), .long (6 : Int64)]) X hH kl_X11_93 ks_X11_in (mt_X11_in hq) rfl (by decide) hl.1 rfl (Nat.le_of_ble_eq_true rfl) dX11_adopt_24 (fun H locs hH => ?_)
      refine lv_if_ne hx hb dX11_adopt_27 (tgt := 32) (by decide) (fun hc => ?_) (fun hc => ?_)
      · rw [if_neg hc] at hm
        refine lv_aload_n hx hb dX11_adopt_32 rfl (lv_at hl 0 rfl) ?_
        refine lv_iload_n hx hb dX11_adopt_33 rfl (lv_at hl 1 rfl) ?_
        refine lv_iload_n hx hb dX11_adopt_34 rfl (lv_at hl 2 rfl) ?_
        refine lv_iload_n hx hb dX11_adopt_35 rfl (lv_at hl 3 rfl) ?_
        obtain ⟨h4, hq, hm⟩ := bdh_some hm
        refine cVv X hH kl_X11_209 kv_X11_plans (mt_X11_plans hq) lM_0 rfl rfl (by decide) hl.1 rfl (Nat.le_of_ble_eq_true rfl) dX11_adopt_36 (fun H locs hH => ?_)
        refine lv_aload_n hx hb dX11_adopt_39 rfl (lv_at hl 0 rfl) ?_
        obtain ⟨h5, hq, hm⟩ := bdh_some hm
        refine cVv X hH kl_X11_168 kv_X11_note (mt_X11_note hq) lM_0 rfl rfl (by decide) hl.1 rfl (Nat.le_of_ble_eq_true rfl) dX11_adopt_40 (fun H locs hH => ?_)
        refine lv_iconst (v := 0) hx hb dX11_adopt_43 (by decide) ?_
        refine lv_istore (lv' := [(4, .int (0 : Int32)), (0, .ref (ad 0)), (1, .int a1), (2, .int a2), (3, .int a3)]) hx hb dX11_adopt_44 hl (by decide) rfl (fun ls hl => ?_)
        exact wX11_adopt_46 X FU a2 (0 : Int32) h5 _ _ _ hm hH (lv_sub hl [1, 3, 0] rfl)
      · rw [if_pos hc] at hm
        refine lv_iconst (v := (-1)) hx hb dX11_adopt_30 (by decide) ?_
        cases hm
        exact retI X hH dX11_adopt_31
/-! X11_isAntenna -/
def mX11_isAntenna (h : Mm) (a1 : Int32) : Option Int32 := gIn (2 : Int32) 3 (bd1 (mX11_in h a1.toInt64 (0 : Int64) ((h 5 (2 : Int32).toNatClampNeg) - (1 : Int32)).toInt64) (fun v2 => gB v2 (some v2)))
set_option maxRecDepth 4000 in
theorem mt_X11_isAntenna {l : Launch} {D : va_G} {ad : Nat → Nat} {ac : Nat → ClassId} {h : Mm} {a1 : Int32} {r : Int32} (hm : mX11_isAntenna h a1 = some r) : Mt l D ad ac LM [] yX11_isAntenna cX11_isAntenna 2 (some .boolean) 1 [.ref (ad 0), .int a1] h (some (.int r)) h := by
  refine Mt.of (own := RX11) (by decide) rfl (Nat.le_of_ble_eq_true rfl) ?_
  intro p e s m below meth c ls X hH hl
  obtain ⟨hx, hb, hml, hown, hts, hr, hlk, hC, hI, hR⟩ := id X
  have hl : lv_has ls 2 [(0, .ref (ad 0)), (1, .int a1)] := hl
  rw [mX11_isAntenna] at hm
  refine lv_iload_n hx hb dX11_isAntenna_0 rfl (lv_at hl 1 rfl) ?_
  refine lv_i2l hx hb dX11_isAntenna_1 rfl ?_
  refine lv_lconst (v := 0) hx hb dX11_isAntenna_2 (by decide) ?_
  refine lv_aload_n hx hb dX11_isAntenna_3 rfl (lv_at hl 0 rfl) ?_
  refine gR X hH fl_X11_22 lM_0 rfl dX11_isAntenna_4 ?_
  refine lv_iconst (v := 2) hx hb dX11_isAntenna_7 (by decide) ?_
  obtain ⟨hin1, hm⟩ := gIn_some hm
  refine ild X hH lM_5 hin1 dX11_isAntenna_8 ?_
  refine lv_iconst (v := 1) hx hb dX11_isAntenna_9 (by decide) ?_
  refine lv_isub hx hb dX11_isAntenna_10 ?_
  refine lv_i2l hx hb dX11_isAntenna_11 rfl ?_
  obtain ⟨v2, hq, hm⟩ := bd1_some hm
  refine cSi (As := [.long a1.toInt64, .long (0 : Int64), .long ((h 5 (2 : Int32).toNatClampNeg) - (1 : Int32)).toInt64]) X hH kl_X11_93 ks_X11_in (mt_X11_in hq) rfl (by decide) hl.1 rfl (Nat.le_of_ble_eq_true rfl) dX11_isAntenna_12 (fun H locs hH => ?_)
  obtain ⟨hgn, hm⟩ := gB_some hm
  cases hm
  exact retZ X hH hgn dX11_isAntenna_15
/-! X11_sumOf -/
def mX11_sumOf_127 (h : Mm) (k5 : Int32 → Int32 → Int32 → Int32 → Option Int32) (x1 : Int32) (x2 : Int32) (x4 : Int32) (t0 : Int32) (t1 : Int32) : Option Int32 := mlet (t1 + t0) (fun u1 => k5 x1 x2 u1 (x4 + 1))
set_option maxRecDepth 4000 in
theorem wX11_sumOf_127 {p : Program} {l : Launch} {e : Env} {s : State} {m : MethodId} {args : Array Value} {below : List Frame} {meth : Method} {c : Code} {D : va_G} {ad : Nat → Nat} {ac : Nat → ClassId} {h : Mm} {r : Int32} (X : Fx p s m args meth c cX11_sumOf 6 RX11 (some .int) D ad ac LM []) {k5 : Int32 → Int32 → Int32 → Int32 → Option Int32} (ih5 : ∀ (x1 : Int32) (x2 : Int32) (x3 : Int32) (x4 : Int32) (H : Heap) (locs : List Loc) (ls : Array Slot), k5 x1 x2 x3 x4 = some r → Hp D ad ac LM h s H locs → lv_has ls 6 [(0, .ref (ad 0)), (1, .int x1), (2, .int x2), (3, .int x3), (4, .int x4)] → W p l e (rmD 0) s m args below meth c H locs 0 0 (MQ below (QU D ad ac LM (some (.int r)) h s.heap.size) args s 0 0 (Aa ad LM.length s.heap.size)) (F0 m 5 ls [])) : ∀ (x1 : Int32) (x2 : Int32) (x4 : Int32) (t0 : Int32) (t1 : Int32) (H : Heap) (locs : List Loc) (ls : Array Slot), mX11_sumOf_127 h k5 x1 x2 x4 t0 t1 = some r → Hp D ad ac LM h s H locs → lv_has ls 6 [(0, .ref (ad 0)), (1, .int x1), (2, .int x2), (4, .int x4)] → W p l e (rmD 0) s m args below meth c H locs 0 0 (MQ below (QU D ad ac LM (some (.int r)) h s.heap.size) args s 0 0 (Aa ad LM.length s.heap.size)) (F0 m 127 ls [.int t0, .int t1]) := by
  obtain ⟨hx, hb, hml, hown, hts, hr, hlk, hC, hI, hR⟩ := id X
  intro x1 x2 x4 t0 t1 H locs ls hm hH hl
  rw [mX11_sumOf_127] at hm
  refine lv_iadd hx hb dX11_sumOf_127 ?_
  obtain ⟨u1, eu1, hm⟩ := mlet_some hm
  refine W.eq (g2 := F0 m 128 ls (.int u1 :: [])) (by rw [eu1]) ?_
  refine lv_istore_n (lv' := [(3, .int u1), (0, .ref (ad 0)), (1, .int x1), (2, .int x2), (4, .int x4)]) hx hb dX11_sumOf_128 rfl hl (by decide) rfl (fun ls hl => ?_)
  refine lv_iinc (k := 4) (v := (x4 + 1)) (lv' := [(4, .int (x4 + 1)), (3, .int u1), (0, .ref (ad 0)), (1, .int x1), (2, .int x2)]) hx hb dX11_sumOf_129 hl rfl rfl (by decide) rfl (fun ls hl => ?_)
  refine lv_goto hx hb dX11_sumOf_132 (tgt := 5) (by decide) ?_
  exact ih5 x1 x2 u1 (x4 + 1) _ _ _ hm hH (lv_sub hl [2, 3, 4, 1, 0] rfl)
def mX11_sumOf_89 (h : Mm) (k5 : Int32 → Int32 → Int32 → Int32 → Option Int32) (x1 : Int32) (x2 : Int32) (x3 : Int32) (x4 : Int32) (t0 : Int32) : Option Int32 := if t0 = 0 then (mX11_sumOf_127 h k5 x1 x2 x4 (0 : Int32) x3) else (if x1 = (3 : Int32) then (gIn x4 24 (gIn x4 24 (mX11_sumOf_127 h k5 x1 x2 x4 (((h 11 x4.toNatClampNeg) - (h 10 x4.toNatClampNeg)) + (1 : Int32)) x3))) else (mX11_sumOf_127 h k5 x1 x2 x4 (1 : Int32) x3))
set_option maxRecDepth 4000 in
theorem wX11_sumOf_89 {p : Program} {l : Launch} {e : Env} {s : State} {m : MethodId} {args : Array Value} {below : List Frame} {meth : Method} {c : Code} {D : va_G} {ad : Nat → Nat} {ac : Nat → ClassId} {h : Mm} {r : Int32} (X : Fx p s m args meth c cX11_sumOf 6 RX11 (some .int) D ad ac LM []) {k5 : Int32 → Int32 → Int32 → Int32 → Option Int32} (ih5 : ∀ (x1 : Int32) (x2 : Int32) (x3 : Int32) (x4 : Int32) (H : Heap) (locs : List Loc) (ls : Array Slot), k5 x1 x2 x3 x4 = some r → Hp D ad ac LM h s H locs → lv_has ls 6 [(0, .ref (ad 0)), (1, .int x1), (2, .int x2), (3, .int x3), (4, .int x4)] → W p l e (rmD 0) s m args below meth c H locs 0 0 (MQ below (QU D ad ac LM (some (.int r)) h s.heap.size) args s 0 0 (Aa ad LM.length s.heap.size)) (F0 m 5 ls [])) : ∀ (x1 : Int32) (x2 : Int32) (x3 : Int32) (x4 : Int32) (t0 : Int32) (H : Heap) (locs : List Loc) (ls : Array Slot), mX11_sumOf_89 h k5 x1 x2 x3 x4 t0 = some r → Hp D ad ac LM h s H locs → lv_has ls 6 [(0, .ref (ad 0)), (1, .int x1), (2, .int x2), (3, .int x3), (4, .int x4)] → W p l e (rmD 0) s m args below meth c H locs 0 0 (MQ below (QU D ad ac LM (some (.int r)) h s.heap.size) args s 0 0 (Aa ad LM.length s.heap.size)) (F0 m 89 ls [.int t0]) := by
  obtain ⟨hx, hb, hml, hown, hts, hr, hlk, hC, hI, hR⟩ := id X
  intro x1 x2 x3 x4 t0 H locs ls hm hH hl
  rw [mX11_sumOf_89] at hm
  refine lv_istore (lv' := [(5, .int t0), (0, .ref (ad 0)), (1, .int x1), (2, .int x2), (3, .int x3), (4, .int x4)]) hx hb dX11_sumOf_89 hl (by decide) rfl (fun ls hl => ?_)
  refine lv_iload_n hx hb dX11_sumOf_91 rfl (lv_at hl 4 rfl) ?_
  refine lv_iload hx hb dX11_sumOf_92 (lv_at hl 0 rfl) ?_
  refine lv_if_ne hx hb dX11_sumOf_94 (tgt := 101) (by decide) (fun hc => ?_) (fun hc => ?_)
  · rw [if_neg hc] at hm
    refine lv_iload_n hx hb dX11_sumOf_101 rfl (lv_at hl 2 rfl) ?_
    refine lv_iconst (v := 3) hx hb dX11_sumOf_102 (by decide) ?_
    refine lv_icmp_ne hx hb dX11_sumOf_103 (tgt := 126) (by decide) (fun hc => ?_) (fun hc => ?_)
    · rw [if_neg hc] at hm
      refine lv_iconst (v := 1) hx hb dX11_sumOf_126 (by decide) ?_
      exact wX11_sumOf_127 X ih5 x1 x2 x4 (1 : Int32) x3 _ _ _ hm hH (lv_sub hl [1, 2, 3, 5] rfl)
    · rw [if_pos hc] at hm
      refine lv_aload_n hx hb dX11_sumOf_106 rfl (lv_at hl 1 rfl) ?_
      refine gR X hH fl_X11_40 lM_0 rfl dX11_sumOf_107 ?_
      refine lv_iload hx hb dX11_sumOf_110 (lv_at hl 5 rfl) ?_
      obtain ⟨hin1, hm⟩ := gIn_some hm
      refine ild X hH lM_11 hin1 dX11_sumOf_112 ?_
      refine lv_aload_n hx hb dX11_sumOf_113 rfl (lv_at hl 1 rfl) ?_
      refine gR X hH fl_X11_37 lM_0 rfl dX11_sumOf_114 ?_
      refine lv_iload hx hb dX11_sumOf_117 (lv_at hl 5 rfl) ?_
      obtain ⟨hin2, hm⟩ := gIn_some hm
      refine ild X hH lM_10 hin2 dX11_sumOf_119 ?_
      refine lv_isub hx hb dX11_sumOf_120 ?_
      refine lv_iconst (v := 1) hx hb dX11_sumOf_121 (by decide) ?_
      refine lv_iadd hx hb dX11_sumOf_122 ?_
      refine lv_goto hx hb dX11_sumOf_123 (tgt := 127) (by decide) ?_
      exact wX11_sumOf_127 X ih5 x1 x2 x4 (((h 11 x4.toNatClampNeg) - (h 10 x4.toNatClampNeg)) + (1 : Int32)) x3 _ _ _ hm hH (lv_sub hl [1, 2, 3, 5] rfl)
  · rw [if_pos hc] at hm
    refine lv_iconst (v := 0) hx hb dX11_sumOf_97 (by decide) ?_
    refine lv_goto hx hb dX11_sumOf_98 (tgt := 127) (by decide) ?_
    exact wX11_sumOf_127 X ih5 x1 x2 x4 (0 : Int32) x3 _ _ _ hm hH (lv_sub hl [1, 2, 3, 5] rfl)
def mX11_sumOf_69 (h : Mm) (k5 : Int32 → Int32 → Int32 → Int32 → Option Int32) (x1 : Int32) (x2 : Int32) (x3 : Int32) (x4 : Int32) : Option Int32 := mX11_sumOf_89 h k5 x1 x2 x3 x4 (0 : Int32)
set_option maxRecDepth 4000 in
theorem wX11_sumOf_69 {p : Program} {l : Launch} {e : Env} {s : State} {m : MethodId} {args : Array Value} {below : List Frame} {meth : Method} {c : Code} {D : va_G} {ad : Nat → Nat} {ac : Nat → ClassId} {h : Mm} {r : Int32} (X : Fx p s m args meth c cX11_sumOf 6 RX11 (some .int) D ad ac LM []) {k5 : Int32 → Int32 → Int32 → Int32 → Option Int32} (ih5 : ∀ (x1 : Int32) (x2 : Int32) (x3 : Int32) (x4 : Int32) (H : Heap) (locs : List Loc) (ls : Array Slot), k5 x1 x2 x3 x4 = some r → Hp D ad ac LM h s H locs → lv_has ls 6 [(0, .ref (ad 0)), (1, .int x1), (2, .int x2), (3, .int x3), (4, .int x4)] → W p l e (rmD 0) s m args below meth c H locs 0 0 (MQ below (QU D ad ac LM (some (.int r)) h s.heap.size) args s 0 0 (Aa ad LM.length s.heap.size)) (F0 m 5 ls [])) : ∀ (x1 : Int32) (x2 : Int32) (x3 : Int32) (x4 : Int32) (H : Heap) (locs : List Loc) (ls : Array Slot), mX11_sumOf_69 h k5 x1 x2 x3 x4 = some r → Hp D ad ac LM h s H locs → lv_has ls 6 [(0, .ref (ad 0)), (1, .int x1), (2, .int x2), (3, .int x3), (4, .int x4)] → W p l e (rmD 0) s m args below meth c H locs 0 0 (MQ below (QU D ad ac LM (some (.int r)) h s.heap.size) args s 0 0 (Aa ad LM.length s.heap.size)) (F0 m 69 ls []) := by
  obtain ⟨hx, hb, hml, hown, hts, hr, hlk, hC, hI, hR⟩ := id X
  intro x1 x2 x3 x4 H locs ls hm hH hl
  rw [mX11_sumOf_69] at hm
  refine lv_iconst (v := 0) hx hb dX11_sumOf_69 (by decide) ?_
  refine lv_goto hx hb dX11_sumOf_70 (tgt := 89) (by decide) ?_
  exact wX11_sumOf_89 X ih5 x1 x2 x3 x4 (0 : Int32) _ _ _ hm hH (lv_sub hl [0, 1, 2, 3, 4] rfl)
def mX11_sumOf_5 (h : Mm) : Nat → Int32 → Int32 → Int32 → Int32 → Option Int32
  | 0, _, _, _, _ => none
  | n + 1, x1, x2, x3, x4 => if (h 0 16) ≤ x4 then (some x3) else (if x1 = 0 then (gIn x4 24 (if (h 12 x4.toNatClampNeg) = x2 then (mX11_sumOf_89 h (mX11_sumOf_5 h n) x1 x2 x3 x4 (1 : Int32)) else (mX11_sumOf_89 h (mX11_sumOf_5 h n) x1 x2 x3 x4 (0 : Int32)))) else (if x1 = (1 : Int32) then (gIn x4 24 (if (h 12 x4.toNatClampNeg) = x2 then (gIn x4 32 (if (h 15 x4.toNatClampNeg) = (-4 : Int32) then (mX11_sumOf_69 h (mX11_sumOf_5 h n) x1 x2 x3 x4) else (mX11_sumOf_89 h (mX11_sumOf_5 h n) x1 x2 x3 x4 (1 : Int32)))) else (mX11_sumOf_69 h (mX11_sumOf_5 h n) x1 x2 x3 x4))) else (gIn x4 32 (if (h 15 x4.toNatClampNeg) = x2 then (mX11_sumOf_89 h (mX11_sumOf_5 h n) x1 x2 x3 x4 (1 : Int32)) else (mX11_sumOf_89 h (mX11_sumOf_5 h n) x1 x2 x3 x4 (0 : Int32))))))
set_option maxRecDepth 4000 in
theorem wX11_sumOf_5 {p : Program} {l : Launch} {e : Env} {s : State} {m : MethodId} {args : Array Value} {below : List Frame} {meth : Method} {c : Code} {D : va_G} {ad : Nat → Nat} {ac : Nat → ClassId} {h : Mm} {r : Int32} (X : Fx p s m args meth c cX11_sumOf 6 RX11 (some .int) D ad ac LM []) : ∀ (n : Nat) (x1 : Int32) (x2 : Int32) (x3 : Int32) (x4 : Int32) (H : Heap) (locs : List Loc) (ls : Array Slot), mX11_sumOf_5 h n x1 x2 x3 x4 = some r → Hp D ad ac LM h s H locs → lv_has ls 6 [(0, .ref (ad 0)), (1, .int x1), (2, .int x2), (3, .int x3), (4, .int x4)] → W p l e (rmD 0) s m args below meth c H locs 0 0 (MQ below (QU D ad ac LM (some (.int r)) h s.heap.size) args s 0 0 (Aa ad LM.length s.heap.size)) (F0 m 5 ls []) := by
  obtain ⟨hx, hb, hml, hown, hts, hr, hlk, hC, hI, hR⟩ := id X
  intro n
  induction n with
  | zero => intro x1 x2 x3 x4 H locs ls hm; rw [mX11_sumOf_5] at hm; cases hm
  | succ n ih =>
    intro x1 x2 x3 x4 H locs ls hm hH hl
    rw [mX11_sumOf_5] at hm
    refine lv_iload hx hb dX11_sumOf_5 (lv_at hl 4 rfl) ?_
    refine lv_aload_n hx hb dX11_sumOf_7 rfl (lv_at hl 0 rfl) ?_
    refine gI X hH fl_X11_124 lM_0 rfl dX11_sumOf_8 ?_
    refine lv_icmp_ge hx hb dX11_sumOf_11 (tgt := 135) (by decide) (fun hc => ?_) (fun hc => ?_)
    · rw [if_pos hc] at hm
      refine lv_iload_n hx hb dX11_sumOf_135 rfl (lv_at hl 3 rfl) ?_
      cases hm
      exact retI X hH dX11_sumOf_136
    · rw [if_neg hc] at hm
      refine lv_iload_n hx hb dX11_sumOf_14 rfl (lv_at hl 1 rfl) ?_
      refine lv_if_ne hx hb dX11_sumOf_15 (tgt := 37) (by decide) (fun hc => ?_) (fun hc => ?_)
      · rw [if_neg hc] at hm
        refine lv_iload_n hx hb dX11_sumOf_37 rfl (lv_at hl 1 rfl) ?_
        refine lv_iconst (v := 1) hx hb dX11_sumOf_38 (by decide) ?_
        refine lv_icmp_ne hx hb dX11_sumOf_39 (tgt := 73) (by decide) (fun hc => ?_) (fun hc => ?_)
        · rw [if_neg hc] at hm
          refine lv_aload_n hx hb dX11_sumOf_73 rfl (lv_at hl 0 rfl) ?_
          refine gR X hH fl_X11_52 lM_0 rfl dX11_sumOf_74 ?_
          refine lv_iload hx hb dX11_sumOf_77 (lv_at hl 4 rfl) ?_
          obtain ⟨hin1, hm⟩ := gIn_some hm
          refine ild X hH lM_15 hin1 dX11_sumOf_79 ?_
          refine lv_iload_n hx hb dX11_sumOf_80 rfl (lv_at hl 2 rfl) ?_
          refine lv_icmp_ne hx hb dX11_sumOf_81 (tgt := 88) (by decide) (fun hc => ?_) (fun hc => ?_)
          · rw [if_neg hc] at hm
            refine lv_iconst (v := 0) hx hb dX11_sumOf_88 (by decide) ?_
            exact wX11_sumOf_89 X ih x1 x2 x3 x4 (0 : Int32) _ _ _ hm hH (lv_sub hl [0, 1, 2, 3, 4] rfl)
          · rw [if_pos hc] at hm
            refine lv_iconst (v := 1) hx hb dX11_sumOf_84 (by decide) ?_
            refine lv_goto hx hb dX11_sumOf_85 (tgt := 89) (by decide) ?_
            exact wX11_sumOf_89 X ih x1 x2 x3 x4 (1 : Int32) _ _ _ hm hH (lv_sub hl [0, 1, 2, 3, 4] rfl)
        · rw [if_pos hc] at hm
          refine lv_aload_n hx hb dX11_sumOf_42 rfl (lv_at hl 0 rfl) ?_
          refine gR X hH fl_X11_43 lM_0 rfl dX11_sumOf_43 ?_
          refine lv_iload hx hb dX11_sumOf_46 (lv_at hl 4 rfl) ?_
          obtain ⟨hin2, hm⟩ := gIn_some hm
          refine ild X hH lM_12 hin2 dX11_sumOf_48 ?_
          refine lv_iload_n hx hb dX11_sumOf_49 rfl (lv_at hl 2 rfl) ?_
          refine lv_icmp_ne hx hb dX11_sumOf_50 (tgt := 69) (by decide) (fun hc => ?_) (fun hc => ?_)
          · rw [if_neg hc] at hm
            exact wX11_sumOf_69 X ih x1 x2 x3 x4 _ _ _ hm hH (lv_sub hl [0, 1, 2, 3, 4] rfl)
          · rw [if_pos hc] at hm
            refine lv_aload_n hx hb dX11_sumOf_53 rfl (lv_at hl 0 rfl) ?_
            refine gR X hH fl_X11_52 lM_0 rfl dX11_sumOf_54 ?_
            refine lv_iload hx hb dX11_sumOf_57 (lv_at hl 4 rfl) ?_
            obtain ⟨hin3, hm⟩ := gIn_some hm
            refine ild X hH lM_15 hin3 dX11_sumOf_59 ?_
            refine lv_bipush (v := (-4)) hx hb dX11_sumOf_60 (by decide) ?_
            refine lv_icmp_eq hx hb dX11_sumOf_62 (tgt := 69) (by decide) (fun hc => ?_) (fun hc => ?_)
            · rw [if_pos hc] at hm
              exact wX11_sumOf_69 X ih x1 x2 x3 x4 _ _ _ hm hH (lv_sub hl [0, 1, 2, 3, 4] rfl)
            · rw [if_neg hc] at hm
              refine lv_iconst (v := 1) hx hb dX11_sumOf_65 (by decide) ?_
              refine lv_goto hx hb dX11_sumOf_66 (tgt := 89) (by decide) ?_
              exact wX11_sumOf_89 X ih x1 x2 x3 x4 (1 : Int32) _ _ _ hm hH (lv_sub hl [0, 1, 2, 3, 4] rfl)
      · rw [if_pos hc] at hm
        refine lv_aload_n hx hb dX11_sumOf_18 rfl (lv_at hl 0 rfl) ?_
        refine gR X hH fl_X11_43 lM_0 rfl dX11_sumOf_19 ?_
        refine lv_iload hx hb dX11_sumOf_22 (lv_at hl 4 rfl) ?_
        obtain ⟨hin4, hm⟩ := gIn_some hm
        refine ild X hH lM_12 hin4 dX11_sumOf_24 ?_
        refine lv_iload_n hx hb dX11_sumOf_25 rfl (lv_at hl 2 rfl) ?_
        refine lv_icmp_ne hx hb dX11_sumOf_26 (tgt := 33) (by decide) (fun hc => ?_) (fun hc => ?_)
        · rw [if_neg hc] at hm
          refine lv_iconst (v := 0) hx hb dX11_sumOf_33 (by decide) ?_
          refine lv_goto hx hb dX11_sumOf_34 (tgt := 89) (by decide) ?_
          exact wX11_sumOf_89 X ih x1 x2 x3 x4 (0 : Int32) _ _ _ hm hH (lv_sub hl [0, 1, 2, 3, 4] rfl)
        · rw [if_pos hc] at hm
          refine lv_iconst (v := 1) hx hb dX11_sumOf_29 (by decide) ?_
          refine lv_goto hx hb dX11_sumOf_30 (tgt := 89) (by decide) ?_
          exact wX11_sumOf_89 X ih x1 x2 x3 x4 (1 : Int32) _ _ _ hm hH (lv_sub hl [0, 1, 2, 3, 4] rfl)
def mX11_sumOf (h : Mm) (a1 : Int32) (a2 : Int32) : Option Int32 := mX11_sumOf_5 h FU a1 a2 (0 : Int32) (0 : Int32)
set_option maxRecDepth 4000 in
theorem mt_X11_sumOf {l : Launch} {D : va_G} {ad : Nat → Nat} {ac : Nat → ClassId} {h : Mm} {a1 : Int32} {a2 : Int32} {r : Int32} (hm : mX11_sumOf h a1 a2 = some r) : Mt l D ad ac LM [] yX11_sumOf cX11_sumOf 6 (some .int) 0 [.ref (ad 0), .int a1, .int a2] h (some (.int r)) h := by
  refine Mt.of (own := RX11) (by decide) rfl (Nat.le_of_ble_eq_true rfl) ?_
  intro p e s m below meth c ls X hH hl
  obtain ⟨hx, hb, hml, hown, hts, hr, hlk, hC, hI, hR⟩ := id X
  have hl : lv_has ls 6 [(0, .ref (ad 0)), (1, .int a1), (2, .int a2)] := hl
  rw [mX11_sumOf] at hm
  refine lv_iconst (v := 0) hx hb dX11_sumOf_0 (by decide) ?_
  refine lv_istore_n (lv' := [(3, .int (0 : Int32)), (0, .ref (ad 0)), (1, .int a1), (2, .int a2)]) hx hb dX11_sumOf_1 rfl hl (by decide) rfl (fun ls hl => ?_)
  refine lv_iconst (v := 0) hx hb dX11_sumOf_2 (by decide) ?_
  refine lv_istore (lv' := [(4, .int (0 : Int32)), (3, .int (0 : Int32)), (0, .ref (ad 0)), (1, .int a1), (2, .int a2)]) hx hb dX11_sumOf_3 hl (by decide) rfl (fun ls hl => ?_)
  exact wX11_sumOf_5 X FU a1 a2 (0 : Int32) (0 : Int32) _ _ _ hm hH (lv_sub hl [2, 3, 4, 1, 0] rfl)
/-! X11_antenna -/
def mX11_antenna_54 (h : Mm) (x1 : Int32) (x2 : Int32) (t0 : Int32) : Option Int32 := if (3 : Int32) ≤ x2 then (if (5 : Int32) ≤ x2 then (bd1 (mX11_sumOf h (x2 - (3 : Int32)) x1) (fun v1 => some v1)) else (if t0 = 0 then (some (-4 : Int32)) else (gIn ((((24 : Int32) + ((2 : Int32) * x1)) + x2) - (3 : Int32)) 32 (some (h 15 ((((24 : Int32) + ((2 : Int32) * x1)) + x2) - (3 : Int32)).toNatClampNeg))))) else (gIn (((3 : Int32) * x1) + x2) 12 (some (h 4 (((3 : Int32) * x1) + x2).toNatClampNeg)))
set_option maxRecDepth 4000 in
theorem wX11_antenna_54 {p : Program} {l : Launch} {e : Env} {s : State} {m : MethodId} {args : Array Value} {below : List Frame} {meth : Method} {c : Code} {D : va_G} {ad : Nat → Nat} {ac : Nat → ClassId} {h : Mm} {r : Int32} (X : Fx p s m args meth c cX11_antenna 4 RX11 (some .int) D ad ac LM []) : ∀ (x1 : Int32) (x2 : Int32) (t0 : Int32) (H : Heap) (locs : List Loc) (ls : Array Slot), mX11_antenna_54 h x1 x2 t0 = some r → Hp D ad ac LM h s H locs → lv_has ls 4 [(0, .ref (ad 0)), (1, .int x1), (2, .int x2)] → W p l e (rmD 2) s m args below meth c H locs 0 0 (MQ below (QU D ad ac LM (some (.int r)) h s.heap.size) args s 0 0 (Aa ad LM.length s.heap.size)) (F0 m 54 ls [.int t0]) := by
  obtain ⟨hx, hb, hml, hown, hts, hr, hlk, hC, hI, hR⟩ := id X
  intro x1 x2 t0 H locs ls hm hH hl
  rw [mX11_antenna_54] at hm
  refine lv_istore_n (lv' := [(3, .int t0), (0, .ref (ad 0)), (1, .int x1), (2, .int x2)]) hx hb dX11_antenna_54 rfl hl (by decide) rfl (fun ls hl => ?_)
  refine lv_iload_n hx hb dX11_antenna_55 rfl (lv_at hl 3 rfl) ?_
  refine lv_iconst (v := 3) hx hb dX11_antenna_56 (by decide) ?_
  refine lv_icmp_ge hx hb dX11_antenna_57 (tgt := 73) (by decide) (fun hc => ?_) (fun hc => ?_)
  · rw [if_pos hc] at hm
    refine lv_iload_n hx hb dX11_antenna_73 rfl (lv_at hl 3 rfl) ?_
    refine lv_iconst (v := 5) hx hb dX11_antenna_74 (by decide) ?_
    refine lv_icmp_ge hx hb dX11_antenna_75 (tgt := 105) (by decide) (fun hc => ?_) (fun hc => ?_)
    · rw [if_pos hc] at hm
      refine lv_aload_n hx hb dX11_antenna_105 rfl (lv_at hl 1 rfl) ?_
      refine lv_iload_n hx hb dX11_antenna_106 rfl (lv_at hl 3 rfl) ?_
      refine lv_iconst (v := 3) hx hb dX11_antenna_107 (by decide) ?_
      refine lv_isub hx hb dX11_antenna_108 ?_
      refine lv_iload_n hx hb dX11_antenna_109 rfl (lv_at hl 2 rfl) ?_
      obtain ⟨v1, hq, hm⟩ := bd1_some hm
      refine cVi X hH kl_X11_140 kv_X11_sumOf (mt_X11_sumOf hq) lM_0 rfl rfl (by decide) hl.1 rfl (Nat.le_of_ble_eq_true rfl) dX11_antenna_110 (fun H locs hH => ?_)
      cases hm
      exact retI X hH dX11_antenna_113
    · rw [if_neg hc] at hm
      refine lv_iload_n hx hb dX11_antenna_78 rfl (lv_at hl 0 rfl) ?_
      refine lv_if_eq hx hb dX11_antenna_79 (tgt := 100) (by decide) (fun hc => ?_) (fun hc => ?_)
      · rw [if_pos hc] at hm
        refine lv_bipush (v := (-4)) hx hb dX11_antenna_100 (by decide) ?_
        refine lv_goto hx hb dX11_antenna_102 (tgt := 113) (by decide) ?_
        cases hm
        exact retI X hH dX11_antenna_113
      · rw [if_neg hc] at hm
        refine lv_aload_n hx hb dX11_antenna_82 rfl (lv_at hl 1 rfl) ?_
        refine gR X hH fl_X11_52 lM_0 rfl dX11_antenna_83 ?_
        refine lv_bipush (v := 24) hx hb dX11_antenna_86 (by decide) ?_
        refine lv_iconst (v := 2) hx hb dX11_antenna_88 (by decide) ?_
        refine lv_iload_n hx hb dX11_antenna_89 rfl (lv_at hl 2 rfl) ?_
        refine lv_imul hx hb dX11_antenna_90 ?_
        refine lv_iadd hx hb dX11_antenna_91 ?_
        refine lv_iload_n hx hb dX11_antenna_92 rfl (lv_at hl 3 rfl) ?_
        refine lv_iadd hx hb dX11_antenna_93 ?_
        refine lv_iconst (v := 3) hx hb dX11_antenna_94 (by decide) ?_
        refine lv_isub hx hb dX11_antenna_95 ?_
        obtain ⟨hin2, hm⟩ := gIn_some hm
        refine ild X hH lM_15 hin2 dX11_antenna_96 ?_
        refine lv_goto hx hb dX11_antenna_97 (tgt := 113) (by decide) ?_
        cases hm
        exact retI X hH dX11_antenna_113
  · rw [if_neg hc] at hm
    refine lv_aload_n hx hb dX11_antenna_60 rfl (lv_at hl 1 rfl) ?_
    refine gR X hH fl_X11_19 lM_0 rfl dX11_antenna_61 ?_
    refine lv_iconst (v := 3) hx hb dX11_antenna_64 (by decide) ?_
    refine lv_iload_n hx hb dX11_antenna_65 rfl (lv_at hl 2 rfl) ?_
    refine lv_imul hx hb dX11_antenna_66 ?_
    refine lv_iload_n hx hb dX11_antenna_67 rfl (lv_at hl 3 rfl) ?_
    refine lv_iadd hx hb dX11_antenna_68 ?_
    obtain ⟨hin3, hm⟩ := gIn_some hm
    refine ild X hH lM_4 hin3 dX11_antenna_69 ?_
    refine lv_goto hx hb dX11_antenna_70 (tgt := 113) (by decide) ?_
    cases hm
    exact retI X hH dX11_antenna_113
def mX11_antenna (h : Mm) (a1 : Int32) (a2 : Int32) : Option Int32 := bd1 (mX11_isAntenna h a1) (fun v1 => if v1 = 0 then (some (-1 : Int32)) else (bd1 (mX11_in h a2.toInt64 (0 : Int64) (6 : Int64)) (fun v2 => if v2 = 0 then (some (-1 : Int32)) else (gIn ((24 : Int32) + ((2 : Int32) * a1)) 32 (gIn (((24 : Int32) + ((2 : Int32) * a1)) + (1 : Int32)) 32 (if (h 15 (((24 : Int32) + ((2 : Int32) * a1)) + (1 : Int32)).toNatClampNeg) < (h 15 ((24 : Int32) + ((2 : Int32) * a1)).toNatClampNeg) then (mX11_antenna_54 h a1 a2 (0 : Int32)) else (mX11_antenna_54 h a1 a2 (1 : Int32))))))))
set_option maxRecDepth 4000 in
theorem mt_X11_antenna {l : Launch} {D : va_G} {ad : Nat → Nat} {ac : Nat → ClassId} {h : Mm} {a1 : Int32} {a2 : Int32} {r : Int32} (hm : mX11_antenna h a1 a2 = some r) : Mt l D ad ac LM [] yX11_antenna cX11_antenna 4 (some .int) 2 [.ref (ad 0), .int a1, .int a2] h (some (.int r)) h := by
  refine Mt.of (own := RX11) (by decide) rfl (Nat.le_of_ble_eq_true rfl) ?_
  intro p e s m below meth c ls X hH hl
  obtain ⟨hx, hb, hml, hown, hts, hr, hlk, hC, hI, hR⟩ := id X
  have hl : lv_has ls 4 [(0, .ref (ad 0)), (1, .int a1), (2, .int a2)] := hl
  rw [mX11_antenna] at hm
  refine lv_aload_n hx hb dX11_antenna_0 rfl (lv_at hl 0 rfl) ?_
  refine lv_iload_n hx hb dX11_antenna_1 rfl (lv_at hl 1 rfl) ?_
  obtain ⟨v1, hq, hm⟩ := bd1_some hm
  refine cVi X hH kl_X11_144 kv_X11_isAntenna (mt_X11_isAntenna hq) lM_0 rfl rfl (by decide) hl.1 rfl (Nat.le_of_ble_eq_true rfl) dX11_antenna_2 (fun H locs hH => ?_)
  refine lv_if_eq hx hb dX11_antenna_5 (tgt := 20) (by decide) (fun hc => ?_) (fun hc => ?_)
  · rw [if_pos hc] at hm
    refine lv_iconst (v := (-1)) hx hb dX11_antenna_20 (by decide) ?_
    cases hm
    exact retI X hH dX11_antenna_21
  · rw [if_neg hc] at hm
    refine lv_iload_n hx hb dX11_antenna_8 rfl (lv_at hl 2 rfl) ?_
    refine lv_i2l hx hb dX11_antenna_9 rfl ?_
    refine lv_lconst (v := 0) hx hb dX11_antenna_10 (by decide) ?_
    refine lv_ldc2 hx hb hown (hts _ kc_X11_138) dX11_antenna_11 ?_
    obtain ⟨v2, hq, hm⟩ := bd1_some hm
    refine cSi (As := [.long a2.toInt64, .long (0 : Int64), .long (6 : Int64)]) X hH kl_X11_93 ks_X11_in (mt_X11_in hq) rfl (by decide) hl.1 rfl (Nat.le_of_ble_eq_true rfl) dX11_antenna_14 (fun H locs hH => ?_)
    refine lv_if_ne hx hb dX11_antenna_17 (tgt := 22) (by decide) (fun hc => ?_) (fun hc => ?_)
    · rw [if_neg hc] at hm
      refine lv_aload_n hx hb dX11_antenna_22 rfl (lv_at hl 0 rfl) ?_
      refine gR X hH fl_X11_52 lM_0 rfl dX11_antenna_23 ?_
      refine lv_bipush (v := 24) hx hb dX11_antenna_26 (by decide) ?_
      refine lv_iconst (v := 2) hx hb dX11_antenna_28 (by decide) ?_
      refine lv_iload_n hx hb dX11_antenna_29 rfl (lv_at hl 1 rfl) ?_
      refine lv_imul hx hb dX11_antenna_30 ?_
      refine lv_iadd hx hb dX11_antenna_31 ?_
      obtain ⟨hin3, hm⟩ := gIn_some hm
      refine ild X hH lM_15 hin3 dX11_antenna_32 ?_
      refine lv_aload_n hx hb dX11_antenna_33 rfl (lv_at hl 0 rfl) ?_
      refine gR X hH fl_X11_52 lM_0 rfl dX11_antenna_34 ?_
      refine lv_bipush (v := 24) hx hb dX11_antenna_37 (by decide) ?_
      refine lv_iconst (v := 2) hx hb dX11_antenna_39 (by decide) ?_
      refine lv_iload_n hx hb dX11_antenna_40 rfl (lv_at hl 1 rfl) ?_
      refine lv_imul hx hb dX11_antenna_41 ?_
      refine lv_iadd hx hb dX11_antenna_42 ?_
      refine lv_iconst (v := 1) hx hb dX11_antenna_43 (by decide) ?_
      refine lv_iadd hx hb dX11_antenna_44 ?_
      obtain ⟨hin4, hm⟩ := gIn_some hm
      refine ild X hH lM_15 hin4 dX11_antenna_45 ?_
      refine lv_icmp_gt hx hb dX11_antenna_46 (tgt := 53) (by decide) (fun hc => ?_) (fun hc => ?_)
      · rw [if_pos hc] at hm
        refine lv_iconst (v := 0) hx hb dX11_antenna_53 (by decide) ?_
        exact wX11_antenna_54 X a1 a2 (0 : Int32) _ _ _ hm hH (lv_sub hl [0, 1, 2] rfl)
      · rw [if_neg hc] at hm
        refine lv_iconst (v := 1) hx hb dX11_antenna_49 (by decide) ?_
        refine lv_goto hx hb dX11_antenna_50 (tgt := 54) (by decide) ?_
        exact wX11_antenna_54 X a1 a2 (1 : Int32) _ _ _ hm hH (lv_sub hl [0, 1, 2] rfl)
    · rw [if_pos hc] at hm
      refine lv_iconst (v := (-1)) hx hb dX11_antenna_20 (by decide) ?_
      cases hm
      exact retI X hH dX11_antenna_21
