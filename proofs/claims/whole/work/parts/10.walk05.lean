/-! X0_find -/
def mX0_find_128 (k41 : Int32 → Int32 → Mm → Option Mm) (x2 : Int32) (x4 : Int32) (h : Mm) : Option Mm := k41 x2 (x4 + (-1)) h
set_option maxRecDepth 4000 in
theorem wX0_find_128 {p : Program} {l : Launch} {e : Env} {s : State} {m : MethodId} {args : Array Value} {below : List Frame} {meth : Method} {c : Code} {D : va_G} {ad : Nat → Nat} {ac : Nat → ClassId} {h' : Mm} (X : Fx p s m args meth c cX0_find 5 RX0 none D ad ac LC rlC) {k41 : Int32 → Int32 → Mm → Option Mm} (ih41 : ∀ (x2 : Int32) (x4 : Int32) (h : Mm) (H : Heap) (locs : List Loc) (ls : Array Slot), k41 x2 x4 h = some h' → Hp D ad ac LC h s H locs → lv_has ls 5 [(0, .ref (ad 17)), (1, .ref (ad 3)), (2, .int x2), (4, .int x4)] → W p l e (rmD 3) s m args below meth c H locs 0 0 (MQ below (QU D ad ac LC none h' s.heap.size) args s 0 0 (Aa ad LC.length s.heap.size)) (F0 m 41 ls [])) : ∀ (x2 : Int32) (x4 : Int32) (h : Mm) (H : Heap) (locs : List Loc) (ls : Array Slot), mX0_find_128 k41 x2 x4 h = some h' → Hp D ad ac LC h s H locs → lv_has ls 5 [(0, .ref (ad 17)), (1, .ref (ad 3)), (2, .int x2), (4, .int x4)] → W p l e (rmD 3) s m args below meth c H locs 0 0 (MQ below (QU D ad ac LC none h' s.heap.size) args s 0 0 (Aa ad LC.length s.heap.size)) (F0 m 128 ls []) := by
  obtain ⟨hx, hb, hml, hown, hts, hr, hlk, hC, hI, hR⟩ := id X
  intro x2 x4 h H locs ls hm hH hl
  rw [mX0_find_128] at hm
  refine lv_iinc (k := 3) (v := (x4 + (-1))) (lv' := [(4, .int (x4 + (-1))), (0, .ref (ad 17)), (1, .ref (ad 3)), (2, .int x2)]) hx hb dX0_find_128 hl rfl rfl (by decide) rfl (fun ls hl => ?_)
  refine lv_goto hx hb dX0_find_131 (tgt := 41) (by decide) ?_
  exact ih41 x2 (x4 + (-1)) h _ _ _ hm hH (lv_sub hl [1, 2, 3, 0] rfl)
def mX0_find_41 : Nat → Int32 → Int32 → Mm → Option Mm
  | 0, _, _, _ => none
  | n + 1, x2, x4, h => if x4 < 0 then (some h) else (gIn (x4 + (1 : Int32)) 25 (gIn x4 25 (mlet (wr h 18 x4.toNatClampNeg (h 18 (x4 + (1 : Int32)).toNatClampNeg)) (fun h2 => gIn (x4 + (1 : Int32)) 25 (gIn x4 25 (mlet (wr h2 19 x4.toNatClampNeg (h2 19 (x4 + (1 : Int32)).toNatClampNeg)) (fun h5 => gIn (x4 + (1 : Int32)) 25 (gIn x4 25 (mlet (wr h5 20 x4.toNatClampNeg (h5 20 (x4 + (1 : Int32)).toNatClampNeg)) (fun h8 => gIn (x4 + (1 : Int32)) 25 (gIn x4 25 (mlet (wr h8 21 x4.toNatClampNeg (h8 21 (x4 + (1 : Int32)).toNatClampNeg)) (fun h11 => bd1 (mX4_fits h11 x4 x2) (fun v13 => if v13 = 0 then (mX0_find_128 (mX0_find_41 n) x2 x4 h11) else (bdh (mX0_tryHead h11 x2 x4) (fun h14 => mX0_find_128 (mX0_find_41 n) x2 x4 h14))))))))))))))))
set_option maxRecDepth 4000 in
theorem wX0_find_41 {p : Program} {l : Launch} {e : Env} {s : State} {m : MethodId} {args : Array Value} {below : List Frame} {meth : Method} {c : Code} {D : va_G} {ad : Nat → Nat} {ac : Nat → ClassId} {h' : Mm} (X : Fx p s m args meth c cX0_find 5 RX0 none D ad ac LC rlC) : ∀ (n : Nat) (x2 : Int32) (x4 : Int32) (h : Mm) (H : Heap) (locs : List Loc) (ls : Array Slot), mX0_find_41 n x2 x4 h = some h' → Hp D ad ac LC h s H locs → lv_has ls 5 [(0, .ref (ad 17)), (1, .ref (ad 3)), (2, .int x2), (4, .int x4)] → W p l e (rmD 3) s m args below meth c H locs 0 0 (MQ below (QU D ad ac LC none h' s.heap.size) args s 0 0 (Aa ad LC.length s.heap.size)) (F0 m 41 ls []) := by
  obtain ⟨hx, hb, hml, hown, hts, hr, hlk, hC, hI, hR⟩ := id X
  intro n
  induction n with
  | zero => intro x2 x4 h H locs ls hm; rw [mX0_find_41] at hm; cases hm
  | succ n ih =>
    intro x2 x4 h H locs ls hm hH hl
    rw [mX0_find_41] at hm
    refine lv_iload hx hb dX0_find_41 (lv_at hl 3 rfl) ?_
    refine lv_if_lt hx hb dX0_find_43 (tgt := 134) (by decide) (fun hc => ?_) (fun hc => ?_)
    · rw [if_pos hc] at hm
      cases hm
      exact retV X hH dX0_find_134
    · rw [if_neg hc] at hm
      refine lv_aload_n hx hb dX0_find_46 rfl (lv_at hl 0 rfl) ?_
      refine gR X hH fl_X0_9 lC_17 rfl dX0_find_47 ?_
      refine lv_iload hx hb dX0_find_50 (lv_at hl 3 rfl) ?_
      refine lv_aload_n hx hb dX0_find_52 rfl (lv_at hl 0 rfl) ?_
      refine gR X hH fl_X0_9 lC_17 rfl dX0_find_53 ?_
      refine lv_iload hx hb dX0_find_56 (lv_at hl 3 rfl) ?_
      refine lv_iconst (v := 1) hx hb dX0_find_58 (by decide) ?_
      refine lv_iadd hx hb dX0_find_59 ?_
      obtain ⟨hin1, hm⟩ := gIn_some hm
      refine ild X hH lC_18 hin1 dX0_find_60 ?_
      obtain ⟨hin3, hm⟩ := gIn_some hm
      obtain ⟨h2, eh2, hm⟩ := mlet_some hm
      refine ist X hH lC_18 hin3 dX0_find_61 (fun H locs hH => ?_)
      rw [← eh2] at hH
      refine lv_aload_n hx hb dX0_find_62 rfl (lv_at hl 0 rfl) ?_
      refine gR X hH fl_X0_15 lC_17 rfl dX0_find_63 ?_
      refine lv_iload hx hb dX0_find_66 (lv_at hl 3 rfl) ?_
      refine lv_aload_n hx hb dX0_find_68 rfl (lv_at hl 0 rfl) ?_
      refine gR X hH fl_X0_15 lC_17 rfl dX0_find_69 ?_
      refine lv_iload hx hb dX0_find_72 (lv_at hl 3 rfl) ?_
      refine lv_iconst (v := 1) hx hb dX0_find_74 (by decide) ?_
      refine lv_iadd hx hb dX0_find_75 ?_
      obtain ⟨hin4, hm⟩ := gIn_some hm
      refine ild X hH lC_19 hin4 dX0_find_76 ?_
      obtain ⟨hin6, hm⟩ := gIn_some hm
      obtain ⟨h5, eh5, hm⟩ := mlet_some hm
      refine ist X hH lC_19 hin6 dX0_find_77 (fun H locs hH => ?_)
      rw [← eh5] at hH
      refine lv_aload_n hx hb dX0_find_78 rfl (lv_at hl 0 rfl) ?_
      refine gR X hH fl_X0_18 lC_17 rfl dX0_find_79 ?_
      refine lv_iload hx hb dX0_find_82 (lv_at hl 3 rfl) ?_
      refine lv_aload_n hx hb dX0_find_84 rfl (lv_at hl 0 rfl) ?_
      refine gR X hH fl_X0_18 lC_17 rfl dX0_find_85 ?_
      refine lv_iload hx hb dX0_find_88 (lv_at hl 3 rfl) ?_
      refine lv_iconst (v := 1) hx hb dX0_find_90 (by decide) ?_
      refine lv_iadd hx hb dX0_find_91 ?_
      obtain ⟨hin7, hm⟩ := gIn_some hm
      refine ild X hH lC_20 hin7 dX0_find_92 ?_
      obtain ⟨hin9, hm⟩ := gIn_some hm
      obtain ⟨h8, eh8, hm⟩ := mlet_some hm
      refine ist X hH lC_20 hin9 dX0_find_93 (fun H locs hH => ?_)
      rw [← eh8] at hH
      refine lv_aload_n hx hb dX0_find_94 rfl (lv_at hl 0 rfl) ?_
      refine gR X hH fl_X0_21 lC_17 rfl dX0_find_95 ?_
      refine lv_iload hx hb dX0_find_98 (lv_at hl 3 rfl) ?_
      refine lv_aload_n hx hb dX0_find_100 rfl (lv_at hl 0 rfl) ?_
      refine gR X hH fl_X0_21 lC_17 rfl dX0_find_101 ?_
      refine lv_iload hx hb dX0_find_104 (lv_at hl 3 rfl) ?_
      refine lv_iconst (v := 1) hx hb dX0_find_106 (by decide) ?_
      refine lv_iadd hx hb dX0_find_107 ?_
      obtain ⟨hin10, hm⟩ := gIn_some hm
      refine ild X hH lC_21 hin10 dX0_find_108 ?_
      obtain ⟨hin12, hm⟩ := gIn_some hm
      obtain ⟨h11, eh11, hm⟩ := mlet_some hm
      refine ist X hH lC_21 hin12 dX0_find_109 (fun H locs hH => ?_)
      rw [← eh11] at hH
      refine lv_aload_n hx hb dX0_find_110 rfl (lv_at hl 1 rfl) ?_
      refine lv_iload hx hb dX0_find_111 (lv_at hl 3 rfl) ?_
      refine lv_iload_n hx hb dX0_find_113 rfl (lv_at hl 2 rfl) ?_
      obtain ⟨v13, hq, hm⟩ := bd1_some hm
      refine cVi X hH kl_X0_36 kv_X4_fits (mt_X4_fits hq) lC_3 rfl rfl (by decide) hl.1 rfl (Nat.le_of_ble_eq_true rfl) dX0_find_114 (fun H locs hH => ?_)
      refine lv_if_eq hx hb dX0_find_117 (tgt := 128) (by decide) (fun hc => ?_) (fun hc => ?_)
      · rw [if_pos hc] at hm
        exact wX0_find_128 X ih x2 x4 h11 _ _ _ hm hH (lv_sub hl [0, 1, 2, 3] rfl)
      · rw [if_neg hc] at hm
        refine lv_aload_n hx hb dX0_find_120 rfl (lv_at hl 0 rfl) ?_
        refine lv_aload_n hx hb dX0_find_121 rfl (lv_at hl 1 rfl) ?_
        refine lv_iload_n hx hb dX0_find_122 rfl (lv_at hl 2 rfl) ?_
        refine lv_iload hx hb dX0_find_123 (lv_at hl 3 rfl) ?_
        obtain ⟨h14, hq, hm⟩ := bdh_some hm
        refine cVv X hH kl_X0_40 kv_X0_tryHead (mt_X0_tryHead hq) lC_17 rfl rfl (by decide) hl.1 rfl (Nat.le_of_ble_eq_true rfl) dX0_find_125 (fun H locs hH => ?_)
        exact wX0_find_128 X ih x2 x4 h14 _ _ _ hm hH (lv_sub hl [0, 1, 2, 3] rfl)
def mX0_find (h : Mm) (a2 : Int32) : Option Mm := mlet (h 4 6) (fun u1 => gIn u1 25 (mlet (wr h 18 u1.toNatClampNeg (0 : Int32)) (fun h2 => gIn u1 25 (mlet (wr h2 19 u1.toNatClampNeg (0 : Int32)) (fun h4 => gIn u1 25 (mlet (wr h4 20 u1.toNatClampNeg u1) (fun h6 => gIn u1 25 (mlet (wr h6 21 u1.toNatClampNeg u1) (fun h8 => mlet (u1 - (1 : Int32)) (fun u10 => mX0_find_41 FU a2 u10 h8))))))))))
set_option maxRecDepth 4000 in
theorem mt_X0_find {l : Launch} {D : va_G} {ad : Nat → Nat} {ac : Nat → ClassId} {h : Mm} {a2 : Int32} {h' : Mm} (hm : mX0_find h a2 = some h') : Mt l D ad ac LC rlC yX0_find cX0_find 5 none 3 [.ref (ad 17), .ref (ad 3), .int a2] h none h' := by
  refine Mt.of (own := RX0) (by decide) rfl (Nat.le_of_ble_eq_true rfl) ?_
  intro p e s m below meth c ls X hH hl
  obtain ⟨hx, hb, hml, hown, hts, hr, hlk, hC, hI, hR⟩ := id X
  have hl : lv_has ls 5 [(0, .ref (ad 17)), (1, .ref (ad 3)), (2, .int a2)] := hl
  rw [mX0_find] at hm
  refine lv_aload_n hx hb dX0_find_0 rfl (lv_at hl 1 rfl) ?_
  refine gR X hH fl_X0_24 lC_3 rfl dX0_find_1 ?_
  refine gI X hH fl_X0_30 lC_4 rfl dX0_find_4 ?_
  obtain ⟨u1, eu1, hm⟩ := mlet_some hm
  refine W.eq (g2 := F0 m 7 ls (.int u1 :: [])) (by rw [eu1]) ?_
  refine lv_istore_n (lv' := [(3, .int u1), (0, .ref (ad 17)), (1, .ref (ad 3)), (2, .int a2)]) hx hb dX0_find_7 rfl hl (by decide) rfl (fun ls hl => ?_)
  refine lv_aload_n hx hb dX0_find_8 rfl (lv_at hl 1 rfl) ?_
  refine gR X hH fl_X0_9 lC_17 rfl dX0_find_9 ?_
  refine lv_iload_n hx hb dX0_find_12 rfl (lv_at hl 0 rfl) ?_
  refine lv_iconst (v := 0) hx hb dX0_find_13 (by decide) ?_
  obtain ⟨hin3, hm⟩ := gIn_some hm
  obtain ⟨h2, eh2, hm⟩ := mlet_some hm
  refine ist X hH lC_18 hin3 dX0_find_14 (fun H locs hH => ?_)
  rw [← eh2] at hH
  refine lv_aload_n hx hb dX0_find_15 rfl (lv_at hl 1 rfl) ?_
  refine gR X hH fl_X0_15 lC_17 rfl dX0_find_16 ?_
  refine lv_iload_n hx hb dX0_find_19 rfl (lv_at hl 0 rfl) ?_
  refine lv_iconst (v := 0) hx hb dX0_find_20 (by decide) ?_
  obtain ⟨hin5, hm⟩ := gIn_some hm
  obtain ⟨h4, eh4, hm⟩ := mlet_some hm
  refine ist X hH lC_19 hin5 dX0_find_21 (fun H locs hH => ?_)
  rw [← eh4] at hH
  refine lv_aload_n hx hb dX0_find_22 rfl (lv_at hl 1 rfl) ?_
  refine gR X hH fl_X0_18 lC_17 rfl dX0_find_23 ?_
  refine lv_iload_n hx hb dX0_find_26 rfl (lv_at hl 0 rfl) ?_
  refine lv_iload_n hx hb dX0_find_27 rfl (lv_at hl 0 rfl) ?_
  obtain ⟨hin7, hm⟩ := gIn_some hm
  obtain ⟨h6, eh6, hm⟩ := mlet_some hm
  refine ist X hH lC_20 hin7 dX0_find_28 (fun H locs hH => ?_)
  rw [← eh6] at hH
  refine lv_aload_n hx hb dX0_find_29 rfl (lv_at hl 1 rfl) ?_
  refine gR X hH fl_X0_21 lC_17 rfl dX0_find_30 ?_
  refine lv_iload_n hx hb dX0_find_33 rfl (lv_at hl 0 rfl) ?_
  refine lv_iload_n hx hb dX0_find_34 rfl (lv_at hl 0 rfl) ?_
  obtain ⟨hin9, hm⟩ := gIn_some hm
  obtain ⟨h8, eh8, hm⟩ := mlet_some hm
  refine ist X hH lC_21 hin9 dX0_find_35 (fun H locs hH => ?_)
  rw [← eh8] at hH
  refine lv_iload_n hx hb dX0_find_36 rfl (lv_at hl 0 rfl) ?_
  refine lv_iconst (v := 1) hx hb dX0_find_37 (by decide) ?_
  refine lv_isub hx hb dX0_find_38 ?_
  obtain ⟨u10, eu10, hm⟩ := mlet_some hm
  refine W.eq (g2 := F0 m 39 ls (.int u10 :: [])) (by rw [eu10]) ?_
  refine lv_istore (lv' := [(4, .int u10), (3, .int u1), (0, .ref (ad 17)), (1, .ref (ad 3)), (2, .int a2)]) hx hb dX0_find_39 hl (by decide) rfl (fun ls hl => ?_)
  exact wX0_find_41 X FU a2 u10 h8 _ _ _ hm hH (lv_sub hl [2, 3, 4, 0] rfl)
/-! X0_member -/
def mX0_member_21 (h : Mm) : Nat → Int32 → Int32 → Int32 → Option Int32
  | 0, _, _, _ => none
  | n + 1, x1, x2, x3 => if x1 ≤ x3 then (gIn x2 25 (some (h 20 x2.toNatClampNeg))) else (gIn x2 25 (mlet (h 21 x2.toNatClampNeg) (fun u3 => mX0_member_21 h n x1 u3 (x3 + 1))))
set_option maxRecDepth 4000 in
theorem wX0_member_21 {p : Program} {l : Launch} {e : Env} {s : State} {m : MethodId} {args : Array Value} {below : List Frame} {meth : Method} {c : Code} {D : va_G} {ad : Nat → Nat} {ac : Nat → ClassId} {h : Mm} {r : Int32} (X : Fx p s m args meth c cX0_member 4 RX0 (some .int) D ad ac LC rlC) : ∀ (n : Nat) (x1 : Int32) (x2 : Int32) (x3 : Int32) (H : Heap) (locs : List Loc) (ls : Array Slot), mX0_member_21 h n x1 x2 x3 = some r → Hp D ad ac LC h s H locs → lv_has ls 4 [(0, .ref (ad 17)), (1, .int x1), (2, .int x2), (3, .int x3)] → W p l e (rmD 0) s m args below meth c H locs 0 0 (MQ below (QU D ad ac LC (some (.int r)) h s.heap.size) args s 0 0 (Aa ad LC.length s.heap.size)) (F0 m 21 ls []) := by
  obtain ⟨hx, hb, hml, hown, hts, hr, hlk, hC, hI, hR⟩ := id X
  intro n
  induction n with
  | zero => intro x1 x2 x3 H locs ls hm; rw [mX0_member_21] at hm; cases hm
  | succ n ih =>
    intro x1 x2 x3 H locs ls hm hH hl
    rw [mX0_member_21] at hm
    refine lv_iload_n hx hb dX0_member_21 rfl (lv_at hl 3 rfl) ?_
    refine lv_iload_n hx hb dX0_member_22 rfl (lv_at hl 1 rfl) ?_
    refine lv_icmp_ge hx hb dX0_member_23 (tgt := 39) (by decide) (fun hc => ?_) (fun hc => ?_)
    · rw [if_pos hc] at hm
      refine lv_aload_n hx hb dX0_member_39 rfl (lv_at hl 0 rfl) ?_
      refine gR X hH fl_X0_18 lC_17 rfl dX0_member_40 ?_
      refine lv_iload_n hx hb dX0_member_43 rfl (lv_at hl 2 rfl) ?_
      obtain ⟨hin1, hm⟩ := gIn_some hm
      refine ild X hH lC_20 hin1 dX0_member_44 ?_
      cases hm
      exact retI X hH dX0_member_45
    · rw [if_neg hc] at hm
      refine lv_aload_n hx hb dX0_member_26 rfl (lv_at hl 0 rfl) ?_
      refine gR X hH fl_X0_21 lC_17 rfl dX0_member_27 ?_
      refine lv_iload_n hx hb dX0_member_30 rfl (lv_at hl 2 rfl) ?_
      obtain ⟨hin2, hm⟩ := gIn_some hm
      refine ild X hH lC_21 hin2 dX0_member_31 ?_
      obtain ⟨u3, eu3, hm⟩ := mlet_some hm
      refine W.eq (g2 := F0 m 32 ls (.int u3 :: [])) (by rw [eu3]) ?_
      refine lv_istore_n (lv' := [(2, .int u3), (0, .ref (ad 17)), (1, .int x1), (3, .int x3)]) hx hb dX0_member_32 rfl hl (by decide) rfl (fun ls hl => ?_)
      refine lv_iinc (k := 3) (v := (x3 + 1)) (lv' := [(3, .int (x3 + 1)), (2, .int u3), (0, .ref (ad 17)), (1, .int x1)]) hx hb dX0_member_33 hl rfl rfl (by decide) rfl (fun ls hl => ?_)
      refine lv_goto hx hb dX0_member_36 (tgt := 21) (by decide) ?_
      exact ih x1 u3 (x3 + 1) _ _ _ hm hH (lv_sub hl [2, 3, 1, 0] rfl)
def mX0_member (h : Mm) (a1 : Int32) : Option Int32 := if a1 < 0 then (some (-4 : Int32)) else (gIn (0 : Int32) 25 (if a1 < (h 19 (0 : Int32).toNatClampNeg) then (mX0_member_21 h FU a1 (0 : Int32) (0 : Int32)) else (some (-4 : Int32))))
set_option maxRecDepth 4000 in
theorem mt_X0_member {l : Launch} {D : va_G} {ad : Nat → Nat} {ac : Nat → ClassId} {h : Mm} {a1 : Int32} {r : Int32} (hm : mX0_member h a1 = some r) : Mt l D ad ac LC rlC yX0_member cX0_member 4 (some .int) 0 [.ref (ad 17), .int a1] h (some (.int r)) h := by
  refine Mt.of (own := RX0) (by decide) rfl (Nat.le_of_ble_eq_true rfl) ?_
  intro p e s m below meth c ls X hH hl
  obtain ⟨hx, hb, hml, hown, hts, hr, hlk, hC, hI, hR⟩ := id X
  have hl : lv_has ls 4 [(0, .ref (ad 17)), (1, .int a1)] := hl
  rw [mX0_member] at hm
  refine lv_iload_n hx hb dX0_member_0 rfl (lv_at hl 1 rfl) ?_
  refine lv_if_lt hx hb dX0_member_1 (tgt := 14) (by decide) (fun hc => ?_) (fun hc => ?_)
  · rw [if_pos hc] at hm
    refine lv_bipush (v := (-4)) hx hb dX0_member_14 (by decide) ?_
    cases hm
    exact retI X hH dX0_member_16
  · rw [if_neg hc] at hm
    refine lv_iload_n hx hb dX0_member_4 rfl (lv_at hl 1 rfl) ?_
    refine lv_aload_n hx hb dX0_member_5 rfl (lv_at hl 0 rfl) ?_
    refine gR X hH fl_X0_15 lC_17 rfl dX0_member_6 ?_
    refine lv_iconst (v := 0) hx hb dX0_member_9 (by decide) ?_
    obtain ⟨hin1, hm⟩ := gIn_some hm
    refine ild X hH lC_19 hin1 dX0_member_10 ?_
    refine lv_icmp_lt hx hb dX0_member_11 (tgt := 17) (by decide) (fun hc => ?_) (fun hc => ?_)
    · rw [if_pos hc] at hm
      refine lv_iconst (v := 0) hx hb dX0_member_17 (by decide) ?_
      refine lv_istore_n (lv' := [(2, .int (0 : Int32)), (0, .ref (ad 17)), (1, .int a1)]) hx hb dX0_member_18 rfl hl (by decide) rfl (fun ls hl => ?_)
      refine lv_iconst (v := 0) hx hb dX0_member_19 (by decide) ?_
      refine lv_istore_n (lv' := [(3, .int (0 : Int32)), (2, .int (0 : Int32)), (0, .ref (ad 17)), (1, .int a1)]) hx hb dX0_member_20 rfl hl (by decide) rfl (fun ls hl => ?_)
      exact wX0_member_21 X FU a1 (0 : Int32) (0 : Int32) _ _ _ hm hH (lv_sub hl [2, 3, 1, 0] rfl)
    · rw [if_neg hc] at hm
      refine lv_bipush (v := (-4)) hx hb dX0_member_14 (by decide) ?_
      cases hm
      exact retI X hH dX0_member_16
/-! X10_best -/
def mX10_best (h : Mm) (a1 : Int32) (a2 : Int32) : Option (Int32 × Mm) := bd1 (mX2_has_42 h a1) (fun v1 => if v1 = 0 then (some ((-1 : Int32), h)) else (if (-2 : Int32) ≤ a2 then (bdh (mX0_find h a1) (fun h2 => if a2 = (-2 : Int32) then (gIn (0 : Int32) 25 (some ((h2 19 (0 : Int32).toNatClampNeg), h2))) else (if a2 = (-1 : Int32) then (gIn (0 : Int32) 25 (some ((h2 18 (0 : Int32).toNatClampNeg), h2))) else (bd1 (mX0_member h2 a2) (fun v3 => some (v3, h2)))))) else (some ((-1 : Int32), h))))
set_option maxRecDepth 4000 in
theorem mt_X10_best {l : Launch} {D : va_G} {ad : Nat → Nat} {ac : Nat → ClassId} {h : Mm} {a1 : Int32} {a2 : Int32} {r : Int32} {h' : Mm} (hm : mX10_best h a1 a2 = some (r, h')) : Mt l D ad ac LC rlC yX10_best cX10_best 3 (some .int) 4 [.ref (ad 0), .int a1, .int a2] h (some (.int r)) h' := by
  refine Mt.of (own := RX10) (by decide) rfl (Nat.le_of_ble_eq_true rfl) ?_
  intro p e s m below meth c ls X hH hl
  obtain ⟨hx, hb, hml, hown, hts, hr, hlk, hC, hI, hR⟩ := id X
  have hl : lv_has ls 3 [(0, .ref (ad 0)), (1, .int a1), (2, .int a2)] := hl
  rw [mX10_best] at hm
  refine lv_aload_n hx hb dX10_best_0 rfl (lv_at hl 0 rfl) ?_
  refine gR X hH fl_X10_19 lC_0 rfl dX10_best_1 ?_
  refine gR X hH fl_X10_87 lC_3 rfl dX10_best_4 ?_
  refine gR X hH fl_X10_111 lC_30 rfl dX10_best_7 ?_
  refine lv_iload_n hx hb dX10_best_10 rfl (lv_at hl 1 rfl) ?_
  obtain ⟨v1, hq, hm⟩ := bd1_some hm
  refine cVi X hH kl_X10_94 kv_X2_has (mt_X2_has_42 hq) lC_42 rfl rfl (by decide) hl.1 rfl (Nat.le_of_ble_eq_true rfl) dX10_best_11 (fun H locs hH => ?_)
  refine lv_if_eq hx hb dX10_best_14 (tgt := 23) (by decide) (fun hc => ?_) (fun hc => ?_)
  · rw [if_pos hc] at hm
    refine lv_iconst (v := (-1)) hx hb dX10_best_23 (by decide) ?_
    cases hm
    exact retI X hH dX10_best_24
  · rw [if_neg hc] at hm
    refine lv_iload_n hx hb dX10_best_17 rfl (lv_at hl 2 rfl) ?_
    refine lv_bipush (v := (-2)) hx hb dX10_best_18 (by decide) ?_
    refine lv_icmp_ge hx hb dX10_best_20 (tgt := 25) (by decide) (fun hc => ?_) (fun hc => ?_)
    · rw [if_pos hc] at hm
      refine lv_aload_n hx hb dX10_best_25 rfl (lv_at hl 0 rfl) ?_
      refine gR X hH fl_X10_40 lC_0 rfl dX10_best_26 ?_
      refine lv_aload_n hx hb dX10_best_29 rfl (lv_at hl 0 rfl) ?_
      refine gR X hH fl_X10_19 lC_0 rfl dX10_best_30 ?_
      refine lv_iload_n hx hb dX10_best_33 rfl (lv_at hl 1 rfl) ?_
      obtain ⟨h2, hq, hm⟩ := bdh_some hm
      refine cVv X hH kl_X10_211 kv_X0_find (mt_X0_find hq) lC_17 rfl rfl (by decide) hl.1 rfl (Nat.le_of_ble_eq_true rfl) dX10_best_34 (fun H locs hH => ?_)
      refine lv_iload_n hx hb dX10_best_37 rfl (lv_at hl 2 rfl) ?_
      by_cases hc0 : a2 = (-2 : Int32)
      · rw [if_pos hc0] at hm
        refine lv_lookup hx hb dX10_best_38 (by decide) (off := 36) (by rw [hc0]; rfl) (tgt := 74) (by decide) ?_
        refine lv_aload_n hx hb dX10_best_74 rfl (lv_at hl 0 rfl) ?_
        refine gR X hH fl_X10_40 lC_0 rfl dX10_best_75 ?_
        refine gR X hH fl_X10_216 lC_17 rfl dX10_best_78 ?_
        refine lv_iconst (v := 0) hx hb dX10_best_81 (by decide) ?_
        obtain ⟨hin4, hm⟩ := gIn_some hm
        refine ild X hH lC_19 hin4 dX10_best_82 ?_
        cases hm
        exact retI X hH dX10_best_83
      · rw [if_neg hc0] at hm
        by_cases hc1 : a2 = (-1 : Int32)
        · rw [if_pos hc1] at hm
          refine lv_lookup hx hb dX10_best_38 (by decide) (off := 26) (by rw [hc1]; rfl) (tgt := 64) (by decide) ?_
          refine lv_aload_n hx hb dX10_best_64 rfl (lv_at hl 0 rfl) ?_
          refine gR X hH fl_X10_40 lC_0 rfl dX10_best_65 ?_
          refine gR X hH fl_X10_215 lC_17 rfl dX10_best_68 ?_
          refine lv_iconst (v := 0) hx hb dX10_best_71 (by decide) ?_
          obtain ⟨hin5, hm⟩ := gIn_some hm
          refine ild X hH lC_18 hin5 dX10_best_72 ?_
          cases hm
          exact retI X hH dX10_best_73
        · rw [if_neg hc1] at hm
          refine lv_lookup hx hb dX10_best_38 (by decide) (off := 46) (by refine (lv_osw hc0 (by decide)).trans ?_; refine (lv_osw hc1 (by decide)).trans ?_; rfl) (tgt := 84) (by decide) ?_
          refine lv_aload_n hx hb dX10_best_84 rfl (lv_at hl 0 rfl) ?_
          refine gR X hH fl_X10_40 lC_0 rfl dX10_best_85 ?_
          refine lv_iload_n hx hb dX10_best_88 rfl (lv_at hl 2 rfl) ?_
          obtain ⟨v3, hq, hm⟩ := bd1_some hm
          refine cVi X hH kl_X10_218 kv_X0_member (mt_X0_member hq) lC_17 rfl rfl (by decide) hl.1 rfl (Nat.le_of_ble_eq_true rfl) dX10_best_89 (fun H locs hH => ?_)
          cases hm
          exact retI X hH dX10_best_92
    · rw [if_neg hc] at hm
      refine lv_iconst (v := (-1)) hx hb dX10_best_23 (by decide) ?_
      cases hm
      exact retI X hH dX10_best_24
/-! X4_fittingAntennas -/
def mX4_fittingAntennas_33 (h : Mm) (k4 : Int32 → Int32 → Int32 → Option Int32) (x1 : Int32) (x2 : Int32) (x3 : Int32) : Option Int32 := k4 x1 x2 (x3 + 1)
set_option maxRecDepth 4000 in
theorem wX4_fittingAntennas_33 {p : Program} {l : Launch} {e : Env} {s : State} {m : MethodId} {args : Array Value} {below : List Frame} {meth : Method} {c : Code} {D : va_G} {ad : Nat → Nat} {ac : Nat → ClassId} {h : Mm} {r : Int32} (X : Fx p s m args meth c cX4_fittingAntennas 4 RX4 (some .int) D ad ac LC rlC) {k4 : Int32 → Int32 → Int32 → Option Int32} (ih4 : ∀ (x1 : Int32) (x2 : Int32) (x3 : Int32) (H : Heap) (locs : List Loc) (ls : Array Slot), k4 x1 x2 x3 = some r → Hp D ad ac LC h s H locs → lv_has ls 4 [(0, .ref (ad 3)), (1, .int x1), (2, .int x2), (3, .int x3)] → W p l e (rmD 3) s m args below meth c H locs 0 0 (MQ below (QU D ad ac LC (some (.int r)) h s.heap.size) args s 0 0 (Aa ad LC.length s.heap.size)) (F0 m 4 ls [])) : ∀ (x1 : Int32) (x2 : Int32) (x3 : Int32) (H : Heap) (locs : List Loc) (ls : Array Slot), mX4_fittingAntennas_33 h k4 x1 x2 x3 = some r → Hp D ad ac LC h s H locs → lv_has ls 4 [(0, .ref (ad 3)), (1, .int x1), (2, .int x2), (3, .int x3)] → W p l e (rmD 3) s m args below meth c H locs 0 0 (MQ below (QU D ad ac LC (some (.int r)) h s.heap.size) args s 0 0 (Aa ad LC.length s.heap.size)) (F0 m 33 ls []) := by
  obtain ⟨hx, hb, hml, hown, hts, hr, hlk, hC, hI, hR⟩ := id X
  intro x1 x2 x3 H locs ls hm hH hl
  rw [mX4_fittingAntennas_33] at hm
  refine lv_iinc (k := 3) (v := (x3 + 1)) (lv' := [(3, .int (x3 + 1)), (0, .ref (ad 3)), (1, .int x1), (2, .int x2)]) hx hb dX4_fittingAntennas_33 hl rfl rfl (by decide) rfl (fun ls hl => ?_)
  refine lv_goto hx hb dX4_fittingAntennas_36 (tgt := 4) (by decide) ?_
  exact ih4 x1 x2 (x3 + 1) _ _ _ hm hH (lv_sub hl [1, 2, 3, 0] rfl)
def mX4_fittingAntennas_4 (h : Mm) : Nat → Int32 → Int32 → Int32 → Option Int32
  | 0, _, _, _ => none
  | n + 1, x1, x2, x3 => if (h 42 3) ≤ x3 then (some x2) else (bd1 (mX4_fits h x1 x3) (fun v1 => if v1 = 0 then (mX4_fittingAntennas_33 h (mX4_fittingAntennas_4 h n) x1 x2 x3) else (mlet (x2 ||| ((1 : Int32) <<< (x3 &&& 31))) (fun u2 => mX4_fittingAntennas_33 h (mX4_fittingAntennas_4 h n) x1 u2 x3))))
set_option maxRecDepth 4000 in
theorem wX4_fittingAntennas_4 {p : Program} {l : Launch} {e : Env} {s : State} {m : MethodId} {args : Array Value} {below : List Frame} {meth : Method} {c : Code} {D : va_G} {ad : Nat → Nat} {ac : Nat → ClassId} {h : Mm} {r : Int32} (X : Fx p s m args meth c cX4_fittingAntennas 4 RX4 (some .int) D ad ac LC rlC) : ∀ (n : Nat) (x1 : Int32) (x2 : Int32) (x3 : Int32) (H : Heap) (locs : List Loc) (ls : Array Slot), mX4_fittingAntennas_4 h n x1 x2 x3 = some r → Hp D ad ac LC h s H locs → lv_has ls 4 [(0, .ref (ad 3)), (1, .int x1), (2, .int x2), (3, .int x3)] → W p l e (rmD 3) s m args below meth c H locs 0 0 (MQ below (QU D ad ac LC (some (.int r)) h s.heap.size) args s 0 0 (Aa ad LC.length s.heap.size)) (F0 m 4 ls []) := by
  obtain ⟨hx, hb, hml, hown, hts, hr, hlk, hC, hI, hR⟩ := id X
  intro n
  induction n with
  | zero => intro x1 x2 x3 H locs ls hm; rw [mX4_fittingAntennas_4] at hm; cases hm
  | succ n ih =>
    intro x1 x2 x3 H locs ls hm hH hl
    rw [mX4_fittingAntennas_4] at hm
    refine lv_iload_n hx hb dX4_fittingAntennas_4 rfl (lv_at hl 3 rfl) ?_
    refine lv_aload_n hx hb dX4_fittingAntennas_5 rfl (lv_at hl 0 rfl) ?_
    refine gR X hH fl_X4_12 lC_3 rfl dX4_fittingAntennas_6 ?_
    refine gR X hH fl_X4_65 lC_30 rfl dX4_fittingAntennas_9 ?_
    refine gI X hH fl_X4_91 lC_42 rfl dX4_fittingAntennas_12 ?_
    refine lv_icmp_ge hx hb dX4_fittingAntennas_15 (tgt := 39) (by decide) (fun hc => ?_) (fun hc => ?_)
    · rw [if_pos hc] at hm
      refine lv_iload_n hx hb dX4_fittingAntennas_39 rfl (lv_at hl 2 rfl) ?_
      cases hm
      exact retI X hH dX4_fittingAntennas_40
    · rw [if_neg hc] at hm
      refine lv_aload_n hx hb dX4_fittingAntennas_18 rfl (lv_at hl 0 rfl) ?_
      refine lv_iload_n hx hb dX4_fittingAntennas_19 rfl (lv_at hl 1 rfl) ?_
      refine lv_iload_n hx hb dX4_fittingAntennas_20 rfl (lv_at hl 3 rfl) ?_
      obtain ⟨v1, hq, hm⟩ := bd1_some hm
      refine cVi X hH kl_X4_94 kv_X4_fits (mt_X4_fits hq) lC_3 rfl rfl (by decide) hl.1 rfl (Nat.le_of_ble_eq_true rfl) dX4_fittingAntennas_21 (fun H locs hH => ?_)
      refine lv_if_eq hx hb dX4_fittingAntennas_24 (tgt := 33) (by decide) (fun hc => ?_) (fun hc => ?_)
      · rw [if_pos hc] at hm
        exact wX4_fittingAntennas_33 X ih x1 x2 x3 _ _ _ hm hH (lv_sub hl [0, 1, 2, 3] rfl)
      · rw [if_neg hc] at hm
        refine lv_iload_n hx hb dX4_fittingAntennas_27 rfl (lv_at hl 2 rfl) ?_
        refine lv_iconst (v := 1) hx hb dX4_fittingAntennas_28 (by decide) ?_
        refine lv_iload_n hx hb dX4_fittingAntennas_29 rfl (lv_at hl 3 rfl) ?_
        refine lv_ishl hx hb dX4_fittingAntennas_30 ?_
        refine lv_ior hx hb dX4_fittingAntennas_31 ?_
        obtain ⟨u2, eu2, hm⟩ := mlet_some hm
        refine W.eq (g2 := F0 m 32 ls (.int u2 :: [])) (by rw [eu2]) ?_
        refine lv_istore_n (lv' := [(2, .int u2), (0, .ref (ad 3)), (1, .int x1), (3, .int x3)]) hx hb dX4_fittingAntennas_32 rfl hl (by decide) rfl (fun ls hl => ?_)
        exact wX4_fittingAntennas_33 X ih x1 u2 x3 _ _ _ hm hH (lv_sub hl [1, 2, 0, 3] rfl)
def mX4_fittingAntennas (h : Mm) (a1 : Int32) : Option Int32 := mX4_fittingAntennas_4 h FU a1 (0 : Int32) (0 : Int32)
set_option maxRecDepth 4000 in
theorem mt_X4_fittingAntennas {l : Launch} {D : va_G} {ad : Nat → Nat} {ac : Nat → ClassId} {h : Mm} {a1 : Int32} {r : Int32} (hm : mX4_fittingAntennas h a1 = some r) : Mt l D ad ac LC rlC yX4_fittingAntennas cX4_fittingAntennas 4 (some .int) 3 [.ref (ad 3), .int a1] h (some (.int r)) h := by
  refine Mt.of (own := RX4) (by decide) rfl (Nat.le_of_ble_eq_true rfl) ?_
  intro p e s m below meth c ls X hH hl
  obtain ⟨hx, hb, hml, hown, hts, hr, hlk, hC, hI, hR⟩ := id X
  have hl : lv_has ls 4 [(0, .ref (ad 3)), (1, .int a1)] := hl
  rw [mX4_fittingAntennas] at hm
  refine lv_iconst (v := 0) hx hb dX4_fittingAntennas_0 (by decide) ?_
  refine lv_istore_n (lv' := [(2, .int (0 : Int32)), (0, .ref (ad 3)), (1, .int a1)]) hx hb dX4_fittingAntennas_1 rfl hl (by decide) rfl (fun ls hl => ?_)
  refine lv_iconst (v := 0) hx hb dX4_fittingAntennas_2 (by decide) ?_
  refine lv_istore_n (lv' := [(3, .int (0 : Int32)), (2, .int (0 : Int32)), (0, .ref (ad 3)), (1, .int a1)]) hx hb dX4_fittingAntennas_3 rfl hl (by decide) rfl (fun ls hl => ?_)
  exact wX4_fittingAntennas_4 X FU a1 (0 : Int32) (0 : Int32) _ _ _ hm hH (lv_sub hl [2, 3, 1, 0] rfl)
/-! X10_bound -/
def mX10_bound_60 (h : Mm) (k20 : Int32 → Int32 → Int32 → Option Int32) (x1 : Int32) (x2 : Int32) (x3 : Int32) : Option Int32 := k20 x1 x2 (x3 + 1)
set_option maxRecDepth 4000 in
theorem wX10_bound_60 {p : Program} {l : Launch} {e : Env} {s : State} {m : MethodId} {args : Array Value} {below : List Frame} {meth : Method} {c : Code} {D : va_G} {ad : Nat → Nat} {ac : Nat → ClassId} {h : Mm} {r : Int32} (X : Fx p s m args meth c cX10_bound 4 RX10 (some .int) D ad ac LC rlC) {k20 : Int32 → Int32 → Int32 → Option Int32} (ih20 : ∀ (x1 : Int32) (x2 : Int32) (x3 : Int32) (H : Heap) (locs : List Loc) (ls : Array Slot), k20 x1 x2 x3 = some r → Hp D ad ac LC h s H locs → lv_has ls 4 [(0, .ref (ad 0)), (1, .int x1), (2, .int x2), (3, .int x3)] → W p l e (rmD 4) s m args below meth c H locs 0 0 (MQ below (QU D ad ac LC (some (.int r)) h s.heap.size) args s 0 0 (Aa ad LC.length s.heap.size)) (F0 m 20 ls [])) : ∀ (x1 : Int32) (x2 : Int32) (x3 : Int32) (H : Heap) (locs : List Loc) (ls : Array Slot), mX10_bound_60 h k20 x1 x2 x3 = some r → Hp D ad ac LC h s H locs → lv_has ls 4 [(0, .ref (ad 0)), (1, .int x1), (2, .int x2), (3, .int x3)] → W p l e (rmD 4) s m args below meth c H locs 0 0 (MQ below (QU D ad ac LC (some (.int r)) h s.heap.size) args s 0 0 (Aa ad LC.length s.heap.size)) (F0 m 60 ls []) := by
  obtain ⟨hx, hb, hml, hown, hts, hr, hlk, hC, hI, hR⟩ := id X
  intro x1 x2 x3 H locs ls hm hH hl
  rw [mX10_bound_60] at hm
  refine lv_iinc (k := 3) (v := (x3 + 1)) (lv' := [(3, .int (x3 + 1)), (0, .ref (ad 0)), (1, .int x1), (2, .int x2)]) hx hb dX10_bound_60 hl rfl rfl (by decide) rfl (fun ls hl => ?_)
  refine lv_goto hx hb dX10_bound_63 (tgt := 20) (by decide) ?_
  exact ih20 x1 x2 (x3 + 1) _ _ _ hm hH (lv_sub hl [1, 2, 3, 0] rfl)
def mX10_bound_20 (h : Mm) : Nat → Int32 → Int32 → Int32 → Option Int32
  | 0, _, _, _ => none
  | n + 1, x1, x2, x3 => bd1 (mX4_windowSize h x1) (fun v1 => if (x1 + v1) ≤ x3 then (some x2) else (bd1 (mX4_fittingAntennas h x3) (fun v2 => if v2 = 0 then (mX10_bound_60 h (mX10_bound_20 h n) x1 x2 x3) else (gIn x3 24 (mlet (x2 + (h 9 x3.toNatClampNeg)) (fun u4 => mX10_bound_60 h (mX10_bound_20 h n) x1 u4 x3))))))
set_option maxRecDepth 4000 in
theorem wX10_bound_20 {p : Program} {l : Launch} {e : Env} {s : State} {m : MethodId} {args : Array Value} {below : List Frame} {meth : Method} {c : Code} {D : va_G} {ad : Nat → Nat} {ac : Nat → ClassId} {h : Mm} {r : Int32} (X : Fx p s m args meth c cX10_bound 4 RX10 (some .int) D ad ac LC rlC) : ∀ (n : Nat) (x1 : Int32) (x2 : Int32) (x3 : Int32) (H : Heap) (locs : List Loc) (ls : Array Slot), mX10_bound_20 h n x1 x2 x3 = some r → Hp D ad ac LC h s H locs → lv_has ls 4 [(0, .ref (ad 0)), (1, .int x1), (2, .int x2), (3, .int x3)] → W p l e (rmD 4) s m args below meth c H locs 0 0 (MQ below (QU D ad ac LC (some (.int r)) h s.heap.size) args s 0 0 (Aa ad LC.length s.heap.size)) (F0 m 20 ls []) := by
  obtain ⟨hx, hb, hml, hown, hts, hr, hlk, hC, hI, hR⟩ := id X
  intro n
  induction n with
  | zero => intro x1 x2 x3 H locs ls hm; rw [mX10_bound_20] at hm; cases hm
  | succ n ih =>
    intro x1 x2 x3 H locs ls hm hH hl
    rw [mX10_bound_20] at hm
    refine lv_iload_n hx hb dX10_bound_20 rfl (lv_at hl 3 rfl) ?_
    refine lv_iload_n hx hb dX10_bound_21 rfl (lv_at hl 1 rfl) ?_
    refine lv_aload_n hx hb dX10_bound_22 rfl (lv_at hl 0 rfl) ?_
    refine gR X hH fl_X10_19 lC_0 rfl dX10_bound_23 ?_
    refine lv_iload_n hx hb dX10_bound_26 rfl (lv_at hl 1 rfl) ?_
    obtain ⟨v1, hq, hm⟩ := bd1_some hm
    refine cVi X hH kl_X10_224 kv_X4_windowSize (mt_X4_windowSize hq) lC_3 rfl rfl (by decide) hl.1 rfl (Nat.le_of_ble_eq_true rfl) dX10_bound_27 (fun H locs hH => ?_)
    refine lv_iadd hx hb dX10_bound_30 ?_
    refine lv_icmp_ge hx hb dX10_bound_31 (tgt := 66) (by decide) (fun hc => ?_) (fun hc => ?_)
    · rw [if_pos hc] at hm
      refine lv_iload_n hx hb dX10_bound_66 rfl (lv_at hl 2 rfl) ?_
      cases hm
      exact retI X hH dX10_bound_67
    · rw [if_neg hc] at hm
      refine lv_aload_n hx hb dX10_bound_34 rfl (lv_at hl 0 rfl) ?_
      refine gR X hH fl_X10_19 lC_0 rfl dX10_bound_35 ?_
      refine lv_iload_n hx hb dX10_bound_38 rfl (lv_at hl 3 rfl) ?_
      obtain ⟨v2, hq, hm⟩ := bd1_some hm
      refine cVi X hH kl_X10_174 kv_X4_fittingAntennas (mt_X4_fittingAntennas hq) lC_3 rfl rfl (by decide) hl.1 rfl (Nat.le_of_ble_eq_true rfl) dX10_bound_39 (fun H locs hH => ?_)
      refine lv_if_eq hx hb dX10_bound_42 (tgt := 60) (by decide) (fun hc => ?_) (fun hc => ?_)
      · rw [if_pos hc] at hm
        exact wX10_bound_60 X ih x1 x2 x3 _ _ _ hm hH (lv_sub hl [0, 1, 2, 3] rfl)
      · rw [if_neg hc] at hm
        refine lv_iload_n hx hb dX10_bound_45 rfl (lv_at hl 2 rfl) ?_
        refine lv_aload_n hx hb dX10_bound_46 rfl (lv_at hl 0 rfl) ?_
        refine gR X hH fl_X10_19 lC_0 rfl dX10_bound_47 ?_
        refine gR X hH fl_X10_146 lC_3 rfl dX10_bound_50 ?_
        refine gR X hH fl_X10_165 lC_4 rfl dX10_bound_53 ?_
        refine lv_iload_n hx hb dX10_bound_56 rfl (lv_at hl 3 rfl) ?_
        obtain ⟨hin3, hm⟩ := gIn_some hm
        refine ild X hH lC_9 hin3 dX10_bound_57 ?_
        refine lv_iadd hx hb dX10_bound_58 ?_
        obtain ⟨u4, eu4, hm⟩ := mlet_some hm
        refine W.eq (g2 := F0 m 59 ls (.int u4 :: [])) (by rw [eu4]) ?_
        refine lv_istore_n (lv' := [(2, .int u4), (0, .ref (ad 0)), (1, .int x1), (3, .int x3)]) hx hb dX10_bound_59 rfl hl (by decide) rfl (fun ls hl => ?_)
        exact wX10_bound_60 X ih x1 u4 x3 _ _ _ hm hH (lv_sub hl [1, 2, 0, 3] rfl)
def mX10_bound (h : Mm) (a1 : Int32) : Option Int32 := bd1 (mX5_has h a1) (fun v1 => if v1 = 0 then (some (-1 : Int32)) else (mX10_bound_20 h FU a1 (0 : Int32) a1))
set_option maxRecDepth 4000 in
theorem mt_X10_bound {l : Launch} {D : va_G} {ad : Nat → Nat} {ac : Nat → ClassId} {h : Mm} {a1 : Int32} {r : Int32} (hm : mX10_bound h a1 = some r) : Mt l D ad ac LC rlC yX10_bound cX10_bound 4 (some .int) 4 [.ref (ad 0), .int a1] h (some (.int r)) h := by
  refine Mt.of (own := RX10) (by decide) rfl (Nat.le_of_ble_eq_true rfl) ?_
  intro p e s m below meth c ls X hH hl
  obtain ⟨hx, hb, hml, hown, hts, hr, hlk, hC, hI, hR⟩ := id X
  have hl : lv_has ls 4 [(0, .ref (ad 0)), (1, .int a1)] := hl
  rw [mX10_bound] at hm
  refine lv_aload_n hx hb dX10_bound_0 rfl (lv_at hl 0 rfl) ?_
  refine gR X hH fl_X10_19 lC_0 rfl dX10_bound_1 ?_
  refine gR X hH fl_X10_146 lC_3 rfl dX10_bound_4 ?_
  refine lv_iload_n hx hb dX10_bound_7 rfl (lv_at hl 1 rfl) ?_
  obtain ⟨v1, hq, hm⟩ := bd1_some hm
  refine cVi X hH kl_X10_150 kv_X5_has (mt_X5_has hq) lC_4 rfl rfl (by decide) hl.1 rfl (Nat.le_of_ble_eq_true rfl) dX10_bound_8 (fun H locs hH => ?_)
  refine lv_if_ne hx hb dX10_bound_11 (tgt := 16) (by decide) (fun hc => ?_) (fun hc => ?_)
  · rw [if_neg hc] at hm
    refine lv_iconst (v := 0) hx hb dX10_bound_16 (by decide) ?_
    refine lv_istore_n (lv' := [(2, .int (0 : Int32)), (0, .ref (ad 0)), (1, .int a1)]) hx hb dX10_bound_17 rfl hl (by decide) rfl (fun ls hl => ?_)
    refine lv_iload_n hx hb dX10_bound_18 rfl (lv_at hl 2 rfl) ?_
    refine lv_istore_n (lv' := [(3, .int a1), (2, .int (0 : Int32)), (0, .ref (ad 0)), (1, .int a1)]) hx hb dX10_bound_19 rfl hl (by decide) rfl (fun ls hl => ?_)
    exact wX10_bound_20 X FU a1 (0 : Int32) a1 _ _ _ hm hH (lv_sub hl [2, 3, 1, 0] rfl)
  · rw [if_pos hc] at hm
    refine lv_iconst (v := (-1)) hx hb dX10_bound_14 (by decide) ?_
    cases hm
    exact retI X hH dX10_bound_15
/-! X9_gotByAll -/
def mX9_gotByAll_5 : Nat → Int32 → Int32 → Int32 → Mm → Option (Int32 × Mm)
  | 0, _, _, _, _ => none
  | n + 1, x2, x3, x4, h => if (h 31 3) ≤ x4 then (some (x3, h)) else (bdh (mX9_follow h x4 x2 (59 : Int32)) (fun h1 => mlet (x3 + (h1 15 3)) (fun u2 => mX9_gotByAll_5 n x2 u2 (x4 + 1) h1)))
set_option maxRecDepth 4000 in
theorem wX9_gotByAll_5 {p : Program} {l : Launch} {e : Env} {s : State} {m : MethodId} {args : Array Value} {below : List Frame} {meth : Method} {c : Code} {D : va_G} {ad : Nat → Nat} {ac : Nat → ClassId} {r : Int32} {h' : Mm} (X : Fx p s m args meth c cX9_gotByAll 5 RX9 (some .int) D ad ac LC rlC) : ∀ (n : Nat) (x2 : Int32) (x3 : Int32) (x4 : Int32) (h : Mm) (H : Heap) (locs : List Loc) (ls : Array Slot), mX9_gotByAll_5 n x2 x3 x4 h = some (r, h') → Hp D ad ac LC h s H locs → lv_has ls 5 [(0, .ref (ad 15)), (1, .ref (ad 3)), (2, .int x2), (3, .int x3), (4, .int x4)] → W p l e (rmD 4) s m args below meth c H locs 0 0 (MQ below (QU D ad ac LC (some (.int r)) h' s.heap.size) args s 0 0 (Aa ad LC.length s.heap.size)) (F0 m 5 ls []) := by
  obtain ⟨hx, hb, hml, hown, hts, hr, hlk, hC, hI, hR⟩ := id X
  intro n
  induction n with
  | zero => intro x2 x3 x4 h H locs ls hm; rw [mX9_gotByAll_5] at hm; cases hm
  | succ n ih =>
    intro x2 x3 x4 h H locs ls hm hH hl
    rw [mX9_gotByAll_5] at hm
    refine lv_iload hx hb dX9_gotByAll_5 (lv_at hl 4 rfl) ?_
    refine lv_aload_n hx hb dX9_gotByAll_7 rfl (lv_at hl 1 rfl) ?_
    refine gR X hH fl_X9_25 lC_3 rfl dX9_gotByAll_8 ?_
    refine gR X hH fl_X9_29 lC_30 rfl dX9_gotByAll_11 ?_
    refine gI X hH fl_X9_82 lC_31 rfl dX9_gotByAll_14 ?_
    refine lv_icmp_ge hx hb dX9_gotByAll_17 (tgt := 43) (by decide) (fun hc => ?_) (fun hc => ?_)
    · rw [if_pos hc] at hm
      refine lv_iload_n hx hb dX9_gotByAll_43 rfl (lv_at hl 3 rfl) ?_
      cases hm
      exact retI X hH dX9_gotByAll_44
    · rw [if_neg hc] at hm
      refine lv_aload_n hx hb dX9_gotByAll_20 rfl (lv_at hl 0 rfl) ?_
      refine lv_aload_n hx hb dX9_gotByAll_21 rfl (lv_at hl 1 rfl) ?_
      refine lv_iload hx hb dX9_gotByAll_22 (lv_at hl 4 rfl) ?_
      refine lv_iload_n hx hb dX9_gotByAll_24 rfl (lv_at hl 2 rfl) ?_
      refine lv_bipush (v := 59) hx hb dX9_gotByAll_25 (by decide) ?_
      obtain ⟨h1, hq, hm⟩ := bdh_some hm
      refine cVv X hH kl_X9_85 kv_X9_follow (mt_X9_follow hq) lC_15 rfl rfl (by decide) hl.1 rfl (Nat.le_of_ble_eq_true rfl) dX9_gotByAll_27 (fun H locs hH => ?_)
      refine lv_iload_n hx hb dX9_gotByAll_30 rfl (lv_at hl 3 rfl) ?_
      refine lv_aload_n hx hb dX9_gotByAll_31 rfl (lv_at hl 0 rfl) ?_
      refine gI X hH fl_X9_48 lC_15 rfl dX9_gotByAll_32 ?_
      refine lv_iadd hx hb dX9_gotByAll_35 ?_
      obtain ⟨u2, eu2, hm⟩ := mlet_some hm
      refine W.eq (g2 := F0 m 36 ls (.int u2 :: [])) (by rw [eu2]) ?_
      refine lv_istore_n (lv' := [(3, .int u2), (0, .ref (ad 15)), (1, .ref (ad 3)), (2, .int x2), (4, .int x4)]) hx hb dX9_gotByAll_36 rfl hl (by decide) rfl (fun ls hl => ?_)
      refine lv_iinc (k := 4) (v := (x4 + 1)) (lv' := [(4, .int (x4 + 1)), (3, .int u2), (0, .ref (ad 15)), (1, .ref (ad 3)), (2, .int x2)]) hx hb dX9_gotByAll_37 hl rfl rfl (by decide) rfl (fun ls hl => ?_)
      refine lv_goto hx hb dX9_gotByAll_40 (tgt := 5) (by decide) ?_
      exact ih x2 u2 (x4 + 1) h1 _ _ _ hm hH (lv_sub hl [2, 3, 4, 1, 0] rfl)
def mX9_gotByAll (h : Mm) (a2 : Int32) : Option (Int32 × Mm) := mX9_gotByAll_5 FU a2 (0 : Int32) (0 : Int32) h
set_option maxRecDepth 4000 in
theorem mt_X9_gotByAll {l : Launch} {D : va_G} {ad : Nat → Nat} {ac : Nat → ClassId} {h : Mm} {a2 : Int32} {r : Int32} {h' : Mm} (hm : mX9_gotByAll h a2 = some (r, h')) : Mt l D ad ac LC rlC yX9_gotByAll cX9_gotByAll 5 (some .int) 4 [.ref (ad 15), .ref (ad 3), .int a2] h (some (.int r)) h' := by
  refine Mt.of (own := RX9) (by decide) rfl (Nat.le_of_ble_eq_true rfl) ?_
  intro p e s m below meth c ls X hH hl
  obtain ⟨hx, hb, hml, hown, hts, hr, hlk, hC, hI, hR⟩ := id X
  have hl : lv_has ls 5 [(0, .ref (ad 15)), (1, .ref (ad 3)), (2, .int a2)] := hl
  rw [mX9_gotByAll] at hm
  refine lv_iconst (v := 0) hx hb dX9_gotByAll_0 (by decide) ?_
  refine lv_istore_n (lv' := [(3, .int (0 : Int32)), (0, .ref (ad 15)), (1, .ref (ad 3)), (2, .int a2)]) hx hb dX9_gotByAll_1 rfl hl (by decide) rfl (fun ls hl => ?_)
  refine lv_iconst (v := 0) hx hb dX9_gotByAll_2 (by decide) ?_
  refine lv_istore (lv' := [(4, .int (0 : Int32)), (3, .int (0 : Int32)), (0, .ref (ad 15)), (1, .ref (ad 3)), (2, .int a2)]) hx hb dX9_gotByAll_3 hl (by decide) rfl (fun ls hl => ?_)
  exact wX9_gotByAll_5 X FU a2 (0 : Int32) (0 : Int32) h _ _ _ hm hH (lv_sub hl [2, 3, 4, 1, 0] rfl)
/-! X9_lostByAll -/
def mX9_lostByAll_5 : Nat → Int32 → Int32 → Int32 → Mm → Option (Int32 × Mm)
  | 0, _, _, _, _ => none
  | n + 1, x2, x3, x4, h => if (h 31 3) ≤ x4 then (some (x3, h)) else (bdh (mX9_follow h x4 x2 (59 : Int32)) (fun h1 => mlet (x3 + (h1 15 2)) (fun u2 => mX9_lostByAll_5 n x2 u2 (x4 + 1) h1)))
set_option maxRecDepth 4000 in
theorem wX9_lostByAll_5 {p : Program} {l : Launch} {e : Env} {s : State} {m : MethodId} {args : Array Value} {below : List Frame} {meth : Method} {c : Code} {D : va_G} {ad : Nat → Nat} {ac : Nat → ClassId} {r : Int32} {h' : Mm} (X : Fx p s m args meth c cX9_lostByAll 5 RX9 (some .int) D ad ac LC rlC) : ∀ (n : Nat) (x2 : Int32) (x3 : Int32) (x4 : Int32) (h : Mm) (H : Heap) (locs : List Loc) (ls : Array Slot), mX9_lostByAll_5 n x2 x3 x4 h = some (r, h') → Hp D ad ac LC h s H locs → lv_has ls 5 [(0, .ref (ad 15)), (1, .ref (ad 3)), (2, .int x2), (3, .int x3), (4, .int x4)] → W p l e (rmD 4) s m args below meth c H locs 0 0 (MQ below (QU D ad ac LC (some (.int r)) h' s.heap.size) args s 0 0 (Aa ad LC.length s.heap.size)) (F0 m 5 ls []) := by
  obtain ⟨hx, hb, hml, hown, hts, hr, hlk, hC, hI, hR⟩ := id X
  intro n
  induction n with
  | zero => intro x2 x3 x4 h H locs ls hm; rw [mX9_lostByAll_5] at hm; cases hm
  | succ n ih =>
    intro x2 x3 x4 h H locs ls hm hH hl
    rw [mX9_lostByAll_5] at hm
    refine lv_iload hx hb dX9_lostByAll_5 (lv_at hl 4 rfl) ?_
    refine lv_aload_n hx hb dX9_lostByAll_7 rfl (lv_at hl 1 rfl) ?_
    refine gR X hH fl_X9_25 lC_3 rfl dX9_lostByAll_8 ?_
    refine gR X hH fl_X9_29 lC_30 rfl dX9_lostByAll_11 ?_
    refine gI X hH fl_X9_82 lC_31 rfl dX9_lostByAll_14 ?_
    refine lv_icmp_ge hx hb dX9_lostByAll_17 (tgt := 43) (by decide) (fun hc => ?_) (fun hc => ?_)
    · rw [if_pos hc] at hm
      refine lv_iload_n hx hb dX9_lostByAll_43 rfl (lv_at hl 3 rfl) ?_
      cases hm
      exact retI X hH dX9_lostByAll_44
    · rw [if_neg hc] at hm
      refine lv_aload_n hx hb dX9_lostByAll_20 rfl (lv_at hl 0 rfl) ?_
      refine lv_aload_n hx hb dX9_lostByAll_21 rfl (lv_at hl 1 rfl) ?_
      refine lv_iload hx hb dX9_lostByAll_22 (lv_at hl 4 rfl) ?_
      refine lv_iload_n hx hb dX9_lostByAll_24 rfl (lv_at hl 2 rfl) ?_
      refine lv_bipush (v := 59) hx hb dX9_lostByAll_25 (by decide) ?_
      obtain ⟨h1, hq, hm⟩ := bdh_some hm
      refine cVv X hH kl_X9_85 kv_X9_follow (mt_X9_follow hq) lC_15 rfl rfl (by decide) hl.1 rfl (Nat.le_of_ble_eq_true rfl) dX9_lostByAll_27 (fun H locs hH => ?_)
      refine lv_iload_n hx hb dX9_lostByAll_30 rfl (lv_at hl 3 rfl) ?_
      refine lv_aload_n hx hb dX9_lostByAll_31 rfl (lv_at hl 0 rfl) ?_
      refine gI X hH fl_X9_45 lC_15 rfl dX9_lostByAll_32 ?_
      refine lv_iadd hx hb dX9_lostByAll_35 ?_
      obtain ⟨u2, eu2, hm⟩ := mlet_some hm
      refine W.eq (g2 := F0 m 36 ls (.int u2 :: [])) (by rw [eu2]) ?_
      refine lv_istore_n (lv' := [(3, .int u2), (0, .ref (ad 15)), (1, .ref (ad 3)), (2, .int x2), (4, .int x4)]) hx hb dX9_lostByAll_36 rfl hl (by decide) rfl (fun ls hl => ?_)
      refine lv_iinc (k := 4) (v := (x4 + 1)) (lv' := [(4, .int (x4 + 1)), (3, .int u2), (0, .ref (ad 15)), (1, .ref (ad 3)), (2, .int x2)]) hx hb dX9_lostByAll_37 hl rfl rfl (by decide) rfl (fun ls hl => ?_)
      refine lv_goto hx hb dX9_lostByAll_40 (tgt := 5) (by decide) ?_
      exact ih x2 u2 (x4 + 1) h1 _ _ _ hm hH (lv_sub hl [2, 3, 4, 1, 0] rfl)
def mX9_lostByAll (h : Mm) (a2 : Int32) : Option (Int32 × Mm) := mX9_lostByAll_5 FU a2 (0 : Int32) (0 : Int32) h
set_option maxRecDepth 4000 in
theorem mt_X9_lostByAll {l : Launch} {D : va_G} {ad : Nat → Nat} {ac : Nat → ClassId} {h : Mm} {a2 : Int32} {r : Int32} {h' : Mm} (hm : mX9_lostByAll h a2 = some (r, h')) : Mt l D ad ac LC rlC yX9_lostByAll cX9_lostByAll 5 (some .int) 4 [.ref (ad 15), .ref (ad 3), .int a2] h (some (.int r)) h' := by
  refine Mt.of (own := RX9) (by decide) rfl (Nat.le_of_ble_eq_true rfl) ?_
  intro p e s m below meth c ls X hH hl
  obtain ⟨hx, hb, hml, hown, hts, hr, hlk, hC, hI, hR⟩ := id X
  have hl : lv_has ls 5 [(0, .ref (ad 15)), (1, .ref (ad 3)), (2, .int a2)] := hl
  rw [mX9_lostByAll] at hm
  refine lv_iconst (v := 0) hx hb dX9_lostByAll_0 (by decide) ?_
  refine lv_istore_n (lv' := [(3, .int (0 : Int32)), (0, .ref (ad 15)), (1, .ref (ad 3)), (2, .int a2)]) hx hb dX9_lostByAll_1 rfl hl (by decide) rfl (fun ls hl => ?_)
  refine lv_iconst (v := 0) hx hb dX9_lostByAll_2 (by decide) ?_
  refine lv_istore (lv' := [(4, .int (0 : Int32)), (3, .int (0 : Int32)), (0, .ref (ad 15)), (1, .ref (ad 3)), (2, .int a2)]) hx hb dX9_lostByAll_3 hl (by decide) rfl (fun ls hl => ?_)
  exact wX9_lostByAll_5 X FU a2 (0 : Int32) (0 : Int32) h _ _ _ hm hH (lv_sub hl [2, 3, 4, 1, 0] rfl)
/-! X10_count -/
def mX10_count (h : Mm) (a1 : Int32) : Option (Int32 × Mm) := if a1 = (0 : Int32) then (some ((h 31 3), h)) else (if a1 = (1 : Int32) then (some ((h 37 3), h)) else (if a1 = (2 : Int32) then (some ((h 42 3), h)) else (if a1 = (3 : Int32) then (some ((h 4 6), h)) else (if a1 = (4 : Int32) then (bd1 (mX4_contactBits h) (fun v1 => bd1 (mJ6_bitCount_0f7a4 h v1) (fun v2 => some (v2, h)))) else (if a1 = (5 : Int32) then (some ((h 66 2), h)) else (if a1 = (6 : Int32) then (some ((h 1 1), h)) else (if a1 = (7 : Int32) then (bd1 (mX4_contactBits h) (fun v3 => bd2 (mX9_gotByAll h v3) (fun v5 h4 => some (v5, h4)))) else (if a1 = (8 : Int32) then (bd1 (mX4_contactBits h) (fun v6 => bd2 (mX9_lostByAll h v6) (fun v8 h7 => some (v8, h7)))) else (if a1 = (9 : Int32) then (bd1 (mX4_contactBits h) (fun v9 => bd1 (mX4_volumeOf h v9) (fun v10 => some (v10, h)))) else (some ((-1 : Int32), h)))))))))))
set_option maxRecDepth 4000 in
theorem mt_X10_count {l : Launch} {D : va_G} {ad : Nat → Nat} {ac : Nat → ClassId} {h : Mm} {a1 : Int32} {r : Int32} {h' : Mm} (hm : mX10_count h a1 = some (r, h')) : Mt l D ad ac LC rlC yX10_count cX10_count 2 (some .int) 5 [.ref (ad 0), .int a1] h (some (.int r)) h' := by
  refine Mt.of (own := RX10) (by decide) rfl (Nat.le_of_ble_eq_true rfl) ?_
  intro p e s m below meth c ls X hH hl
  obtain ⟨hx, hb, hml, hown, hts, hr, hlk, hC, hI, hR⟩ := id X
  have hl : lv_has ls 2 [(0, .ref (ad 0)), (1, .int a1)] := hl
  rw [mX10_count] at hm
  refine lv_iload_n hx hb dX10_count_0 rfl (lv_at hl 1 rfl) ?_
  by_cases hc0 : a1 = (0 : Int32)
  · rw [if_pos hc0] at hm
    refine lv_tableIn hx hb dX10_count_1 (by rw [hc0]; decide) (by rw [hc0]; decide) (off := 55) (by rw [hc0]; rfl) (tgt := 56) (by decide) ?_
    refine lv_aload_n hx hb dX10_count_56 rfl (lv_at hl 0 rfl) ?_
    refine gR X hH fl_X10_19 lC_0 rfl dX10_count_57 ?_
    refine gR X hH fl_X10_87 lC_3 rfl dX10_count_60 ?_
    refine gR X hH fl_X10_90 lC_30 rfl dX10_count_63 ?_
    refine gI X hH fl_X10_270 lC_31 rfl dX10_count_66 ?_
    cases hm
    exact retI X hH dX10_count_69
  · rw [if_neg hc0] at hm
    by_cases hc1 : a1 = (1 : Int32)
    · rw [if_pos hc1] at hm
      refine lv_tableIn hx hb dX10_count_1 (by rw [hc1]; decide) (by rw [hc1]; decide) (off := 69) (by rw [hc1]; rfl) (tgt := 70) (by decide) ?_
      refine lv_aload_n hx hb dX10_count_70 rfl (lv_at hl 0 rfl) ?_
      refine gR X hH fl_X10_19 lC_0 rfl dX10_count_71 ?_
      refine gR X hH fl_X10_87 lC_3 rfl dX10_count_74 ?_
      refine gR X hH fl_X10_136 lC_30 rfl dX10_count_77 ?_
      refine gI X hH fl_X10_270 lC_37 rfl dX10_count_80 ?_
      cases hm
      exact retI X hH dX10_count_83
    · rw [if_neg hc1] at hm
      by_cases hc2 : a1 = (2 : Int32)
      · rw [if_pos hc2] at hm
        refine lv_tableIn hx hb dX10_count_1 (by rw [hc2]; decide) (by rw [hc2]; decide) (off := 83) (by rw [hc2]; rfl) (tgt := 84) (by decide) ?_
        refine lv_aload_n hx hb dX10_count_84 rfl (lv_at hl 0 rfl) ?_
        refine gR X hH fl_X10_19 lC_0 rfl dX10_count_85 ?_
        refine gR X hH fl_X10_87 lC_3 rfl dX10_count_88 ?_
        refine gR X hH fl_X10_111 lC_30 rfl dX10_count_91 ?_
        refine gI X hH fl_X10_270 lC_42 rfl dX10_count_94 ?_
        cases hm
        exact retI X hH dX10_count_97
      · rw [if_neg hc2] at hm
        by_cases hc3 : a1 = (3 : Int32)
        · rw [if_pos hc3] at hm
          refine lv_tableIn hx hb dX10_count_1 (by rw [hc3]; decide) (by rw [hc3]; decide) (off := 97) (by rw [hc3]; rfl) (tgt := 98) (by decide) ?_
          refine lv_aload_n hx hb dX10_count_98 rfl (lv_at hl 0 rfl) ?_
          refine gR X hH fl_X10_19 lC_0 rfl dX10_count_99 ?_
          refine gR X hH fl_X10_146 lC_3 rfl dX10_count_102 ?_
          refine gI X hH fl_X10_273 lC_4 rfl dX10_count_105 ?_
          cases hm
          exact retI X hH dX10_count_108
        · rw [if_neg hc3] at hm
          by_cases hc4 : a1 = (4 : Int32)
          · rw [if_pos hc4] at hm
            refine lv_tableIn hx hb dX10_count_1 (by rw [hc4]; decide) (by rw [hc4]; decide) (off := 108) (by rw [hc4]; rfl) (tgt := 109) (by decide) ?_
            refine lv_aload_n hx hb dX10_count_109 rfl (lv_at hl 0 rfl) ?_
            refine gR X hH fl_X10_19 lC_0 rfl dX10_count_110 ?_
            obtain ⟨v1, hq, hm⟩ := bd1_some hm
            refine cVi X hH kl_X10_190 kv_X4_contactBits (mt_X4_contactBits hq) lC_3 rfl rfl (by decide) hl.1 rfl (Nat.le_of_ble_eq_true rfl) dX10_count_113 (fun H locs hH => ?_)
            obtain ⟨v2, hq, hm⟩ := bd1_some hm
            refine cSi (As := [.int v1]) X hH kl_X10_193 ks_J6_bitCount_0f7a4 (mt_J6_bitCount_0f7a4 hq) rfl (by decide) hl.1 rfl (Nat.le_of_ble_eq_true rfl) dX10_count_116 (fun H locs hH => ?_)
            cases hm
            exact retI X hH dX10_count_119
          · rw [if_neg hc4] at hm
            by_cases hc5 : a1 = (5 : Int32)
            · rw [if_pos hc5] at hm
              refine lv_tableIn hx hb dX10_count_1 (by rw [hc5]; decide) (by rw [hc5]; decide) (off := 119) (by rw [hc5]; rfl) (tgt := 120) (by decide) ?_
              refine lv_aload_n hx hb dX10_count_120 rfl (lv_at hl 0 rfl) ?_
              refine gR X hH fl_X10_26 lC_0 rfl dX10_count_121 ?_
              refine gI X hH fl_X10_201 lC_66 rfl dX10_count_124 ?_
              cases hm
              exact retI X hH dX10_count_127
            · rw [if_neg hc5] at hm
              by_cases hc6 : a1 = (6 : Int32)
              · rw [if_pos hc6] at hm
                refine lv_tableIn hx hb dX10_count_1 (by rw [hc6]; decide) (by rw [hc6]; decide) (off := 127) (by rw [hc6]; rfl) (tgt := 128) (by decide) ?_
                refine lv_aload_n hx hb dX10_count_128 rfl (lv_at hl 0 rfl) ?_
                refine gR X hH fl_X10_10 lC_0 rfl dX10_count_129 ?_
                refine gI X hH fl_X10_80 lC_1 rfl dX10_count_132 ?_
                cases hm
                exact retI X hH dX10_count_135
              · rw [if_neg hc6] at hm
                by_cases hc7 : a1 = (7 : Int32)
                · rw [if_pos hc7] at hm
                  refine lv_tableIn hx hb dX10_count_1 (by rw [hc7]; decide) (by rw [hc7]; decide) (off := 135) (by rw [hc7]; rfl) (tgt := 136) (by decide) ?_
                  refine lv_aload_n hx hb dX10_count_136 rfl (lv_at hl 0 rfl) ?_
                  refine gR X hH fl_X10_33 lC_0 rfl dX10_count_137 ?_
                  refine lv_aload_n hx hb dX10_count_140 rfl (lv_at hl 0 rfl) ?_
                  refine gR X hH fl_X10_19 lC_0 rfl dX10_count_141 ?_
                  refine lv_aload_n hx hb dX10_count_144 rfl (lv_at hl 0 rfl) ?_
                  refine gR X hH fl_X10_19 lC_0 rfl dX10_count_145 ?_
                  obtain ⟨v3, hq, hm⟩ := bd1_some hm
                  refine cVi X hH kl_X10_190 kv_X4_contactBits (mt_X4_contactBits hq) lC_3 rfl rfl (by decide) hl.1 rfl (Nat.le_of_ble_eq_true rfl) dX10_count_148 (fun H locs hH => ?_)
                  obtain ⟨v5, h4, hq, hm⟩ := bd2_some hm
                  refine cVi X hH kl_X10_276 kv_X9_gotByAll (mt_X9_gotByAll hq) lC_15 rfl rfl (by decide) hl.1 rfl (Nat.le_of_ble_eq_true rfl) dX10_count_151 (fun H locs hH => ?_)
                  cases hm
                  exact retI X hH dX10_count_154
                · rw [if_neg hc7] at hm
                  by_cases hc8 : a1 = (8 : Int32)
                  · rw [if_pos hc8] at hm
                    refine lv_tableIn hx hb dX10_count_1 (by rw [hc8]; decide) (by rw [hc8]; decide) (off := 154) (by rw [hc8]; rfl) (tgt := 155) (by decide) ?_
                    refine lv_aload_n hx hb dX10_count_155 rfl (lv_at hl 0 rfl) ?_
                    refine gR X hH fl_X10_33 lC_0 rfl dX10_count_156 ?_
                    refine lv_aload_n hx hb dX10_count_159 rfl (lv_at hl 0 rfl) ?_
                    refine gR X hH fl_X10_19 lC_0 rfl dX10_count_160 ?_
                    refine lv_aload_n hx hb dX10_count_163 rfl (lv_at hl 0 rfl) ?_
                    refine gR X hH fl_X10_19 lC_0 rfl dX10_count_164 ?_
                    obtain ⟨v6, hq, hm⟩ := bd1_some hm
                    refine cVi X hH kl_X10_190 kv_X4_contactBits (mt_X4_contactBits hq) lC_3 rfl rfl (by decide) hl.1 rfl (Nat.le_of_ble_eq_true rfl) dX10_count_167 (fun H locs hH => ?_)
                    obtain ⟨v8, h7, hq, hm⟩ := bd2_some hm
                    refine cVi X hH kl_X10_238 kv_X9_lostByAll (mt_X9_lostByAll hq) lC_15 rfl rfl (by decide) hl.1 rfl (Nat.le_of_ble_eq_true rfl) dX10_count_170 (fun H locs hH => ?_)
                    cases hm
                    exact retI X hH dX10_count_173
                  · rw [if_neg hc8] at hm
                    by_cases hc9 : a1 = (9 : Int32)
                    · rw [if_pos hc9] at hm
                      refine lv_tableIn hx hb dX10_count_1 (by rw [hc9]; decide) (by rw [hc9]; decide) (off := 173) (by rw [hc9]; rfl) (tgt := 174) (by decide) ?_
                      refine lv_aload_n hx hb dX10_count_174 rfl (lv_at hl 0 rfl) ?_
                      refine gR X hH fl_X10_19 lC_0 rfl dX10_count_175 ?_
                      refine lv_aload_n hx hb dX10_count_178 rfl (lv_at hl 0 rfl) ?_
                      refine gR X hH fl_X10_19 lC_0 rfl dX10_count_179 ?_
                      obtain ⟨v9, hq, hm⟩ := bd1_some hm
                      refine cVi X hH kl_X10_190 kv_X4_contactBits (mt_X4_contactBits hq) lC_3 rfl rfl (by decide) hl.1 rfl (Nat.le_of_ble_eq_true rfl) dX10_count_182 (fun H locs hH => ?_)
                      obtain ⟨v10, hq, hm⟩ := bd1_some hm
                      refine cVi X hH kl_X10_233 kv_X4_volumeOf (mt_X4_volumeOf hq) lC_3 rfl rfl (by decide) hl.1 rfl (Nat.le_of_ble_eq_true rfl) dX10_count_185 (fun H locs hH => ?_)
                      cases hm
                      exact retI X hH dX10_count_188
                    · rw [if_neg hc9] at hm
                      have q0 := lv_neT (a := 0) hc0 (by decide)
                      have q1 := lv_neT (a := 1) hc1 (by decide)
                      have q2 := lv_neT (a := 2) hc2 (by decide)
                      have q3 := lv_neT (a := 3) hc3 (by decide)
                      have q4 := lv_neT (a := 4) hc4 (by decide)
                      have q5 := lv_neT (a := 5) hc5 (by decide)
                      have q6 := lv_neT (a := 6) hc6 (by decide)
                      have q7 := lv_neT (a := 7) hc7 (by decide)
                      have q8 := lv_neT (a := 8) hc8 (by decide)
                      have q9 := lv_neT (a := 9) hc9 (by decide)
                      refine lv_tableOut hx hb dX10_count_1 (by omega) (tgt := 189) (by decide) ?_
                      refine lv_iconst (v := (-1)) hx hb dX10_count_189 (by decide) ?_
                      cases hm
                      exact retI X hH dX10_count_190
