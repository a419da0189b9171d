/-! X7_readItem -/
def mX7_readItem_85c (x6 : Int32) (h : Mm) : Option (Int32 × Mm) := mlet (wr h 60 3 ((h 60 3) + (1 : Int32))) (fun h1 => some (x6, h1))
set_option maxRecDepth 4000 in
theorem wX7_readItem_85c {p : Program} {l : Launch} {e : Env} {s : State} {m : MethodId} {args : Array Value} {below : List Frame} {meth : Method} {c : Code} {D : va_G} {ad : Nat → Nat} {ac : Nat → ClassId} {r : Int32} {h' : Mm} (X : Fx p s m args meth c cX7_readItem 7 RX7 (some .int) D ad ac LC rlC) : ∀ (x6 : Int32) (h : Mm) (H : Heap) (locs : List Loc) (ls : Array Slot), mX7_readItem_85c x6 h = some (r, h') → Hp D ad ac LC h s H locs → lv_has ls 7 [(4, .ref (ad 60)), (6, .int x6)] → W p l e (rmD 3) s m args below meth c H locs 0 0 (MQ below (QU D ad ac LC (some (.int r)) h' s.heap.size) args s 0 0 (Aa ad LC.length s.heap.size)) (F0 m 85 ls []) := by
  obtain ⟨hx, hb, hml, hown, hts, hr, hlk, hC, hI, hR⟩ := id X
  intro x6 h H locs ls hm hH hl
  rw [mX7_readItem_85c] at hm
  refine lv_aload hx hb dX7_readItem_85 (lv_at hl 0 rfl) ?_
  refine lv_dup hx hb dX7_readItem_87 rfl ?_
  refine gI X hH fl_X7_45 lC_60 rfl dX7_readItem_88 ?_
  refine lv_iconst (v := 1) hx hb dX7_readItem_91 (by decide) ?_
  refine lv_iadd hx hb dX7_readItem_92 ?_
  obtain ⟨h1, eh1, hm⟩ := mlet_some hm
  refine pI X hH fl_X7_45 fw_2_3 lC_60 rfl dX7_readItem_93 (fun H locs hH => ?_)
  rw [← eh1] at hH
  refine lv_iload hx hb dX7_readItem_96 (lv_at hl 1 rfl) ?_
  cases hm
  exact retI X hH dX7_readItem_98
def mX7_readItem_85b (x6 : Int32) (h : Mm) : Option (Int32 × Mm) := mlet (wr h 55 3 ((h 55 3) + (1 : Int32))) (fun h1 => some (x6, h1))
set_option maxRecDepth 4000 in
theorem wX7_readItem_85b {p : Program} {l : Launch} {e : Env} {s : State} {m : MethodId} {args : Array Value} {below : List Frame} {meth : Method} {c : Code} {D : va_G} {ad : Nat → Nat} {ac : Nat → ClassId} {r : Int32} {h' : Mm} (X : Fx p s m args meth c cX7_readItem 7 RX7 (some .int) D ad ac LC rlC) : ∀ (x6 : Int32) (h : Mm) (H : Heap) (locs : List Loc) (ls : Array Slot), mX7_readItem_85b x6 h = some (r, h') → Hp D ad ac LC h s H locs → lv_has ls 7 [(4, .ref (ad 55)), (6, .int x6)] → W p l e (rmD 3) s m args below meth c H locs 0 0 (MQ below (QU D ad ac LC (some (.int r)) h' s.heap.size) args s 0 0 (Aa ad LC.length s.heap.size)) (F0 m 85 ls []) := by
  obtain ⟨hx, hb, hml, hown, hts, hr, hlk, hC, hI, hR⟩ := id X
  intro x6 h H locs ls hm hH hl
  rw [mX7_readItem_85b] at hm
  refine lv_aload hx hb dX7_readItem_85 (lv_at hl 0 rfl) ?_
  refine lv_dup hx hb dX7_readItem_87 rfl ?_
  refine gI X hH fl_X7_45 lC_55 rfl dX7_readItem_88 ?_
  refine lv_iconst (v := 1) hx hb dX7_readItem_91 (by decide) ?_
  refine lv_iadd hx hb dX7_readItem_92 ?_
  obtain ⟨h1, eh1, hm⟩ := mlet_some hm
  refine pI X hH fl_X7_45 fw_2_3 lC_55 rfl dX7_readItem_93 (fun H locs hH => ?_)
  rw [← eh1] at hH
  refine lv_iload hx hb dX7_readItem_96 (lv_at hl 1 rfl) ?_
  cases hm
  exact retI X hH dX7_readItem_98
def mX7_readItem_85 (x6 : Int32) (h : Mm) : Option (Int32 × Mm) := mlet (wr h 49 3 ((h 49 3) + (1 : Int32))) (fun h1 => some (x6, h1))
set_option maxRecDepth 4000 in
theorem wX7_readItem_85 {p : Program} {l : Launch} {e : Env} {s : State} {m : MethodId} {args : Array Value} {below : List Frame} {meth : Method} {c : Code} {D : va_G} {ad : Nat → Nat} {ac : Nat → ClassId} {r : Int32} {h' : Mm} (X : Fx p s m args meth c cX7_readItem 7 RX7 (some .int) D ad ac LC rlC) : ∀ (x6 : Int32) (h : Mm) (H : Heap) (locs : List Loc) (ls : Array Slot), mX7_readItem_85 x6 h = some (r, h') → Hp D ad ac LC h s H locs → lv_has ls 7 [(4, .ref (ad 49)), (6, .int x6)] → W p l e (rmD 3) s m args below meth c H locs 0 0 (MQ below (QU D ad ac LC (some (.int r)) h' s.heap.size) args s 0 0 (Aa ad LC.length s.heap.size)) (F0 m 85 ls []) := by
  obtain ⟨hx, hb, hml, hown, hts, hr, hlk, hC, hI, hR⟩ := id X
  intro x6 h H locs ls hm hH hl
  rw [mX7_readItem_85] at hm
  refine lv_aload hx hb dX7_readItem_85 (lv_at hl 0 rfl) ?_
  refine lv_dup hx hb dX7_readItem_87 rfl ?_
  refine gI X hH fl_X7_45 lC_49 rfl dX7_readItem_88 ?_
  refine lv_iconst (v := 1) hx hb dX7_readItem_91 (by decide) ?_
  refine lv_iadd hx hb dX7_readItem_92 ?_
  obtain ⟨h1, eh1, hm⟩ := mlet_some hm
  refine pI X hH fl_X7_45 fw_2_3 lC_49 rfl dX7_readItem_93 (fun H locs hH => ?_)
  rw [← eh1] at hH
  refine lv_iload hx hb dX7_readItem_96 (lv_at hl 1 rfl) ?_
  cases hm
  exact retI X hH dX7_readItem_98
def mX7_readItem (h : Mm) (a2 : Int32) : Option (Int32 × Mm) := bd1 (mX3_letterAt h a2) (fun v1 => if v1 = (115 : Int32) then (bd1 (mX2_isFull_49 h) (fun v2 => if v2 = 0 then (gIn (h 49 3) 4 (bd2 (mX7_readNumbers_1_49_g50 (h 49 3).toNatClampNeg h (a2 + (1 : Int32))) (fun v5 h4 => if v5 = (-4 : Int32) then (some ((-4 : Int32), h4)) else (if v1 = (97 : Int32) then (gIn (0 : Int32) 5 (bd1 (mX2_has_55 h4 (h4 (51 + (h 49 3).toNatClampNeg) (0 : Int32).toNatClampNeg)) (fun v7 => if v7 = 0 then (some ((-4 : Int32), h4)) else (mX7_readItem_85 v5 h4)))) else (mX7_readItem_85 v5 h4))))) else (some ((-4 : Int32), h)))) else (if v1 = (103 : Int32) then (bd1 (mX2_isFull_55 h) (fun v8 => if v8 = 0 then (gIn (h 55 3) 3 (bd2 (mX7_readNumbers_1_55_g56 (h 55 3).toNatClampNeg h (a2 + (1 : Int32))) (fun v11 h10 => if v11 = (-4 : Int32) then (some ((-4 : Int32), h10)) else (if v1 = (97 : Int32) then (gIn (0 : Int32) 2 (bd1 (mX2_has_55 h10 (h10 (57 + (h 55 3).toNatClampNeg) (0 : Int32).toNatClampNeg)) (fun v13 => if v13 = 0 then (some ((-4 : Int32), h10)) else (mX7_readItem_85b v11 h10)))) else (mX7_readItem_85b v11 h10))))) else (some ((-4 : Int32), h)))) else (if v1 = (97 : Int32) then (bd1 (mX2_isFull_60 h) (fun v14 => if v14 = 0 then (gIn (h 60 3) 4 (bd2 (mX7_readNumbers_1_60_g61 (h 60 3).toNatClampNeg h (a2 + (1 : Int32))) (fun v17 h16 => if v17 = (-4 : Int32) then (some ((-4 : Int32), h16)) else (if v1 = (97 : Int32) then (gIn (0 : Int32) 3 (bd1 (mX2_has_55 h16 (h16 (62 + (h 60 3).toNatClampNeg) (0 : Int32).toNatClampNeg)) (fun v19 => if v19 = 0 then (some ((-4 : Int32), h16)) else (mX7_readItem_85c v17 h16)))) else (mX7_readItem_85c v17 h16))))) else (some ((-4 : Int32), h)))) else (some ((-4 : Int32), h)))))
set_option maxRecDepth 4000 in
theorem mt_X7_readItem {l : Launch} {D : va_G} {ad : Nat → Nat} {ac : Nat → ClassId} {h : Mm} {a2 : Int32} {r : Int32} {h' : Mm} (hm : mX7_readItem h a2 = some (r, h')) : Mt l D ad ac LC rlC yX7_readItem cX7_readItem 7 (some .int) 3 [.ref (ad 48), .ref (ad 1), .int a2] h (some (.int r)) h' := by
  refine Mt.of (own := RX7) (by decide) rfl (Nat.le_of_ble_eq_true rfl) ?_
  intro p e s m below meth c ls X hH hl
  obtain ⟨hx, hb, hml, hown, hts, hr, hlk, hC, hI, hR⟩ := id X
  have hl : lv_has ls 7 [(0, .ref (ad 48)), (1, .ref (ad 1)), (2, .int a2)] := hl
  rw [mX7_readItem] at hm
  refine lv_aload_n hx hb dX7_readItem_0 rfl (lv_at hl 1 rfl) ?_
  refine lv_iload_n hx hb dX7_readItem_1 rfl (lv_at hl 2 rfl) ?_
  obtain ⟨v1, hq, hm⟩ := bd1_some hm
  refine cVi X hH kl_X7_58 kv_X3_letterAt (mt_X3_letterAt hq) lC_1 rfl rfl (by decide) hl.1 rfl (Nat.le_of_ble_eq_true rfl) dX7_readItem_2 (fun H locs hH => ?_)
  refine lv_istore_n (lv' := [(3, .int v1), (0, .ref (ad 48)), (1, .ref (ad 1)), (2, .int a2)]) hx hb dX7_readItem_5 rfl hl (by decide) rfl (fun ls hl => ?_)
  refine lv_aload_n hx hb dX7_readItem_6 rfl (lv_at hl 1 rfl) ?_
  refine lv_iload_n hx hb dX7_readItem_7 rfl (lv_at hl 0 rfl) ?_
  by_cases hk0 : v1 = (115 : Int32)
  · rw [if_pos hk0] at hm
    refine cVx (v := .ref (ad 49)) X hH kl_X7_62 kv_X7_itemsOf (itO (c := v1) (by rw [itV, if_pos hk0])) lC_48 rfl rfl (by decide) hl.1 rfl (Nat.le_of_ble_eq_true rfl) dX7_readItem_8 (fun H locs hH => ?_)
    refine lv_astore (lv' := [(4, .ref (ad 49)), (3, .int v1), (0, .ref (ad 48)), (1, .ref (ad 1)), (2, .int a2)]) hx hb dX7_readItem_11 hl (by decide) rfl (fun ls hl => ?_)
    refine lv_aload hx hb dX7_readItem_13 (lv_at hl 0 rfl) ?_
    refine lv_ifnull hx hb dX7_readItem_15 ?_
    refine lv_aload hx hb dX7_readItem_18 (lv_at hl 0 rfl) ?_
    obtain ⟨v2, hq, hm⟩ := bd1_some hm
    refine cVi X hH kl_X7_66 kv_X2_isFull (mt_X2_isFull_49 hq) lC_49 rfl rfl (by decide) hl.1 rfl (Nat.le_of_ble_eq_true rfl) dX7_readItem_20 (fun H locs hH => ?_)
    refine lv_if_eq hx hb dX7_readItem_23 (tgt := 29) (by decide) (fun hc => ?_) (fun hc => ?_)
    · rw [if_pos hc] at hm
      refine lv_aload hx hb dX7_readItem_29 (lv_at hl 0 rfl) ?_
      refine gN (j := 2) X hH ⟨_, rfl, cok2, by decide, rfl, rfl, rfl, rfl⟩ lC_49 (k1 := 50) rfl dX7_readItem_31 ?_
      refine lv_aload hx hb dX7_readItem_34 (lv_at hl 0 rfl) ?_
      refine gI X hH fl_X7_45 lC_49 rfl dX7_readItem_36 ?_
      obtain ⟨hin3, hm⟩ := gIn_some hm
      refine ald X hH lC_50 (Or.inr rfl) (fun q => hin3 (Or.inl q)) (gk_50 hin3) dX7_readItem_39 ?_
      refine lv_astore (lv' := [(5, .ref (ad (51 + (h 49 3).toNatClampNeg))), (4, .ref (ad 49)), (3, .int v1), (0, .ref (ad 48)), (1, .ref (ad 1)), (2, .int a2)]) hx hb dX7_readItem_40 hl (by decide) rfl (fun ls hl => ?_)
      refine lv_aload_n hx hb dX7_readItem_42 rfl (lv_at hl 4 rfl) ?_
      refine lv_iload_n hx hb dX7_readItem_43 rfl (lv_at hl 5 rfl) ?_
      refine lv_iconst (v := 1) hx hb dX7_readItem_44 (by decide) ?_
      refine lv_iadd hx hb dX7_readItem_45 ?_
      refine lv_aload hx hb dX7_readItem_46 (lv_at hl 1 rfl) ?_
      refine lv_aload hx hb dX7_readItem_48 (lv_at hl 0 rfl) ?_
      obtain ⟨v5, h4, hq, hm⟩ := bd2_some hm
      refine cSi (As := [.ref (ad 1), .int (a2 + (1 : Int32)), .ref (ad 49), .ref (ad (51 + (h 49 3).toNatClampNeg))]) X hH kl_X7_74 ks_X7_readNumbers (mt_X7_readNumbers_1_49_g50 (vp_lt hin3) hq) rfl (by decide) hl.1 rfl (Nat.le_of_ble_eq_true rfl) dX7_readItem_50 (fun H locs hH => ?_)
      refine lv_istore (lv' := [(6, .int v5), (5, .ref (ad (51 + (h 49 3).toNatClampNeg))), (4, .ref (ad 49)), (3, .int v1), (0, .ref (ad 48)), (1, .ref (ad 1)), (2, .int a2)]) hx hb dX7_readItem_53 hl (by decide) rfl (fun ls hl => ?_)
      refine lv_iload hx hb dX7_readItem_55 (lv_at hl 0 rfl) ?_
      refine lv_bipush (v := (-4)) hx hb dX7_readItem_57 (by decide) ?_
      refine lv_icmp_eq hx hb dX7_readItem_59 (tgt := 82) (by decide) (fun hc => ?_) (fun hc => ?_)
      · rw [if_pos hc] at hm
        refine lv_bipush (v := (-4)) hx hb dX7_readItem_82 (by decide) ?_
        cases hm
        exact retI X hH dX7_readItem_84
      · rw [if_neg hc] at hm
        refine lv_iload_n hx hb dX7_readItem_62 rfl (lv_at hl 3 rfl) ?_
        refine lv_bipush (v := 97) hx hb dX7_readItem_63 (by decide) ?_
        refine lv_icmp_ne hx hb dX7_readItem_65 (tgt := 85) (by decide) (fun hc => ?_) (fun hc => ?_)
        · rw [if_neg hc] at hm
          exact wX7_readItem_85 X v5 h4 _ _ _ hm hH (lv_sub hl [2, 0] rfl)
        · rw [if_pos hc] at hm
          refine lv_aload_n hx hb dX7_readItem_68 rfl (lv_at hl 4 rfl) ?_
          refine gR X hH fl_X7_33 lC_48 rfl dX7_readItem_69 ?_
          refine lv_aload hx hb dX7_readItem_72 (lv_at hl 1 rfl) ?_
          refine lv_iconst (v := 0) hx hb dX7_readItem_74 (by decide) ?_
          obtain ⟨hin6, hm⟩ := gIn_some hm
          refine ild X hH (gl_50 (vp_lt hin3)) hin6 dX7_readItem_75 ?_
          obtain ⟨v7, hq, hm⟩ := bd1_some hm
          refine cVi X hH kl_X7_78 kv_X2_has (mt_X2_has_55 hq) lC_55 rfl rfl (by decide) hl.1 rfl (Nat.le_of_ble_eq_true rfl) dX7_readItem_76 (fun H locs hH => ?_)
          refine lv_if_ne hx hb dX7_readItem_79 (tgt := 85) (by decide) (fun hc => ?_) (fun hc => ?_)
          · rw [if_neg hc] at hm
            exact wX7_readItem_85 X v5 h4 _ _ _ hm hH (lv_sub hl [2, 0] rfl)
          · rw [if_pos hc] at hm
            refine lv_bipush (v := (-4)) hx hb dX7_readItem_82 (by decide) ?_
            cases hm
            exact retI X hH dX7_readItem_84
    · rw [if_neg hc] at hm
      refine lv_bipush (v := (-4)) hx hb dX7_readItem_26 (by decide) ?_
      cases hm
      exact retI X hH dX7_readItem_28
  · rw [if_neg hk0] at hm
    by_cases hk1 : v1 = (103 : Int32)
    · rw [if_pos hk1] at hm
      refine cVx (v := .ref (ad 55)) X hH kl_X7_62 kv_X7_itemsOf (itO (c := v1) (by rw [itV, if_neg hk0, if_pos hk1])) lC_48 rfl rfl (by decide) hl.1 rfl (Nat.le_of_ble_eq_true rfl) dX7_readItem_8 (fun H locs hH => ?_)
      refine lv_astore (lv' := [(4, .ref (ad 55)), (3, .int v1), (0, .ref (ad 48)), (1, .ref (ad 1)), (2, .int a2)]) hx hb dX7_readItem_11 hl (by decide) rfl (fun ls hl => ?_)
      refine lv_aload hx hb dX7_readItem_13 (lv_at hl 0 rfl) ?_
      refine lv_ifnull hx hb dX7_readItem_15 ?_
      refine lv_aload hx hb dX7_readItem_18 (lv_at hl 0 rfl) ?_
      obtain ⟨v8, hq, hm⟩ := bd1_some hm
      refine cVi X hH kl_X7_66 kv_X2_isFull (mt_X2_isFull_55 hq) lC_55 rfl rfl (by decide) hl.1 rfl (Nat.le_of_ble_eq_true rfl) dX7_readItem_20 (fun H locs hH => ?_)
      refine lv_if_eq hx hb dX7_readItem_23 (tgt := 29) (by decide) (fun hc => ?_) (fun hc => ?_)
      · rw [if_pos hc] at hm
        refine lv_aload hx hb dX7_readItem_29 (lv_at hl 0 rfl) ?_
        refine gN (j := 2) X hH ⟨_, rfl, cok2, by decide, rfl, rfl, rfl, rfl⟩ lC_55 (k1 := 56) rfl dX7_readItem_31 ?_
        refine lv_aload hx hb dX7_readItem_34 (lv_at hl 0 rfl) ?_
        refine gI X hH fl_X7_45 lC_55 rfl dX7_readItem_36 ?_
        obtain ⟨hin9, hm⟩ := gIn_some hm
        refine ald X hH lC_56 (Or.inr rfl) (fun q => hin9 (Or.inl q)) (gk_56 hin9) dX7_readItem_39 ?_
        refine lv_astore (lv' := [(5, .ref (ad (57 + (h 55 3).toNatClampNeg))), (4, .ref (ad 55)), (3, .int v1), (0, .ref (ad 48)), (1, .ref (ad 1)), (2, .int a2)]) hx hb dX7_readItem_40 hl (by decide) rfl (fun ls hl => ?_)
        refine lv_aload_n hx hb dX7_readItem_42 rfl (lv_at hl 4 rfl) ?_
        refine lv_iload_n hx hb dX7_readItem_43 rfl (lv_at hl 5 rfl) ?_
        refine lv_iconst (v := 1) hx hb dX7_readItem_44 (by decide) ?_
        refine lv_iadd hx hb dX7_readItem_45 ?_
        refine lv_aload hx hb dX7_readItem_46 (lv_at hl 1 rfl) ?_
        refine lv_aload hx hb dX7_readItem_48 (lv_at hl 0 rfl) ?_
        obtain ⟨v11, h10, hq, hm⟩ := bd2_some hm
        refine cSi (As := [.ref (ad 1), .int (a2 + (1 : Int32)), .ref (ad 55), .ref (ad (57 + (h 55 3).toNatClampNeg))]) X hH kl_X7_74 ks_X7_readNumbers (mt_X7_readNumbers_1_55_g56 (vp_lt hin9) hq) rfl (by decide) hl.1 rfl (Nat.le_of_ble_eq_true rfl) dX7_readItem_50 (fun H locs hH => ?_)
        refine lv_istore (lv' := [(6, .int v11), (5, .ref (ad (57 + (h 55 3).toNatClampNeg))), (4, .ref (ad 55)), (3, .int v1), (0, .ref (ad 48)), (1, .ref (ad 1)), (2, .int a2)]) hx hb dX7_readItem_53 hl (by decide) rfl (fun ls hl => ?_)
        refine lv_iload hx hb dX7_readItem_55 (lv_at hl 0 rfl) ?_
        refine lv_bipush (v := (-4)) hx hb dX7_readItem_57 (by decide) ?_
        refine lv_icmp_eq hx hb dX7_readItem_59 (tgt := 82) (by decide) (fun hc => ?_) (fun hc => ?_)
        · rw [if_pos hc] at hm
          refine lv_bipush (v := (-4)) hx hb dX7_readItem_82 (by decide) ?_
          cases hm
          exact retI X hH dX7_readItem_84
        · rw [if_neg hc] at hm
          refine lv_iload_n hx hb dX7_readItem_62 rfl (lv_at hl 3 rfl) ?_
          refine lv_bipush (v := 97) hx hb dX7_readItem_63 (by decide) ?_
          refine lv_icmp_ne hx hb dX7_readItem_65 (tgt := 85) (by decide) (fun hc => ?_) (fun hc => ?_)
          · rw [if_neg hc] at hm
            exact wX7_readItem_85b X v11 h10 _ _ _ hm hH (lv_sub hl [2, 0] rfl)
          · rw [if_pos hc] at hm
            refine lv_aload_n hx hb dX7_readItem_68 rfl (lv_at hl 4 rfl) ?_
            refine gR X hH fl_X7_33 lC_48 rfl dX7_readItem_69 ?_
            refine lv_aload hx hb dX7_readItem_72 (lv_at hl 1 rfl) ?_
            refine lv_iconst (v := 0) hx hb dX7_readItem_74 (by decide) ?_
            obtain ⟨hin12, hm⟩ := gIn_some hm
            refine ild X hH (gl_56 (vp_lt hin9)) hin12 dX7_readItem_75 ?_
            obtain ⟨v13, hq, hm⟩ := bd1_some hm
            refine cVi X hH kl_X7_78 kv_X2_has (mt_X2_has_55 hq) lC_55 rfl rfl (by decide) hl.1 rfl (Nat.le_of_ble_eq_true rfl) dX7_readItem_76 (fun H locs hH => ?_)
            refine lv_if_ne hx hb dX7_readItem_79 (tgt := 85) (by decide) (fun hc => ?_) (fun hc => ?_)
            · rw [if_neg hc] at hm
              exact wX7_readItem_85b X v11 h10 _ _ _ hm hH (lv_sub hl [2, 0] rfl)
            · rw [if_pos hc] at hm
              refine lv_bipush (v := (-4)) hx hb dX7_readItem_82 (by decide) ?_
              cases hm
              exact retI X hH dX7_readItem_84
      · rw [if_neg hc] at hm
        refine lv_bipush (v := (-4)) hx hb dX7_readItem_26 (by decide) ?_
        cases hm
        exact retI X hH dX7_readItem_28
    · rw [if_neg hk1] at hm
      by_cases hk2 : v1 = (97 : Int32)
      · rw [if_pos hk2] at hm
        refine cVx (v := .ref (ad 60)) X hH kl_X7_62 kv_X7_itemsOf (itO (c := v1) (by rw [itV, if_neg hk0, if_neg hk1, if_pos hk2])) lC_48 rfl rfl (by decide) hl.1 rfl (Nat.le_of_ble_eq_true rfl) dX7_readItem_8 (fun H locs hH => ?_)
        refine lv_astore (lv' := [(4, .ref (ad 60)), (3, .int v1), (0, .ref (ad 48)), (1, .ref (ad 1)), (2, .int a2)]) hx hb dX7_readItem_11 hl (by decide) rfl (fun ls hl => ?_)
        refine lv_aload hx hb dX7_readItem_13 (lv_at hl 0 rfl) ?_
        refine lv_ifnull hx hb dX7_readItem_15 ?_
        refine lv_aload hx hb dX7_readItem_18 (lv_at hl 0 rfl) ?_
        obtain ⟨v14, hq, hm⟩ := bd1_some hm
        refine cVi X hH kl_X7_66 kv_X2_isFull (mt_X2_isFull_60 hq) lC_60 rfl rfl (by decide) hl.1 rfl (Nat.le_of_ble_eq_true rfl) dX7_readItem_20 (fun H locs hH => ?_)
        refine lv_if_eq hx hb dX7_readItem_23 (tgt := 29) (by decide) (fun hc => ?_) (fun hc => ?_)
        · rw [if_pos hc] at hm
          refine lv_aload hx hb dX7_readItem_29 (lv_at hl 0 rfl) ?_
          refine gN (j := 2) X hH ⟨_, rfl, cok2, by decide, rfl, rfl, rfl, rfl⟩ lC_60 (k1 := 61) rfl dX7_readItem_31 ?_
          refine lv_aload hx hb dX7_readItem_34 (lv_at hl 0 rfl) ?_
          refine gI X hH fl_X7_45 lC_60 rfl dX7_readItem_36 ?_
          obtain ⟨hin15, hm⟩ := gIn_some hm
          refine ald X hH lC_61 (Or.inr rfl) (fun q => hin15 (Or.inl q)) (gk_61 hin15) dX7_readItem_39 ?_
          refine lv_astore (lv' := [(5, .ref (ad (62 + (h 60 3).toNatClampNeg))), (4, .ref (ad 60)), (3, .int v1), (0, .ref (ad 48)), (1, .ref (ad 1)), (2, .int a2)]) hx hb dX7_readItem_40 hl (by decide) rfl (fun ls hl => ?_)
          refine lv_aload_n hx hb dX7_readItem_42 rfl (lv_at hl 4 rfl) ?_
          refine lv_iload_n hx hb dX7_readItem_43 rfl (lv_at hl 5 rfl) ?_
          refine lv_iconst (v := 1) hx hb dX7_readItem_44 (by decide) ?_
          refine lv_iadd hx hb dX7_readItem_45 ?_
          refine lv_aload hx hb dX7_readItem_46 (lv_at hl 1 rfl) ?_
          refine lv_aload hx hb dX7_readItem_48 (lv_at hl 0 rfl) ?_
          obtain ⟨v17, h16, hq, hm⟩ := bd2_some hm
          refine cSi (As := [.ref (ad 1), .int (a2 + (1 : Int32)), .ref (ad 60), .ref (ad (62 + (h 60 3).toNatClampNeg))]) X hH kl_X7_74 ks_X7_readNumbers (mt_X7_readNumbers_1_60_g61 (vp_lt hin15) hq) rfl (by decide) hl.1 rfl (Nat.le_of_ble_eq_true rfl) dX7_readItem_50 (fun H locs hH => ?_)
          refine lv_istore (lv' := [(6, .int v17), (5, .ref (ad (62 + (h 60 3).toNatClampNeg))), (4, .ref (ad 60)), (3, .int v1), (0, .ref (ad 48)), (1, .ref (ad 1)), (2, .int a2)]) hx hb dX7_readItem_53 hl (by decide) rfl (fun ls hl => ?_)
          refine lv_iload hx hb dX7_readItem_55 (lv_at hl 0 rfl) ?_
          refine lv_bipush (v := (-4)) hx hb dX7_readItem_57 (by decide) ?_
          refine lv_icmp_eq hx hb dX7_readItem_59 (tgt := 82) (by decide) (fun hc => ?_) (fun hc => ?_)
          · rw [if_pos hc] at hm
            refine lv_bipush (v := (-4)) hx hb dX7_readItem_82 (by decide) ?_
            cases hm
            exact retI X hH dX7_readItem_84
          · rw [if_neg hc] at hm
            refine lv_iload_n hx hb dX7_readItem_62 rfl (lv_at hl 3 rfl) ?_
            refine lv_bipush (v := 97) hx hb dX7_readItem_63 (by decide) ?_
            refine lv_icmp_ne hx hb dX7_readItem_65 (tgt := 85) (by decide) (fun hc => ?_) (fun hc => ?_)
            · rw [if_neg hc] at hm
              exact wX7_readItem_85c X v17 h16 _ _ _ hm hH (lv_sub hl [2, 0] rfl)
            · rw [if_pos hc] at hm
              refine lv_aload_n hx hb dX7_readItem_68 rfl (lv_at hl 4 rfl) ?_
              refine gR X hH fl_X7_33 lC_48 rfl dX7_readItem_69 ?_
              refine lv_aload hx hb dX7_readItem_72 (lv_at hl 1 rfl) ?_
              refine lv_iconst (v := 0) hx hb dX7_readItem_74 (by decide) ?_
              obtain ⟨hin18, hm⟩ := gIn_some hm
              refine ild X hH (gl_61 (vp_lt hin15)) hin18 dX7_readItem_75 ?_
              obtain ⟨v19, hq, hm⟩ := bd1_some hm
              refine cVi X hH kl_X7_78 kv_X2_has (mt_X2_has_55 hq) lC_55 rfl rfl (by decide) hl.1 rfl (Nat.le_of_ble_eq_true rfl) dX7_readItem_76 (fun H locs hH => ?_)
              refine lv_if_ne hx hb dX7_readItem_79 (tgt := 85) (by decide) (fun hc => ?_) (fun hc => ?_)
              · rw [if_neg hc] at hm
                exact wX7_readItem_85c X v17 h16 _ _ _ hm hH (lv_sub hl [2, 0] rfl)
              · rw [if_pos hc] at hm
                refine lv_bipush (v := (-4)) hx hb dX7_readItem_82 (by decide) ?_
                cases hm
                exact retI X hH dX7_readItem_84
        · rw [if_neg hc] at hm
          refine lv_bipush (v := (-4)) hx hb dX7_readItem_26 (by decide) ?_
          cases hm
          exact retI X hH dX7_readItem_28
      · rw [if_neg hk2] at hm
        refine cVx (v := .null) X hH kl_X7_62 kv_X7_itemsOf (itO (c := v1) (by rw [itV, if_neg hk0, if_neg hk1, if_neg hk2])) lC_48 rfl rfl (by decide) hl.1 rfl (Nat.le_of_ble_eq_true rfl) dX7_readItem_8 (fun H locs hH => ?_)
        refine lv_astoreN (lv' := [(4, .null), (3, .int v1), (0, .ref (ad 48)), (1, .ref (ad 1)), (2, .int a2)]) hx hb dX7_readItem_11 hl (by decide) rfl (fun ls hl => ?_)
        refine lv_aloadN hx hb dX7_readItem_13 (lv_at hl 0 rfl) ?_
        refine lv_ifnullN hx hb dX7_readItem_15 (tgt := 26) (by decide) ?_
        refine lv_bipush (v := (-4)) hx hb dX7_readItem_26 (by decide) ?_
        cases hm
        exact retI X hH dX7_readItem_28
/-! X7_readAll -/
def mX7_readAll_26 : Nat → Int32 → Mm → Option (Int32 × Mm)
  | 0, _, _ => none
  | n + 1, x2, h => if (h 1 1) ≤ x2 then (some ((-4 : Int32), h)) else (bd2 (mX7_readItem h x2) (fun v2 h1 => if x2 < v2 then (mX7_readAll_26 n v2 h1) else (some (x2, h1))))
set_option maxRecDepth 4000 in
theorem wX7_readAll_26 {p : Program} {l : Launch} {e : Env} {s : State} {m : MethodId} {args : Array Value} {below : List Frame} {meth : Method} {c : Code} {D : va_G} {ad : Nat → Nat} {ac : Nat → ClassId} {r : Int32} {h' : Mm} (X : Fx p s m args meth c cX7_readAll 4 RX7 (some .int) D ad ac LC rlC) : ∀ (n : Nat) (x2 : Int32) (h : Mm) (H : Heap) (locs : List Loc) (ls : Array Slot), mX7_readAll_26 n x2 h = some (r, h') → Hp D ad ac LC h s H locs → lv_has ls 4 [(0, .ref (ad 48)), (1, .ref (ad 1)), (2, .int x2)] → W p l e (rmD 4) s m args below meth c H locs 0 0 (MQ below (QU D ad ac LC (some (.int r)) h' s.heap.size) args s 0 0 (Aa ad LC.length s.heap.size)) (F0 m 26 ls []) := by
  obtain ⟨hx, hb, hml, hown, hts, hr, hlk, hC, hI, hR⟩ := id X
  intro n
  induction n with
  | zero => intro x2 h H locs ls hm; rw [mX7_readAll_26] at hm; cases hm
  | succ n ih =>
    intro x2 h H locs ls hm hH hl
    rw [mX7_readAll_26] at hm
    refine lv_iload_n hx hb dX7_readAll_26 rfl (lv_at hl 2 rfl) ?_
    refine lv_aload_n hx hb dX7_readAll_27 rfl (lv_at hl 1 rfl) ?_
    refine gI X hH fl_X7_49 lC_1 rfl dX7_readAll_28 ?_
    refine lv_icmp_ge hx hb dX7_readAll_31 (tgt := 53) (by decide) (fun hc => ?_) (fun hc => ?_)
    · rw [if_pos hc] at hm
      refine lv_bipush (v := (-4)) hx hb dX7_readAll_53 (by decide) ?_
      cases hm
      exact retI X hH dX7_readAll_55
    · rw [if_neg hc] at hm
      refine lv_aload_n hx hb dX7_readAll_34 rfl (lv_at hl 0 rfl) ?_
      refine lv_aload_n hx hb dX7_readAll_35 rfl (lv_at hl 1 rfl) ?_
      refine lv_iload_n hx hb dX7_readAll_36 rfl (lv_at hl 2 rfl) ?_
      obtain ⟨v2, h1, hq, hm⟩ := bd2_some hm
      refine cVi X hH kl_X7_54 kv_X7_readItem (mt_X7_readItem hq) lC_48 rfl rfl (by decide) hl.1 rfl (Nat.le_of_ble_eq_true rfl) dX7_readAll_37 (fun H locs hH => ?_)
      refine lv_istore_n (lv' := [(3, .int v2), (0, .ref (ad 48)), (1, .ref (ad 1)), (2, .int x2)]) hx hb dX7_readAll_40 rfl hl (by decide) rfl (fun ls hl => ?_)
      refine lv_iload_n hx hb dX7_readAll_41 rfl (lv_at hl 0 rfl) ?_
      refine lv_iload_n hx hb dX7_readAll_42 rfl (lv_at hl 3 rfl) ?_
      refine lv_icmp_gt hx hb dX7_readAll_43 (tgt := 48) (by decide) (fun hc => ?_) (fun hc => ?_)
      · rw [if_pos hc] at hm
        refine lv_iload_n hx hb dX7_readAll_48 rfl (lv_at hl 0 rfl) ?_
        refine lv_istore_n (lv' := [(2, .int v2), (3, .int v2), (0, .ref (ad 48)), (1, .ref (ad 1))]) hx hb dX7_readAll_49 rfl hl (by decide) rfl (fun ls hl => ?_)
        refine lv_goto hx hb dX7_readAll_50 (tgt := 26) (by decide) ?_
        exact ih v2 h1 _ _ _ hm hH (lv_sub hl [2, 3, 0] rfl)
      · rw [if_neg hc] at hm
        refine lv_iload_n hx hb dX7_readAll_46 rfl (lv_at hl 3 rfl) ?_
        cases hm
        exact retI X hH dX7_readAll_47
def mX7_readAll (h : Mm) : Option (Int32 × Mm) := mlet (wr h 49 3 (0 : Int32)) (fun h1 => mlet (wr h1 55 3 (0 : Int32)) (fun h2 => mlet (wr h2 60 3 (0 : Int32)) (fun h3 => mX7_readAll_26 FU (0 : Int32) h3)))
set_option maxRecDepth 4000 in
theorem mt_X7_readAll {l : Launch} {D : va_G} {ad : Nat → Nat} {ac : Nat → ClassId} {h : Mm} {r : Int32} {h' : Mm} (hm : mX7_readAll h = some (r, h')) : Mt l D ad ac LC rlC yX7_readAll cX7_readAll 4 (some .int) 4 [.ref (ad 48), .ref (ad 1)] h (some (.int r)) h' := by
  refine Mt.of (own := RX7) (by decide) rfl (Nat.le_of_ble_eq_true rfl) ?_
  intro p e s m below meth c ls X hH hl
  obtain ⟨hx, hb, hml, hown, hts, hr, hlk, hC, hI, hR⟩ := id X
  have hl : lv_has ls 4 [(0, .ref (ad 48)), (1, .ref (ad 1))] := hl
  rw [mX7_readAll] at hm
  refine lv_aload_n hx hb dX7_readAll_0 rfl (lv_at hl 0 rfl) ?_
  refine gR X hH fl_X7_21 lC_48 rfl dX7_readAll_1 ?_
  refine lv_iconst (v := 0) hx hb dX7_readAll_4 (by decide) ?_
  obtain ⟨h1, eh1, hm⟩ := mlet_some hm
  refine pI X hH fl_X7_45 fw_2_3 lC_49 rfl dX7_readAll_5 (fun H locs hH => ?_)
  rw [← eh1] at hH
  refine lv_aload_n hx hb dX7_readAll_8 rfl (lv_at hl 0 rfl) ?_
  refine gR X hH fl_X7_33 lC_48 rfl dX7_readAll_9 ?_
  refine lv_iconst (v := 0) hx hb dX7_readAll_12 (by decide) ?_
  obtain ⟨h2, eh2, hm⟩ := mlet_some hm
  refine pI X hH fl_X7_45 fw_2_3 lC_55 rfl dX7_readAll_13 (fun H locs hH => ?_)
  rw [← eh2] at hH
  refine lv_aload_n hx hb dX7_readAll_16 rfl (lv_at hl 0 rfl) ?_
  refine gR X hH fl_X7_42 lC_48 rfl dX7_readAll_17 ?_
  refine lv_iconst (v := 0) hx hb dX7_readAll_20 (by decide) ?_
  obtain ⟨h3, eh3, hm⟩ := mlet_some hm
  refine pI X hH fl_X7_45 fw_2_3 lC_60 rfl dX7_readAll_21 (fun H locs hH => ?_)
  rw [← eh3] at hH
  refine lv_iconst (v := 0) hx hb dX7_readAll_24 (by decide) ?_
  refine lv_istore_n (lv' := [(2, .int (0 : Int32)), (0, .ref (ad 48)), (1, .ref (ad 1))]) hx hb dX7_readAll_25 rfl hl (by decide) rfl (fun ls hl => ?_)
  exact wX7_readAll_26 X FU (0 : Int32) h3 _ _ _ hm hH (lv_sub hl [1, 2, 0] rfl)
/-! X10_fault -/
def mX10_fault (h : Mm) : Option (Int32 × Mm) := bd2 (mX7_readAll h) (fun v2 h1 => some (v2, h1))
set_option maxRecDepth 4000 in
theorem mt_X10_fault {l : Launch} {D : va_G} {ad : Nat → Nat} {ac : Nat → ClassId} {h : Mm} {r : Int32} {h' : Mm} (hm : mX10_fault h = some (r, h')) : Mt l D ad ac LC rlC yX10_fault cX10_fault 1 (some .int) 5 [.ref (ad 0)] h (some (.int r)) h' := by
  refine Mt.of (own := RX10) (by decide) rfl (Nat.le_of_ble_eq_true rfl) ?_
  intro p e s m below meth c ls X hH hl
  obtain ⟨hx, hb, hml, hown, hts, hr, hlk, hC, hI, hR⟩ := id X
  have hl : lv_has ls 1 [(0, .ref (ad 0))] := hl
  rw [mX10_fault] at hm
  refine lv_aload_n hx hb dX10_fault_0 rfl (lv_at hl 0 rfl) ?_
  refine gR X hH fl_X10_54 lC_0 rfl dX10_fault_1 ?_
  refine lv_aload_n hx hb dX10_fault_4 rfl (lv_at hl 0 rfl) ?_
  refine gR X hH fl_X10_10 lC_0 rfl dX10_fault_5 ?_
  obtain ⟨v2, h1, hq, hm⟩ := bd2_some hm
  refine cVi X hH kl_X10_83 kv_X7_readAll (mt_X7_readAll hq) lC_48 rfl rfl (by decide) hl.1 rfl (Nat.le_of_ble_eq_true rfl) dX10_fault_8 (fun H locs hH => ?_)
  cases hm
  exact retI X hH dX10_fault_11
/-! X4_whyNot -/
def mX4_whyNot (h : Mm) (a1 : Int32) (a2 : Int32) : Option Int32 := gIn a1 24 (if (h 12 a1.toNatClampNeg) = (-1 : Int32) then (bd1 (mX4_fits h a1 a2) (fun v2 => if v2 = 0 then (some (2 : Int32)) else (bd1 (mX4_contactBits h) (fun v3 => bd1 (mX4_clashWith h v3 a1 a2) (fun v4 => some v4))))) else (some (1 : Int32)))
set_option maxRecDepth 4000 in
theorem mt_X4_whyNot {l : Launch} {D : va_G} {ad : Nat → Nat} {ac : Nat → ClassId} {h : Mm} {a1 : Int32} {a2 : Int32} {r : Int32} (hm : mX4_whyNot h a1 a2 = some r) : Mt l D ad ac LC rlC yX4_whyNot cX4_whyNot 3 (some .int) 4 [.ref (ad 3), .int a1, .int a2] h (some (.int r)) h := by
  refine Mt.of (own := RX4) (by decide) rfl (Nat.le_of_ble_eq_true rfl) ?_
  intro p e s m below meth c ls X hH hl
  obtain ⟨hx, hb, hml, hown, hts, hr, hlk, hC, hI, hR⟩ := id X
  have hl : lv_has ls 3 [(0, .ref (ad 3)), (1, .int a1), (2, .int a2)] := hl
  rw [mX4_whyNot] at hm
  refine lv_aload_n hx hb dX4_whyNot_0 rfl (lv_at hl 0 rfl) ?_
  refine gR X hH fl_X4_28 lC_3 rfl dX4_whyNot_1 ?_
  refine gR X hH fl_X4_49 lC_11 rfl dX4_whyNot_4 ?_
  refine lv_iload_n hx hb dX4_whyNot_7 rfl (lv_at hl 1 rfl) ?_
  obtain ⟨hin1, hm⟩ := gIn_some hm
  refine ild X hH lC_12 hin1 dX4_whyNot_8 ?_
  refine lv_iconst (v := (-1)) hx hb dX4_whyNot_9 (by decide) ?_
  refine lv_icmp_eq hx hb dX4_whyNot_10 (tgt := 15) (by decide) (fun hc => ?_) (fun hc => ?_)
  · rw [if_pos hc] at hm
    refine lv_aload_n hx hb dX4_whyNot_15 rfl (lv_at hl 0 rfl) ?_
    refine lv_iload_n hx hb dX4_whyNot_16 rfl (lv_at hl 1 rfl) ?_
    refine lv_iload_n hx hb dX4_whyNot_17 rfl (lv_at hl 2 rfl) ?_
    obtain ⟨v2, hq, hm⟩ := bd1_some hm
    refine cVi X hH kl_X4_94 kv_X4_fits (mt_X4_fits hq) lC_3 rfl rfl (by decide) hl.1 rfl (Nat.le_of_ble_eq_true rfl) dX4_whyNot_18 (fun H locs hH => ?_)
    refine lv_if_eq hx hb dX4_whyNot_21 (tgt := 37) (by decide) (fun hc => ?_) (fun hc => ?_)
    · rw [if_pos hc] at hm
      refine lv_iconst (v := 2) hx hb dX4_whyNot_37 (by decide) ?_
      cases hm
      exact retI X hH dX4_whyNot_38
    · rw [if_neg hc] at hm
      refine lv_aload_n hx hb dX4_whyNot_24 rfl (lv_at hl 0 rfl) ?_
      refine lv_aload_n hx hb dX4_whyNot_25 rfl (lv_at hl 0 rfl) ?_
      obtain ⟨v3, hq, hm⟩ := bd1_some hm
      refine cVi X hH kl_X4_107 kv_X4_contactBits (mt_X4_contactBits hq) lC_3 rfl rfl (by decide) hl.1 rfl (Nat.le_of_ble_eq_true rfl) dX4_whyNot_26 (fun H locs hH => ?_)
      refine lv_iload_n hx hb dX4_whyNot_29 rfl (lv_at hl 1 rfl) ?_
      refine lv_iload_n hx hb dX4_whyNot_30 rfl (lv_at hl 2 rfl) ?_
      obtain ⟨v4, hq, hm⟩ := bd1_some hm
      refine cVi X hH kl_X4_111 kv_X4_clashWith (mt_X4_clashWith hq) lC_3 rfl rfl (by decide) hl.1 rfl (Nat.le_of_ble_eq_true rfl) dX4_whyNot_31 (fun H locs hH => ?_)
      refine lv_goto hx hb dX4_whyNot_34 (tgt := 38) (by decide) ?_
      cases hm
      exact retI X hH dX4_whyNot_38
  · rw [if_neg hc] at hm
    refine lv_iconst (v := 1) hx hb dX4_whyNot_13 (by decide) ?_
    cases hm
    exact retI X hH dX4_whyNot_14
/-! X10_give -/
def mX10_give (h : Mm) (a1 : Int32) (a2 : Int32) : Option (Int32 × Mm) := bd1 (mX5_has h a1) (fun v1 => if v1 = 0 then (some ((-1 : Int32), h)) else (bd1 (mX2_has_42 h a2) (fun v2 => if v2 = 0 then (some ((-1 : Int32), h)) else (bd1 (mX4_whyNot h a1 a2) (fun v3 => if v3 = 0 then (bdh (mX10_prepareChange h) (fun h4 => gIn a1 24 (mlet (wr h4 12 a1.toNatClampNeg a2) (fun h5 => bd1 (mX4_contactBits h5) (fun v7 => bd1 (mJ6_bitCount_0f7a4 h5 v7) (fun v8 => some (v8, h5))))))) else (some ((-2 : Int32), h)))))))
set_option maxRecDepth 4000 in
theorem mt_X10_give {l : Launch} {D : va_G} {ad : Nat → Nat} {ac : Nat → ClassId} {h : Mm} {a1 : Int32} {a2 : Int32} {r : Int32} {h' : Mm} (hm : mX10_give h a1 a2 = some (r, h')) : Mt l D ad ac LC rlC yX10_give cX10_give 3 (some .int) 5 [.ref (ad 0), .int a1, .int a2] h (some (.int r)) h' := by
  refine Mt.of (own := RX10) (by decide) rfl (Nat.le_of_ble_eq_true rfl) ?_
  intro p e s m below meth c ls X hH hl
  obtain ⟨hx, hb, hml, hown, hts, hr, hlk, hC, hI, hR⟩ := id X
  have hl : lv_has ls 3 [(0, .ref (ad 0)), (1, .int a1), (2, .int a2)] := hl
  rw [mX10_give] at hm
  refine lv_aload_n hx hb dX10_give_0 rfl (lv_at hl 0 rfl) ?_
  refine gR X hH fl_X10_19 lC_0 rfl dX10_give_1 ?_
  refine gR X hH fl_X10_146 lC_3 rfl dX10_give_4 ?_
  refine lv_iload_n hx hb dX10_give_7 rfl (lv_at hl 1 rfl) ?_
  obtain ⟨v1, hq, hm⟩ := bd1_some hm
  refine cVi X hH kl_X10_150 kv_X5_has (mt_X5_has hq) lC_4 rfl rfl (by decide) hl.1 rfl (Nat.le_of_ble_eq_true rfl) dX10_give_8 (fun H locs hH => ?_)
  refine lv_if_eq hx hb dX10_give_11 (tgt := 31) (by decide) (fun hc => ?_) (fun hc => ?_)
  · rw [if_pos hc] at hm
    refine lv_iconst (v := (-1)) hx hb dX10_give_31 (by decide) ?_
    cases hm
    exact retI X hH dX10_give_32
  · rw [if_neg hc] at hm
    refine lv_aload_n hx hb dX10_give_14 rfl (lv_at hl 0 rfl) ?_
    refine gR X hH fl_X10_19 lC_0 rfl dX10_give_15 ?_
    refine gR X hH fl_X10_87 lC_3 rfl dX10_give_18 ?_
    refine gR X hH fl_X10_111 lC_30 rfl dX10_give_21 ?_
    refine lv_iload_n hx hb dX10_give_24 rfl (lv_at hl 2 rfl) ?_
    obtain ⟨v2, hq, hm⟩ := bd1_some hm
    refine cVi X hH kl_X10_94 kv_X2_has (mt_X2_has_42 hq) lC_42 rfl rfl (by decide) hl.1 rfl (Nat.le_of_ble_eq_true rfl) dX10_give_25 (fun H locs hH => ?_)
    refine lv_if_ne hx hb dX10_give_28 (tgt := 33) (by decide) (fun hc => ?_) (fun hc => ?_)
    · rw [if_neg hc] at hm
      refine lv_aload_n hx hb dX10_give_33 rfl (lv_at hl 0 rfl) ?_
      refine gR X hH fl_X10_19 lC_0 rfl dX10_give_34 ?_
      refine lv_iload_n hx hb dX10_give_37 rfl (lv_at hl 1 rfl) ?_
      refine lv_iload_n hx hb dX10_give_38 rfl (lv_at hl 2 rfl) ?_
      obtain ⟨v3, hq, hm⟩ := bd1_some hm
      refine cVi X hH kl_X10_184 kv_X4_whyNot (mt_X4_whyNot hq) lC_3 rfl rfl (by decide) hl.1 rfl (Nat.le_of_ble_eq_true rfl) dX10_give_39 (fun H locs hH => ?_)
      refine lv_if_eq hx hb dX10_give_42 (tgt := 48) (by decide) (fun hc => ?_) (fun hc => ?_)
      · rw [if_pos hc] at hm
        refine lv_aload_n hx hb dX10_give_48 rfl (lv_at hl 0 rfl) ?_
        obtain ⟨h4, hq, hm⟩ := bdh_some hm
        refine cVv X hH kl_X10_187 kv_X10_prepareChange (mt_X10_prepareChange hq) lC_0 rfl rfl (by decide) hl.1 rfl (Nat.le_of_ble_eq_true rfl) dX10_give_49 (fun H locs hH => ?_)
        refine lv_aload_n hx hb dX10_give_52 rfl (lv_at hl 0 rfl) ?_
        refine gR X hH fl_X10_19 lC_0 rfl dX10_give_53 ?_
        refine gR X hH fl_X10_114 lC_3 rfl dX10_give_56 ?_
        refine gR X hH fl_X10_168 lC_11 rfl dX10_give_59 ?_
        refine lv_iload_n hx hb dX10_give_62 rfl (lv_at hl 1 rfl) ?_
        refine lv_iload_n hx hb dX10_give_63 rfl (lv_at hl 2 rfl) ?_
        obtain ⟨hin6, hm⟩ := gIn_some hm
        obtain ⟨h5, eh5, hm⟩ := mlet_some hm
        refine ist X hH lC_12 hin6 dX10_give_64 (fun H locs hH => ?_)
        rw [← eh5] at hH
        refine lv_aload_n hx hb dX10_give_65 rfl (lv_at hl 0 rfl) ?_
        refine gR X hH fl_X10_19 lC_0 rfl dX10_give_66 ?_
        obtain ⟨v7, hq, hm⟩ := bd1_some hm
        refine cVi X hH kl_X10_190 kv_X4_contactBits (mt_X4_contactBits hq) lC_3 rfl rfl (by decide) hl.1 rfl (Nat.le_of_ble_eq_true rfl) dX10_give_69 (fun H locs hH => ?_)
        obtain ⟨v8, hq, hm⟩ := bd1_some hm
        refine cSi (As := [.int v7]) X hH kl_X10_193 ks_J6_bitCount_0f7a4 (mt_J6_bitCount_0f7a4 hq) rfl (by decide) hl.1 rfl (Nat.le_of_ble_eq_true rfl) dX10_give_72 (fun H locs hH => ?_)
        cases hm
        exact retI X hH dX10_give_75
      · rw [if_neg hc] at hm
        refine lv_bipush (v := (-2)) hx hb dX10_give_45 (by decide) ?_
        cases hm
        exact retI X hH dX10_give_47
    · rw [if_pos hc] at hm
      refine lv_iconst (v := (-1)) hx hb dX10_give_31 (by decide) ?_
      cases hm
      exact retI X hH dX10_give_32
/-! X10_isSlot -/
def mX10_isSlot (h : Mm) (a0 : Int32) : Option Int32 := if a0 < 0 then (some (0 : Int32)) else (if (60 : Int32) ≤ a0 then (some (0 : Int32)) else (some (1 : Int32)))
set_option maxRecDepth 4000 in
theorem mt_X10_isSlot {l : Launch} {D : va_G} {ad : Nat → Nat} {ac : Nat → ClassId} {L : List CD} {rl : RomL} {h : Mm} {a0 : Int32} {r : Int32} (hm : mX10_isSlot h a0 = some r) : Mt l D ad ac L rl yX10_isSlot cX10_isSlot 1 (some .boolean) 0 [.int a0] h (some (.int r)) h := by
  refine Mt.of (own := RX10) (by decide) rfl (Nat.le_of_ble_eq_true rfl) ?_
  intro p e s m below meth c ls X hH hl
  obtain ⟨hx, hb, hml, hown, hts, hr, hlk, hC, hI, hR⟩ := id X
  have hl : lv_has ls 1 [(0, .int a0)] := hl
  rw [mX10_isSlot] at hm
  refine lv_iload_n hx hb dX10_isSlot_0 rfl (lv_at hl 0 rfl) ?_
  refine lv_if_lt hx hb dX10_isSlot_1 (tgt := 14) (by decide) (fun hc => ?_) (fun hc => ?_)
  · rw [if_pos hc] at hm
    refine lv_iconst (v := 0) hx hb dX10_isSlot_14 (by decide) ?_
    cases hm
    exact retZ X hH rfl dX10_isSlot_15
  · rw [if_neg hc] at hm
    refine lv_iload_n hx hb dX10_isSlot_4 rfl (lv_at hl 0 rfl) ?_
    refine lv_bipush (v := 60) hx hb dX10_isSlot_5 (by decide) ?_
    refine lv_icmp_ge hx hb dX10_isSlot_7 (tgt := 14) (by decide) (fun hc => ?_) (fun hc => ?_)
    · rw [if_pos hc] at hm
      refine lv_iconst (v := 0) hx hb dX10_isSlot_14 (by decide) ?_
      cases hm
      exact retZ X hH rfl dX10_isSlot_15
    · rw [if_neg hc] at hm
      refine lv_iconst (v := 1) hx hb dX10_isSlot_10 (by decide) ?_
      refine lv_goto hx hb dX10_isSlot_11 (tgt := 15) (by decide) ?_
      cases hm
      exact retZ X hH rfl dX10_isSlot_15
/-! X4_dropContactsThatDoNotFit -/
def mX4_dropContactsThatDoNotFit_50 (k4 : Int32 → Int32 → Int32 → Mm → Option (Int32 × Mm)) (x1 : Int32) (x2 : Int32) (x3 : Int32) (h : Mm) : Option (Int32 × Mm) := k4 x1 x2 (x3 + 1) h
set_option maxRecDepth 4000 in
theorem wX4_dropContactsThatDoNotFit_50 {p : Program} {l : Launch} {e : Env} {s : State} {m : MethodId} {args : Array Value} {below : List Frame} {meth : Method} {c : Code} {D : va_G} {ad : Nat → Nat} {ac : Nat → ClassId} {r : Int32} {h' : Mm} (X : Fx p s m args meth c cX4_dropContactsThatDoNotFit 4 RX4 (some .int) D ad ac LC rlC) {k4 : Int32 → Int32 → Int32 → Mm → Option (Int32 × Mm)} (ih4 : ∀ (x1 : Int32) (x2 : Int32) (x3 : Int32) (h : Mm) (H : Heap) (locs : List Loc) (ls : Array Slot), k4 x1 x2 x3 h = some (r, h') → Hp D ad ac LC h s H locs → lv_has ls 4 [(0, .ref (ad 3)), (1, .int x1), (2, .int x2), (3, .int x3)] → W p l e (rmD 3) s m args below meth c H locs 0 0 (MQ below (QU D ad ac LC (some (.int r)) h' s.heap.size) args s 0 0 (Aa ad LC.length s.heap.size)) (F0 m 4 ls [])) : ∀ (x1 : Int32) (x2 : Int32) (x3 : Int32) (h : Mm) (H : Heap) (locs : List Loc) (ls : Array Slot), mX4_dropContactsThatDoNotFit_50 k4 x1 x2 x3 h = some (r, h') → Hp D ad ac LC h s H locs → lv_has ls 4 [(0, .ref (ad 3)), (1, .int x1), (2, .int x2), (3, .int x3)] → W p l e (rmD 3) s m args below meth c H locs 0 0 (MQ below (QU D ad ac LC (some (.int r)) h' s.heap.size) args s 0 0 (Aa ad LC.length s.heap.size)) (F0 m 50 ls []) := by
  obtain ⟨hx, hb, hml, hown, hts, hr, hlk, hC, hI, hR⟩ := id X
  intro x1 x2 x3 h H locs ls hm hH hl
  rw [mX4_dropContactsThatDoNotFit_50] at hm
  refine lv_iinc (k := 3) (v := (x3 + 1)) (lv' := [(3, .int (x3 + 1)), (0, .ref (ad 3)), (1, .int x1), (2, .int x2)]) hx hb dX4_dropContactsThatDoNotFit_50 hl rfl rfl (by decide) rfl (fun ls hl => ?_)
  refine lv_goto hx hb dX4_dropContactsThatDoNotFit_53 (tgt := 4) (by decide) ?_
  exact ih4 x1 x2 (x3 + 1) h _ _ _ hm hH (lv_sub hl [1, 2, 3, 0] rfl)
def mX4_dropContactsThatDoNotFit_4 : Nat → Int32 → Int32 → Int32 → Mm → Option (Int32 × Mm)
  | 0, _, _, _, _ => none
  | n + 1, x1, x2, x3, h => if (h 4 6) ≤ x3 then (some (x2, h)) else (gIn x3 24 (if (h 12 x3.toNatClampNeg) = x1 then (bd1 (mX4_fits h x3 x1) (fun v2 => if v2 = 0 then (gIn x3 24 (mlet (wr h 12 x3.toNatClampNeg (-1 : Int32)) (fun h3 => mX4_dropContactsThatDoNotFit_50 (mX4_dropContactsThatDoNotFit_4 n) x1 (x2 + 1) x3 h3))) else (mX4_dropContactsThatDoNotFit_50 (mX4_dropContactsThatDoNotFit_4 n) x1 x2 x3 h))) else (mX4_dropContactsThatDoNotFit_50 (mX4_dropContactsThatDoNotFit_4 n) x1 x2 x3 h)))
set_option maxRecDepth 4000 in
theorem wX4_dropContactsThatDoNotFit_4 {p : Program} {l : Launch} {e : Env} {s : State} {m : MethodId} {args : Array Value} {below : List Frame} {meth : Method} {c : Code} {D : va_G} {ad : Nat → Nat} {ac : Nat → ClassId} {r : Int32} {h' : Mm} (X : Fx p s m args meth c cX4_dropContactsThatDoNotFit 4 RX4 (some .int) D ad ac LC rlC) : ∀ (n : Nat) (x1 : Int32) (x2 : Int32) (x3 : Int32) (h : Mm) (H : Heap) (locs : List Loc) (ls : Array Slot), mX4_dropContactsThatDoNotFit_4 n x1 x2 x3 h = some (r, h') → Hp D ad ac LC h s H locs → lv_has ls 4 [(0, .ref (ad 3)), (1, .int x1), (2, .int x2), (3, .int x3)] → W p l e (rmD 3) s m args below meth c H locs 0 0 (MQ below (QU D ad ac LC (some (.int r)) h' s.heap.size) args s 0 0 (Aa ad LC.length s.heap.size)) (F0 m 4 ls []) := by
  obtain ⟨hx, hb, hml, hown, hts, hr, hlk, hC, hI, hR⟩ := id X
  intro n
  induction n with
  | zero => intro x1 x2 x3 h H locs ls hm; rw [mX4_dropContactsThatDoNotFit_4] at hm; cases hm
  | succ n ih =>
    intro x1 x2 x3 h H locs ls hm hH hl
    rw [mX4_dropContactsThatDoNotFit_4] at hm
    refine lv_iload_n hx hb dX4_dropContactsThatDoNotFit_4 rfl (lv_at hl 3 rfl) ?_
    refine lv_aload_n hx hb dX4_dropContactsThatDoNotFit_5 rfl (lv_at hl 0 rfl) ?_
    refine gR X hH fl_X4_21 lC_3 rfl dX4_dropContactsThatDoNotFit_6 ?_
    refine gI X hH fl_X4_39 lC_4 rfl dX4_dropContactsThatDoNotFit_9 ?_
    refine lv_icmp_ge hx hb dX4_dropContactsThatDoNotFit_12 (tgt := 56) (by decide) (fun hc => ?_) (fun hc => ?_)
    · rw [if_pos hc] at hm
      refine lv_iload_n hx hb dX4_dropContactsThatDoNotFit_56 rfl (lv_at hl 2 rfl) ?_
      cases hm
      exact retI X hH dX4_dropContactsThatDoNotFit_57
    · rw [if_neg hc] at hm
      refine lv_aload_n hx hb dX4_dropContactsThatDoNotFit_15 rfl (lv_at hl 0 rfl) ?_
      refine gR X hH fl_X4_28 lC_3 rfl dX4_dropContactsThatDoNotFit_16 ?_
      refine gR X hH fl_X4_49 lC_11 rfl dX4_dropContactsThatDoNotFit_19 ?_
      refine lv_iload_n hx hb dX4_dropContactsThatDoNotFit_22 rfl (lv_at hl 3 rfl) ?_
      obtain ⟨hin1, hm⟩ := gIn_some hm
      refine ild X hH lC_12 hin1 dX4_dropContactsThatDoNotFit_23 ?_
      refine lv_iload_n hx hb dX4_dropContactsThatDoNotFit_24 rfl (lv_at hl 1 rfl) ?_
      refine lv_icmp_ne hx hb dX4_dropContactsThatDoNotFit_25 (tgt := 50) (by decide) (fun hc => ?_) (fun hc => ?_)
      · rw [if_neg hc] at hm
        exact wX4_dropContactsThatDoNotFit_50 X ih x1 x2 x3 h _ _ _ hm hH (lv_sub hl [0, 1, 2, 3] rfl)
      · rw [if_pos hc] at hm
        refine lv_aload_n hx hb dX4_dropContactsThatDoNotFit_28 rfl (lv_at hl 0 rfl) ?_
        refine lv_iload_n hx hb dX4_dropContactsThatDoNotFit_29 rfl (lv_at hl 3 rfl) ?_
        refine lv_iload_n hx hb dX4_dropContactsThatDoNotFit_30 rfl (lv_at hl 1 rfl) ?_
        obtain ⟨v2, hq, hm⟩ := bd1_some hm
        refine cVi X hH kl_X4_94 kv_X4_fits (mt_X4_fits hq) lC_3 rfl rfl (by decide) hl.1 rfl (Nat.le_of_ble_eq_true rfl) dX4_dropContactsThatDoNotFit_31 (fun H locs hH => ?_)
        refine lv_if_ne hx hb dX4_dropContactsThatDoNotFit_34 (tgt := 50) (by decide) (fun hc => ?_) (fun hc => ?_)
        · rw [if_neg hc] at hm
          exact wX4_dropContactsThatDoNotFit_50 X ih x1 x2 x3 h _ _ _ hm hH (lv_sub hl [0, 1, 2, 3] rfl)
        · rw [if_pos hc] at hm
          refine lv_aload_n hx hb dX4_dropContactsThatDoNotFit_37 rfl (lv_at hl 0 rfl) ?_
          refine gR X hH fl_X4_28 lC_3 rfl dX4_dropContactsThatDoNotFit_38 ?_
          refine gR X hH fl_X4_49 lC_11 rfl dX4_dropContactsThatDoNotFit_41 ?_
          refine lv_iload_n hx hb dX4_dropContactsThatDoNotFit_44 rfl (lv_at hl 3 rfl) ?_
          refine lv_iconst (v := (-1)) hx hb dX4_dropContactsThatDoNotFit_45 (by decide) ?_
          obtain ⟨hin4, hm⟩ := gIn_some hm
          obtain ⟨h3, eh3, hm⟩ := mlet_some hm
          refine ist X hH lC_12 hin4 dX4_dropContactsThatDoNotFit_46 (fun H locs hH => ?_)
          rw [← eh3] at hH
          refine lv_iinc (k := 2) (v := (x2 + 1)) (lv' := [(2, .int (x2 + 1)), (0, .ref (ad 3)), (1, .int x1), (3, .int x3)]) hx hb dX4_dropContactsThatDoNotFit_47 hl rfl rfl (by decide) rfl (fun ls hl => ?_)
          exact wX4_dropContactsThatDoNotFit_50 X ih x1 (x2 + 1) x3 h3 _ _ _ hm hH (lv_sub hl [1, 2, 0, 3] rfl)
def mX4_dropContactsThatDoNotFit (h : Mm) (a1 : Int32) : Option (Int32 × Mm) := mX4_dropContactsThatDoNotFit_4 FU a1 (0 : Int32) (0 : Int32) h
set_option maxRecDepth 4000 in
theorem mt_X4_dropContactsThatDoNotFit {l : Launch} {D : va_G} {ad : Nat → Nat} {ac : Nat → ClassId} {h : Mm} {a1 : Int32} {r : Int32} {h' : Mm} (hm : mX4_dropContactsThatDoNotFit h a1 = some (r, h')) : Mt l D ad ac LC rlC yX4_dropContactsThatDoNotFit cX4_dropContactsThatDoNotFit 4 (some .int) 3 [.ref (ad 3), .int a1] h (some (.int r)) h' := by
  refine Mt.of (own := RX4) (by decide) rfl (Nat.le_of_ble_eq_true rfl) ?_
  intro p e s m below meth c ls X hH hl
  obtain ⟨hx, hb, hml, hown, hts, hr, hlk, hC, hI, hR⟩ := id X
  have hl : lv_has ls 4 [(0, .ref (ad 3)), (1, .int a1)] := hl
  rw [mX4_dropContactsThatDoNotFit] at hm
  refine lv_iconst (v := 0) hx hb dX4_dropContactsThatDoNotFit_0 (by decide) ?_
  refine lv_istore_n (lv' := [(2, .int (0 : Int32)), (0, .ref (ad 3)), (1, .int a1)]) hx hb dX4_dropContactsThatDoNotFit_1 rfl hl (by decide) rfl (fun ls hl => ?_)
  refine lv_iconst (v := 0) hx hb dX4_dropContactsThatDoNotFit_2 (by decide) ?_
  refine lv_istore_n (lv' := [(3, .int (0 : Int32)), (2, .int (0 : Int32)), (0, .ref (ad 3)), (1, .int a1)]) hx hb dX4_dropContactsThatDoNotFit_3 rfl hl (by decide) rfl (fun ls hl => ?_)
  exact wX4_dropContactsThatDoNotFit_4 X FU a1 (0 : Int32) (0 : Int32) h _ _ _ hm hH (lv_sub hl [2, 3, 1, 0] rfl)
/-! X10_out -/
def mX10_out (h : Mm) (a1 : Int32) (a2 : Int32) (a3 : Int32) : Option (Int32 × Mm) := bd1 (mX2_has_42 h a1) (fun v1 => if v1 = 0 then (some ((-1 : Int32), h)) else (bd1 (mX10_isSlot h a2) (fun v2 => if v2 = 0 then (some ((-1 : Int32), h)) else (bd1 (mX10_isSlot h a3) (fun v3 => if v3 = 0 then (some ((-1 : Int32), h)) else (bdh (mX10_prepareChange h) (fun h4 => gIn a1 4 (mlet (wr h4 13 a1.toNatClampNeg a2) (fun h5 => gIn a1 4 (mlet (wr h5 14 a1.toNatClampNeg a3) (fun h7 => bd2 (mX4_dropContactsThatDoNotFit h7 a1) (fun v10 h9 => some (v10, h9)))))))))))))
set_option maxRecDepth 4000 in
theorem mt_X10_out {l : Launch} {D : va_G} {ad : Nat → Nat} {ac : Nat → ClassId} {h : Mm} {a1 : Int32} {a2 : Int32} {a3 : Int32} {r : Int32} {h' : Mm} (hm : mX10_out h a1 a2 a3 = some (r, h')) : Mt l D ad ac LC rlC yX10_out cX10_out 4 (some .int) 4 [.ref (ad 0), .int a1, .int a2, .int a3] h (some (.int r)) h' := by
  refine Mt.of (own := RX10) (by decide) rfl (Nat.le_of_ble_eq_true rfl) ?_
  intro p e s m below meth c ls X hH hl
  obtain ⟨hx, hb, hml, hown, hts, hr, hlk, hC, hI, hR⟩ := id X
  have hl : lv_has ls 4 [(0, .ref (ad 0)), (1, .int a1), (2, .int a2), (3, .int a3)] := hl
  rw [mX10_out] at hm
  refine lv_aload_n hx hb dX10_out_0 rfl (lv_at hl 0 rfl) ?_
  refine gR X hH fl_X10_19 lC_0 rfl dX10_out_1 ?_
  refine gR X hH fl_X10_87 lC_3 rfl dX10_out_4 ?_
  refine gR X hH fl_X10_111 lC_30 rfl dX10_out_7 ?_
  refine lv_iload_n hx hb dX10_out_10 rfl (lv_at hl 1 rfl) ?_
  obtain ⟨v1, hq, hm⟩ := bd1_some hm
  refine cVi X hH kl_X10_94 kv_X2_has (mt_X2_has_42 hq) lC_42 rfl rfl (by decide) hl.1 rfl (Nat.le_of_ble_eq_true rfl) dX10_out_11 (fun H locs hH => ?_)
  refine lv_if_eq hx hb dX10_out_14 (tgt := 31) (by decide) (fun hc => ?_) (fun hc => ?_)
  · rw [if_pos hc] at hm
    refine lv_iconst (v := (-1)) hx hb dX10_out_31 (by decide) ?_
    cases hm
    exact retI X hH dX10_out_32
  · rw [if_neg hc] at hm
    refine lv_iload_n hx hb dX10_out_17 rfl (lv_at hl 2 rfl) ?_
    obtain ⟨v2, hq, hm⟩ := bd1_some hm
    refine cSi (As := [.int a2]) X hH kl_X10_139 ks_X10_isSlot (mt_X10_isSlot hq) rfl (by decide) hl.1 rfl (Nat.le_of_ble_eq_true rfl) dX10_out_18 (fun H locs hH => ?_)
    refine lv_if_eq hx hb dX10_out_21 (tgt := 31) (by decide) (fun hc => ?_) (fun hc => ?_)
    · rw [if_pos hc] at hm
      refine lv_iconst (v := (-1)) hx hb dX10_out_31 (by decide) ?_
      cases hm
      exact retI X hH dX10_out_32
    · rw [if_neg hc] at hm
      refine lv_iload_n hx hb dX10_out_24 rfl (lv_at hl 3 rfl) ?_
      obtain ⟨v3, hq, hm⟩ := bd1_some hm
      refine cSi (As := [.int a3]) X hH kl_X10_139 ks_X10_isSlot (mt_X10_isSlot hq) rfl (by decide) hl.1 rfl (Nat.le_of_ble_eq_true rfl) dX10_out_25 (fun H locs hH => ?_)
      refine lv_if_ne hx hb dX10_out_28 (tgt := 33) (by decide) (fun hc => ?_) (fun hc => ?_)
      · rw [if_neg hc] at hm
        refine lv_aload_n hx hb dX10_out_33 rfl (lv_at hl 0 rfl) ?_
        obtain ⟨h4, hq, hm⟩ := bdh_some hm
        refine cVv X hH kl_X10_187 kv_X10_prepareChange (mt_X10_prepareChange hq) lC_0 rfl rfl (by decide) hl.1 rfl (Nat.le_of_ble_eq_true rfl) dX10_out_34 (fun H locs hH => ?_)
        refine lv_aload_n hx hb dX10_out_37 rfl (lv_at hl 0 rfl) ?_
        refine gR X hH fl_X10_19 lC_0 rfl dX10_out_38 ?_
        refine gR X hH fl_X10_114 lC_3 rfl dX10_out_41 ?_
        refine gR X hH fl_X10_123 lC_11 rfl dX10_out_44 ?_
        refine lv_iload_n hx hb dX10_out_47 rfl (lv_at hl 1 rfl) ?_
        refine lv_iload_n hx hb dX10_out_48 rfl (lv_at hl 2 rfl) ?_
        obtain ⟨hin6, hm⟩ := gIn_some hm
        obtain ⟨h5, eh5, hm⟩ := mlet_some hm
        refine ist X hH lC_13 hin6 dX10_out_49 (fun H locs hH => ?_)
        rw [← eh5] at hH
        refine lv_aload_n hx hb dX10_out_50 rfl (lv_at hl 0 rfl) ?_
        refine gR X hH fl_X10_19 lC_0 rfl dX10_out_51 ?_
        refine gR X hH fl_X10_114 lC_3 rfl dX10_out_54 ?_
        refine gR X hH fl_X10_127 lC_11 rfl dX10_out_57 ?_
        refine lv_iload_n hx hb dX10_out_60 rfl (lv_at hl 1 rfl) ?_
        refine lv_iload_n hx hb dX10_out_61 rfl (lv_at hl 3 rfl) ?_
        obtain ⟨hin8, hm⟩ := gIn_some hm
        obtain ⟨h7, eh7, hm⟩ := mlet_some hm
        refine ist X hH lC_14 hin8 dX10_out_62 (fun H locs hH => ?_)
        rw [← eh7] at hH
        refine lv_aload_n hx hb dX10_out_63 rfl (lv_at hl 0 rfl) ?_
        refine gR X hH fl_X10_19 lC_0 rfl dX10_out_64 ?_
        refine lv_iload_n hx hb dX10_out_67 rfl (lv_at hl 1 rfl) ?_
        obtain ⟨v10, h9, hq, hm⟩ := bd2_some hm
        refine cVi X hH kl_X10_198 kv_X4_dropContactsThatDoNotFit (mt_X4_dropContactsThatDoNotFit hq) lC_3 rfl rfl (by decide) hl.1 rfl (Nat.le_of_ble_eq_true rfl) dX10_out_68 (fun H locs hH => ?_)
        cases hm
        exact retI X hH dX10_out_71
      · rw [if_pos hc] at hm
        refine lv_iconst (v := (-1)) hx hb dX10_out_31 (by decide) ?_
        cases hm
        exact retI X hH dX10_out_32
/-! X2_has_31 -/
def mX2_has_31 (h : Mm) (a1 : Int32) : Option Int32 := if a1 < 0 then (some (0 : Int32)) else (if (h 31 3) ≤ a1 then (some (0 : Int32)) else (some (1 : Int32)))
set_option maxRecDepth 4000 in
theorem mt_X2_has_31 {l : Launch} {D : va_G} {ad : Nat → Nat} {ac : Nat → ClassId} {h : Mm} {a1 : Int32} {r : Int32} (hm : mX2_has_31 h a1 = some r) : Mt l D ad ac LC rlC yX2_has cX2_has 2 (some .boolean) 0 [.ref (ad 31), .int a1] h (some (.int r)) h := by
  refine Mt.of (own := RX2) (by decide) rfl (Nat.le_of_ble_eq_true rfl) ?_
  intro p e s m below meth c ls X hH hl
  obtain ⟨hx, hb, hml, hown, hts, hr, hlk, hC, hI, hR⟩ := id X
  have hl : lv_has ls 2 [(0, .ref (ad 31)), (1, .int a1)] := hl
  rw [mX2_has_31] at hm
  refine lv_iload_n hx hb dX2_has_0 rfl (lv_at hl 1 rfl) ?_
  refine lv_if_lt hx hb dX2_has_1 (tgt := 16) (by decide) (fun hc => ?_) (fun hc => ?_)
  · rw [if_pos hc] at hm
    refine lv_iconst (v := 0) hx hb dX2_has_16 (by decide) ?_
    cases hm
    exact retZ X hH rfl dX2_has_17
  · rw [if_neg hc] at hm
    refine lv_iload_n hx hb dX2_has_4 rfl (lv_at hl 1 rfl) ?_
    refine lv_aload_n hx hb dX2_has_5 rfl (lv_at hl 0 rfl) ?_
    refine gI X hH fl_X2_21 lC_31 rfl dX2_has_6 ?_
    refine lv_icmp_ge hx hb dX2_has_9 (tgt := 16) (by decide) (fun hc => ?_) (fun hc => ?_)
    · rw [if_pos hc] at hm
      refine lv_iconst (v := 0) hx hb dX2_has_16 (by decide) ?_
      cases hm
      exact retZ X hH rfl dX2_has_17
    · rw [if_neg hc] at hm
      refine lv_iconst (v := 1) hx hb dX2_has_12 (by decide) ?_
      refine lv_goto hx hb dX2_has_13 (tgt := 17) (by decide) ?_
      cases hm
      exact retZ X hH rfl dX2_has_17
/-! X10_over -/
def mX10_over (h : Mm) (a1 : Int32) : Option (Int32 × Mm) := bd1 (mX2_has_31 h a1) (fun v1 => if v1 = 0 then (some ((-1 : Int32), h)) else (bd1 (mX4_contactBits h) (fun v2 => bdh (mX9_follow h a1 v2 (59 : Int32)) (fun h3 => some ((h3 15 4), h3)))))
set_option maxRecDepth 4000 in
theorem mt_X10_over {l : Launch} {D : va_G} {ad : Nat → Nat} {ac : Nat → ClassId} {h : Mm} {a1 : Int32} {r : Int32} {h' : Mm} (hm : mX10_over h a1 = some (r, h')) : Mt l D ad ac LC rlC yX10_over cX10_over 2 (some .int) 4 [.ref (ad 0), .int a1] h (some (.int r)) h' := by
  refine Mt.of (own := RX10) (by decide) rfl (Nat.le_of_ble_eq_true rfl) ?_
  intro p e s m below meth c ls X hH hl
  obtain ⟨hx, hb, hml, hown, hts, hr, hlk, hC, hI, hR⟩ := id X
  have hl : lv_has ls 2 [(0, .ref (ad 0)), (1, .int a1)] := hl
  rw [mX10_over] at hm
  refine lv_aload_n hx hb dX10_over_0 rfl (lv_at hl 0 rfl) ?_
  refine gR X hH fl_X10_19 lC_0 rfl dX10_over_1 ?_
  refine gR X hH fl_X10_87 lC_3 rfl dX10_over_4 ?_
  refine gR X hH fl_X10_90 lC_30 rfl dX10_over_7 ?_
  refine lv_iload_n hx hb dX10_over_10 rfl (lv_at hl 1 rfl) ?_
  obtain ⟨v1, hq, hm⟩ := bd1_some hm
  refine cVi X hH kl_X10_94 kv_X2_has (mt_X2_has_31 hq) lC_31 rfl rfl (by decide) hl.1 rfl (Nat.le_of_ble_eq_true rfl) dX10_over_11 (fun H locs hH => ?_)
  refine lv_if_ne hx hb dX10_over_14 (tgt := 19) (by decide) (fun hc => ?_) (fun hc => ?_)
  · rw [if_neg hc] at hm
    refine lv_aload_n hx hb dX10_over_19 rfl (lv_at hl 0 rfl) ?_
    refine gR X hH fl_X10_33 lC_0 rfl dX10_over_20 ?_
    refine lv_aload_n hx hb dX10_over_23 rfl (lv_at hl 0 rfl) ?_
    refine gR X hH fl_X10_19 lC_0 rfl dX10_over_24 ?_
    refine lv_iload_n hx hb dX10_over_27 rfl (lv_at hl 1 rfl) ?_
    refine lv_aload_n hx hb dX10_over_28 rfl (lv_at hl 0 rfl) ?_
    refine gR X hH fl_X10_19 lC_0 rfl dX10_over_29 ?_
    obtain ⟨v2, hq, hm⟩ := bd1_some hm
    refine cVi X hH kl_X10_190 kv_X4_contactBits (mt_X4_contactBits hq) lC_3 rfl rfl (by decide) hl.1 rfl (Nat.le_of_ble_eq_true rfl) dX10_over_32 (fun H locs hH => ?_)
    refine lv_bipush (v := 59) hx hb dX10_over_35 (by decide) ?_
    obtain ⟨h3, hq, hm⟩ := bdh_some hm
    refine cVv X hH kl_X10_254 kv_X9_follow (mt_X9_follow hq) lC_15 rfl rfl (by decide) hl.1 rfl (Nat.le_of_ble_eq_true rfl) dX10_over_37 (fun H locs hH => ?_)
    refine lv_aload_n hx hb dX10_over_40 rfl (lv_at hl 0 rfl) ?_
    refine gR X hH fl_X10_33 lC_0 rfl dX10_over_41 ?_
    refine gI X hH fl_X10_267 lC_15 rfl dX10_over_44 ?_
    cases hm
    exact retI X hH dX10_over_47
  · rw [if_pos hc] at hm
    refine lv_iconst (v := (-1)) hx hb dX10_over_17 (by decide) ?_
    cases hm
    exact retI X hH dX10_over_18
