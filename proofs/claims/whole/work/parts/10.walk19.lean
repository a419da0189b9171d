/-! X11_seen -/
def mX11_seen (h : Mm) (a1 : Int32) (a2 : Int32) (a3 : Int32) : Option Int32 := gIn (0 : Int32) 3 (bd1 (mX11_in h a1.toInt64 (0 : Int64) ((h 5 (0 : Int32).toNatClampNeg) - (1 : Int32)).toInt64) (fun v2 => if v2 = 0 then (some (-1 : Int32)) else (gIn (1 : Int32) 3 (bd1 (mX11_in h a2.toInt64 (0 : Int64) ((h 5 (1 : Int32).toNatClampNeg) - (1 : Int32)).toInt64) (fun v4 => if v4 = 0 then (some (-1 : Int32)) else (bd1 (mX11_in h a3.toInt64 (0 : Int64) (59 : Int64)) (fun v5 => if v5 = 0 then (some (-1 : Int32)) else (bd1 (mX11_sees h a1 a2 a3) (fun v6 => if v6 = 0 then (some (0 : Int32)) else (some (1 : Int32)))))))))))
set_option maxRecDepth 4000 in
theorem mt_X11_seen {l : Launch} {D : va_G} {ad : Nat → Nat} {ac : Nat → ClassId} {h : Mm} {a1 : Int32} {a2 : Int32} {a3 : Int32} {r : Int32} (hm : mX11_seen h a1 a2 a3 = some r) : Mt l D ad ac LM [] yX11_seen cX11_seen 4 (some .int) 1 [.ref (ad 0), .int a1, .int a2, .int a3] h (some (.int r)) h := by
  refine Mt.of (own := RX11) (by decide) rfl (Nat.le_of_ble_eq_true rfl) ?_
  intro p e s m below meth c ls X hH hl
  obtain ⟨hx, hb, hml, hown, hts, hr, hlk, hC, hI, hR⟩ := id X
  have hl : lv_has ls 4 [(0, .ref (ad 0)), (1, .int a1), (2, .int a2), (3, .int a3)] := hl
  rw [mX11_seen] at hm
  refine lv_iload_n hx hb dX11_seen_0 rfl (lv_at hl 1 rfl) ?_
  refine lv_i2l hx hb dX11_seen_1 rfl ?_
  refine lv_lconst (v := 0) hx hb dX11_seen_2 (by decide) ?_
  refine lv_aload_n hx hb dX11_seen_3 rfl (lv_at hl 0 rfl) ?_
  refine gR X hH fl_X11_22 lM_0 rfl dX11_seen_4 ?_
  refine lv_iconst (v := 0) hx hb dX11_seen_7 (by decide) ?_
  obtain ⟨hin1, hm⟩ := gIn_some hm
  refine ild X hH lM_5 hin1 dX11_seen_8 ?_
  refine lv_iconst (v := 1) hx hb dX11_seen_9 (by decide) ?_
  refine lv_isub hx hb dX11_seen_10 ?_
  refine lv_i2l hx hb dX11_seen_11 rfl ?_
  obtain ⟨v2, hq, hm⟩ := bd1_some hm
  refine cSi (As := [.long a1.toInt64, .long (0 : Int64), .long ((h 5 (0 : Int32).toNatClampNeg) - (1 : Int32)).toInt64]) X hH kl_X11_93 ks_X11_in (mt_X11_in hq) rfl (by decide) hl.1 rfl (Nat.le_of_ble_eq_true rfl) dX11_seen_12 (fun H locs hH => ?_)
  refine lv_if_eq hx hb dX11_seen_15 (tgt := 48) (by decide) (fun hc => ?_) (fun hc => ?_)
  · rw [if_pos hc] at hm
    refine lv_iconst (v := (-1)) hx hb dX11_seen_48 (by decide) ?_
    cases hm
    exact retI X hH dX11_seen_49
  · rw [if_neg hc] at hm
    refine lv_iload_n hx hb dX11_seen_18 rfl (lv_at hl 2 rfl) ?_
    refine lv_i2l hx hb dX11_seen_19 rfl ?_
    refine lv_lconst (v := 0) hx hb dX11_seen_20 (by decide) ?_
    refine lv_aload_n hx hb dX11_seen_21 rfl (lv_at hl 0 rfl) ?_
    refine gR X hH fl_X11_22 lM_0 rfl dX11_seen_22 ?_
    refine lv_iconst (v := 1) hx hb dX11_seen_25 (by decide) ?_
    obtain ⟨hin3, hm⟩ := gIn_some hm
    refine ild X hH lM_5 hin3 dX11_seen_26 ?_
    refine lv_iconst (v := 1) hx hb dX11_seen_27 (by decide) ?_
    refine lv_isub hx hb dX11_seen_28 ?_
    refine lv_i2l hx hb dX11_seen_29 rfl ?_
    obtain ⟨v4, hq, hm⟩ := bd1_some hm
    refine cSi (As := [.long a2.toInt64, .long (0 : Int64), .long ((h 5 (1 : Int32).toNatClampNeg) - (1 : Int32)).toInt64]) X hH kl_X11_93 ks_X11_in (mt_X11_in hq) rfl (by decide) hl.1 rfl (Nat.le_of_ble_eq_true rfl) dX11_seen_30 (fun H locs hH => ?_)
    refine lv_if_eq hx hb dX11_seen_33 (tgt := 48) (by decide) (fun hc => ?_) (fun hc => ?_)
    · rw [if_pos hc] at hm
      refine lv_iconst (v := (-1)) hx hb dX11_seen_48 (by decide) ?_
      cases hm
      exact retI X hH dX11_seen_49
    · rw [if_neg hc] at hm
      refine lv_iload_n hx hb dX11_seen_36 rfl (lv_at hl 3 rfl) ?_
      refine lv_i2l hx hb dX11_seen_37 rfl ?_
      refine lv_lconst (v := 0) hx hb dX11_seen_38 (by decide) ?_
      refine lv_ldc2 hx hb hown (hts _ kc_X11_147) dX11_seen_39 ?_
      obtain ⟨v5, hq, hm⟩ := bd1_some hm
      refine cSi (As := [.long a3.toInt64, .long (0 : Int64), .long (59 : Int64)]) X hH kl_X11_93 ks_X11_in (mt_X11_in hq) rfl (by decide) hl.1 rfl (Nat.le_of_ble_eq_true rfl) dX11_seen_42 (fun H locs hH => ?_)
      refine lv_if_ne hx hb dX11_seen_45 (tgt := 50) (by decide) (fun hc => ?_) (fun hc => ?_)
      · rw [if_neg hc] at hm
        refine lv_aload_n hx hb dX11_seen_50 rfl (lv_at hl 0 rfl) ?_
        refine lv_iload_n hx hb dX11_seen_51 rfl (lv_at hl 1 rfl) ?_
        refine lv_iload_n hx hb dX11_seen_52 rfl (lv_at hl 2 rfl) ?_
        refine lv_iload_n hx hb dX11_seen_53 rfl (lv_at hl 3 rfl) ?_
        obtain ⟨v6, hq, hm⟩ := bd1_some hm
        refine cVi X hH kl_X11_127 kv_X11_sees (mt_X11_sees hq) lM_0 rfl rfl (by decide) hl.1 rfl (Nat.le_of_ble_eq_true rfl) dX11_seen_54 (fun H locs hH => ?_)
        refine lv_if_eq hx hb dX11_seen_57 (tgt := 64) (by decide) (fun hc => ?_) (fun hc => ?_)
        · rw [if_pos hc] at hm
          refine lv_iconst (v := 0) hx hb dX11_seen_64 (by decide) ?_
          cases hm
          exact retI X hH dX11_seen_65
        · rw [if_neg hc] at hm
          refine lv_iconst (v := 1) hx hb dX11_seen_60 (by decide) ?_
          refine lv_goto hx hb dX11_seen_61 (tgt := 65) (by decide) ?_
          cases hm
          exact retI X hH dX11_seen_65
      · rw [if_pos hc] at hm
        refine lv_iconst (v := (-1)) hx hb dX11_seen_48 (by decide) ?_
        cases hm
        exact retI X hH dX11_seen_49
/-! X11_store -/
def mX11_store (h : Mm) (a1 : Int32) (a2 : Int32) (a3 : Int32) : Option (Int32 × Mm) := gIn (0 : Int32) 3 (bd1 (mX11_in h a1.toInt64 (0 : Int64) ((h 5 (0 : Int32).toNatClampNeg) - (1 : Int32)).toInt64) (fun v2 => if v2 = 0 then (some ((-1 : Int32), h)) else (bd1 (mX11_in h a2.toInt64 (0 : Int64) (59 : Int64)) (fun v3 => if v3 = 0 then (some ((-1 : Int32), h)) else (bd1 (mX11_in h a3.toInt64 (0 : Int64) (2 : Int64)) (fun v4 => if v4 = 0 then (some ((-1 : Int32), h)) else (bdh (mX11_fills_0_15 h) (fun h5 => bdh (mX11_flows h5 a1 a2) (fun h6 => gIn a3 4 (some ((h6 23 a3.toNatClampNeg), h6)))))))))))
set_option maxRecDepth 4000 in
theorem mt_X11_store {l : Launch} {D : va_G} {ad : Nat → Nat} {ac : Nat → ClassId} {h : Mm} {a1 : Int32} {a2 : Int32} {a3 : Int32} {r : Int32} {h' : Mm} (hm : mX11_store h a1 a2 a3 = some (r, h')) : Mt l D ad ac LM [] yX11_store cX11_store 4 (some .int) 3 [.ref (ad 0), .int a1, .int a2, .int a3] h (some (.int r)) h' := by
  refine Mt.of (own := RX11) (by decide) rfl (Nat.le_of_ble_eq_true rfl) ?_
  intro p e s m below meth c ls X hH hl
  obtain ⟨hx, hb, hml, hown, hts, hr, hlk, hC, hI, hR⟩ := id X
  have hl : lv_has ls 4 [(0, .ref (ad 0)), (1, .int a1), (2, .int a2), (3, .int a3)] := hl
  rw [mX11_store] at hm
  refine lv_iload_n hx hb dX11_store_0 rfl (lv_at hl 1 rfl) ?_
  refine lv_i2l hx hb dX11_store_1 rfl ?_
  refine lv_lconst (v := 0) hx hb dX11_store_2 (by decide) ?_
  refine lv_aload_n hx hb dX11_store_3 rfl (lv_at hl 0 rfl) ?_
  refine gR X hH fl_X11_22 lM_0 rfl dX11_store_4 ?_
  refine lv_iconst (v := 0) hx hb dX11_store_7 (by decide) ?_
  obtain ⟨hin1, hm⟩ := gIn_some hm
  refine ild X hH lM_5 hin1 dX11_store_8 ?_
  refine lv_iconst (v := 1) hx hb dX11_store_9 (by decide) ?_
  refine lv_isub hx hb dX11_store_10 ?_
  refine lv_i2l hx hb dX11_store_11 rfl ?_
  obtain ⟨v2, hq, hm⟩ := bd1_some hm
  refine cSi (As := [.long a1.toInt64, .long (0 : Int64), .long ((h 5 (0 : Int32).toNatClampNeg) - (1 : Int32)).toInt64]) X hH kl_X11_93 ks_X11_in (mt_X11_in hq) rfl (by decide) hl.1 rfl (Nat.le_of_ble_eq_true rfl) dX11_store_12 (fun H locs hH => ?_)
  refine lv_if_eq hx hb dX11_store_15 (tgt := 42) (by decide) (fun hc => ?_) (fun hc => ?_)
  · rw [if_pos hc] at hm
    refine lv_iconst (v := (-1)) hx hb dX11_store_42 (by decide) ?_
    cases hm
    exact retI X hH dX11_store_43
  · rw [if_neg hc] at hm
    refine lv_iload_n hx hb dX11_store_18 rfl (lv_at hl 2 rfl) ?_
    refine lv_i2l hx hb dX11_store_19 rfl ?_
    refine lv_lconst (v := 0) hx hb dX11_store_20 (by decide) ?_
    refine lv_ldc2 hx hb hown (hts _ kc_X11_147) dX11_store_21 ?_
    obtain ⟨v3, hq, hm⟩ := bd1_some hm
    refine cSi (As := [.long a2.toInt64, .long (0 : Int64), .long (59 : Int64)]) X hH kl_X11_93 ks_X11_in (mt_X11_in hq) rfl (by decide) hl.1 rfl (Nat.le_of_ble_eq_true rfl) dX11_store_24 (fun H locs hH => ?_)
    refine lv_if_eq hx hb dX11_store_27 (tgt := 42) (by decide) (fun hc => ?_) (fun hc => ?_)
    · rw [if_pos hc] at hm
      refine lv_iconst (v := (-1)) hx hb dX11_store_42 (by decide) ?_
      cases hm
      exact retI X hH dX11_store_43
    · rw [if_neg hc] at hm
      refine lv_iload_n hx hb dX11_store_30 rfl (lv_at hl 3 rfl) ?_
      refine lv_i2l hx hb dX11_store_31 rfl ?_
      refine lv_lconst (v := 0) hx hb dX11_store_32 (by decide) ?_
      refine lv_ldc2 hx hb hown (hts _ kc_X11_213) dX11_store_33 ?_
      obtain ⟨v4, hq, hm⟩ := bd1_some hm
      refine cSi (As := [.long a3.toInt64, .long (0 : Int64), .long (2 : Int64)]) X hH kl_X11_93 ks_X11_in (mt_X11_in hq) rfl (by decide) hl.1 rfl (Nat.le_of_ble_eq_true rfl) dX11_store_36 (fun H locs hH => ?_)
      refine lv_if_ne hx hb dX11_store_39 (tgt := 44) (by decide) (fun hc => ?_) (fun hc => ?_)
      · rw [if_neg hc] at hm
        refine lv_aload_n hx hb dX11_store_44 rfl (lv_at hl 0 rfl) ?_
        refine lv_aload_n hx hb dX11_store_45 rfl (lv_at hl 0 rfl) ?_
        refine gR X hH fl_X11_52 lM_0 rfl dX11_store_46 ?_
        obtain ⟨h5, hq, hm⟩ := bdh_some hm
        refine cVv X hH kl_X11_181 kv_X11_fills (mt_X11_fills_0_15 hq) lM_0 rfl rfl (by decide) hl.1 rfl (Nat.le_of_ble_eq_true rfl) dX11_store_49 (fun H locs hH => ?_)
        refine lv_aload_n hx hb dX11_store_52 rfl (lv_at hl 0 rfl) ?_
        refine lv_iload_n hx hb dX11_store_53 rfl (lv_at hl 1 rfl) ?_
        refine lv_iload_n hx hb dX11_store_54 rfl (lv_at hl 2 rfl) ?_
        obtain ⟨h6, hq, hm⟩ := bdh_some hm
        refine cVv X hH kl_X11_185 kv_X11_flows (mt_X11_flows hq) lM_0 rfl rfl (by decide) hl.1 rfl (Nat.le_of_ble_eq_true rfl) dX11_store_55 (fun H locs hH => ?_)
        refine lv_aload_n hx hb dX11_store_58 rfl (lv_at hl 0 rfl) ?_
        refine gR X hH fl_X11_76 lM_0 rfl dX11_store_59 ?_
        refine lv_iload_n hx hb dX11_store_62 rfl (lv_at hl 3 rfl) ?_
        obtain ⟨hin7, hm⟩ := gIn_some hm
        refine ild X hH lM_23 hin7 dX11_store_63 ?_
        cases hm
        exact retI X hH dX11_store_64
      · rw [if_pos hc] at hm
        refine lv_iconst (v := (-1)) hx hb dX11_store_42 (by decide) ?_
        cases hm
        exact retI X hH dX11_store_43
/-! X11_take -/
def mX11_take (h : Mm) (a1 : Int32) : Option (Int32 × Mm) := bd1 (mX11_isPass h a1) (fun v1 => if v1 = 0 then (some ((-1 : Int32), h)) else (gIn a1 32 (mlet (h 15 a1.toNatClampNeg) (fun u3 => if u3 = (-4 : Int32) then (some ((-2 : Int32), h)) else (bdh (mX11_note h) (fun h4 => gIn a1 32 (mlet (wr h4 15 a1.toNatClampNeg (-4 : Int32)) (fun h5 => some (u3, h5)))))))))
set_option maxRecDepth 4000 in
theorem mt_X11_take {l : Launch} {D : va_G} {ad : Nat → Nat} {ac : Nat → ClassId} {h : Mm} {a1 : Int32} {r : Int32} {h' : Mm} (hm : mX11_take h a1 = some (r, h')) : Mt l D ad ac LM [] yX11_take cX11_take 3 (some .int) 2 [.ref (ad 0), .int a1] h (some (.int r)) h' := by
  refine Mt.of (own := RX11) (by decide) rfl (Nat.le_of_ble_eq_true rfl) ?_
  intro p e s m below meth c ls X hH hl
  obtain ⟨hx, hb, hml, hown, hts, hr, hlk, hC, hI, hR⟩ := id X
  have hl : lv_has ls 3 [(0, .ref (ad 0)), (1, .int a1)] := hl
  rw [mX11_take] at hm
  refine lv_aload_n hx hb dX11_take_0 rfl (lv_at hl 0 rfl) ?_
  refine lv_iload_n hx hb dX11_take_1 rfl (lv_at hl 1 rfl) ?_
  obtain ⟨v1, hq, hm⟩ := bd1_some hm
  refine cVi X hH kl_X11_149 kv_X11_isPass (mt_X11_isPass hq) lM_0 rfl rfl (by decide) hl.1 rfl (Nat.le_of_ble_eq_true rfl) dX11_take_2 (fun H locs hH => ?_)
  refine lv_if_ne hx hb dX11_take_5 (tgt := 10) (by decide) (fun hc => ?_) (fun hc => ?_)
  · rw [if_neg hc] at hm
    refine lv_aload_n hx hb dX11_take_10 rfl (lv_at hl 0 rfl) ?_
    refine gR X hH fl_X11_52 lM_0 rfl dX11_take_11 ?_
    refine lv_iload_n hx hb dX11_take_14 rfl (lv_at hl 1 rfl) ?_
    obtain ⟨hin2, hm⟩ := gIn_some hm
    refine ild X hH lM_15 hin2 dX11_take_15 ?_
    obtain ⟨u3, eu3, hm⟩ := mlet_some hm
    refine W.eq (g2 := F0 m 16 ls (.int u3 :: [])) (by rw [eu3]) ?_
    refine lv_istore_n (lv' := [(2, .int u3), (0, .ref (ad 0)), (1, .int a1)]) hx hb dX11_take_16 rfl hl (by decide) rfl (fun ls hl => ?_)
    refine lv_iload_n hx hb dX11_take_17 rfl (lv_at hl 0 rfl) ?_
    refine lv_bipush (v := (-4)) hx hb dX11_take_18 (by decide) ?_
    refine lv_icmp_ne hx hb dX11_take_20 (tgt := 26) (by decide) (fun hc => ?_) (fun hc => ?_)
    · rw [if_neg hc] at hm
      refine lv_aload_n hx hb dX11_take_26 rfl (lv_at hl 1 rfl) ?_
      obtain ⟨h4, hq, hm⟩ := bdh_some hm
      refine cVv X hH kl_X11_168 kv_X11_note (mt_X11_note hq) lM_0 rfl rfl (by decide) hl.1 rfl (Nat.le_of_ble_eq_true rfl) dX11_take_27 (fun H locs hH => ?_)
      refine lv_aload_n hx hb dX11_take_30 rfl (lv_at hl 1 rfl) ?_
      refine gR X hH fl_X11_52 lM_0 rfl dX11_take_31 ?_
      refine lv_iload_n hx hb dX11_take_34 rfl (lv_at hl 2 rfl) ?_
      refine lv_bipush (v := (-4)) hx hb dX11_take_35 (by decide) ?_
      obtain ⟨hin6, hm⟩ := gIn_some hm
      obtain ⟨h5, eh5, hm⟩ := mlet_some hm
      refine ist X hH lM_15 hin6 dX11_take_37 (fun H locs hH => ?_)
      rw [← eh5] at hH
      refine lv_iload_n hx hb dX11_take_38 rfl (lv_at hl 0 rfl) ?_
      cases hm
      exact retI X hH dX11_take_39
    · rw [if_pos hc] at hm
      refine lv_bipush (v := (-2)) hx hb dX11_take_23 (by decide) ?_
      cases hm
      exact retI X hH dX11_take_25
  · rw [if_pos hc] at hm
    refine lv_iconst (v := (-1)) hx hb dX11_take_8 (by decide) ?_
    cases hm
    exact retI X hH dX11_take_9
/-! X11_undo -/
def mX11_undo_22 : Nat → Int32 → Mm → Option (Int32 × Mm)
  | 0, _, _ => none
  | n + 1, x1, h => if (32 : Int32) ≤ x1 then (some ((h 0 19), h)) else (gIn (((32 : Int32) * (h 0 19)) + x1) 192 (gIn x1 32 (mlet (wr h 15 x1.toNatClampNeg (h 16 (((32 : Int32) * (h 0 19)) + x1).toNatClampNeg)) (fun h2 => mX11_undo_22 n (x1 + 1) h2))))
set_option maxRecDepth 4000 in
theorem wX11_undo_22 {p : Program} {l : Launch} {e : Env} {s : State} {m : MethodId} {args : Array Value} {below : List Frame} {meth : Method} {c : Code} {D : va_G} {ad : Nat → Nat} {ac : Nat → ClassId} {r : Int32} {h' : Mm} (X : Fx p s m args meth c cX11_undo 2 RX11 (some .int) D ad ac LM []) : ∀ (n : Nat) (x1 : Int32) (h : Mm) (H : Heap) (locs : List Loc) (ls : Array Slot), mX11_undo_22 n x1 h = some (r, h') → Hp D ad ac LM h s H locs → lv_has ls 2 [(0, .ref (ad 0)), (1, .int x1)] → W p l e (rmD 0) s m args below meth c H locs 0 0 (MQ below (QU D ad ac LM (some (.int r)) h' s.heap.size) args s 0 0 (Aa ad LM.length s.heap.size)) (F0 m 22 ls []) := by
  obtain ⟨hx, hb, hml, hown, hts, hr, hlk, hC, hI, hR⟩ := id X
  intro n
  induction n with
  | zero => intro x1 h H locs ls hm; rw [mX11_undo_22] at hm; cases hm
  | succ n ih =>
    intro x1 h H locs ls hm hH hl
    rw [mX11_undo_22] at hm
    refine lv_iload_n hx hb dX11_undo_22 rfl (lv_at hl 1 rfl) ?_
    refine lv_bipush (v := 32) hx hb dX11_undo_23 (by decide) ?_
    refine lv_icmp_ge hx hb dX11_undo_25 (tgt := 54) (by decide) (fun hc => ?_) (fun hc => ?_)
    · rw [if_pos hc] at hm
      refine lv_aload_n hx hb dX11_undo_54 rfl (lv_at hl 0 rfl) ?_
      refine gI X hH fl_X11_135 lM_0 rfl dX11_undo_55 ?_
      cases hm
      exact retI X hH dX11_undo_58
    · rw [if_neg hc] at hm
      refine lv_aload_n hx hb dX11_undo_28 rfl (lv_at hl 0 rfl) ?_
      refine gR X hH fl_X11_52 lM_0 rfl dX11_undo_29 ?_
      refine lv_iload_n hx hb dX11_undo_32 rfl (lv_at hl 1 rfl) ?_
      refine lv_aload_n hx hb dX11_undo_33 rfl (lv_at hl 0 rfl) ?_
      refine gR X hH fl_X11_55 lM_0 rfl dX11_undo_34 ?_
      refine lv_bipush (v := 32) hx hb dX11_undo_37 (by decide) ?_
      refine lv_aload_n hx hb dX11_undo_39 rfl (lv_at hl 0 rfl) ?_
      refine gI X hH fl_X11_135 lM_0 rfl dX11_undo_40 ?_
      refine lv_imul hx hb dX11_undo_43 ?_
      refine lv_iload_n hx hb dX11_undo_44 rfl (lv_at hl 1 rfl) ?_
      refine lv_iadd hx hb dX11_undo_45 ?_
      obtain ⟨hin1, hm⟩ := gIn_some hm
      refine ild X hH lM_16 hin1 dX11_undo_46 ?_
      obtain ⟨hin3, hm⟩ := gIn_some hm
      obtain ⟨h2, eh2, hm⟩ := mlet_some hm
      refine ist X hH lM_15 hin3 dX11_undo_47 (fun H locs hH => ?_)
      rw [← eh2] at hH
      refine lv_iinc (k := 1) (v := (x1 + 1)) (lv' := [(1, .int (x1 + 1)), (0, .ref (ad 0))]) hx hb dX11_undo_48 hl rfl rfl (by decide) rfl (fun ls hl => ?_)
      refine lv_goto hx hb dX11_undo_51 (tgt := 22) (by decide) ?_
      exact ih (x1 + 1) h2 _ _ _ hm hH (lv_sub hl [1, 0] rfl)
def mX11_undo (h : Mm) : Option (Int32 × Mm) := if (h 0 19) = 0 then (some ((-2 : Int32), h)) else (mlet (wr h 0 19 ((h 0 19) - (1 : Int32))) (fun h1 => mX11_undo_22 FU (0 : Int32) h1))
set_option maxRecDepth 4000 in
theorem mt_X11_undo {l : Launch} {D : va_G} {ad : Nat → Nat} {ac : Nat → ClassId} {h : Mm} {r : Int32} {h' : Mm} (hm : mX11_undo h = some (r, h')) : Mt l D ad ac LM [] yX11_undo cX11_undo 2 (some .int) 0 [.ref (ad 0)] h (some (.int r)) h' := by
  refine Mt.of (own := RX11) (by decide) rfl (Nat.le_of_ble_eq_true rfl) ?_
  intro p e s m below meth c ls X hH hl
  obtain ⟨hx, hb, hml, hown, hts, hr, hlk, hC, hI, hR⟩ := id X
  have hl : lv_has ls 2 [(0, .ref (ad 0))] := hl
  rw [mX11_undo] at hm
  refine lv_aload_n hx hb dX11_undo_0 rfl (lv_at hl 0 rfl) ?_
  refine gI X hH fl_X11_135 lM_0 rfl dX11_undo_1 ?_
  refine lv_if_ne hx hb dX11_undo_4 (tgt := 10) (by decide) (fun hc => ?_) (fun hc => ?_)
  · rw [if_neg hc] at hm
    refine lv_aload_n hx hb dX11_undo_10 rfl (lv_at hl 0 rfl) ?_
    refine lv_dup hx hb dX11_undo_11 rfl ?_
    refine gI X hH fl_X11_135 lM_0 rfl dX11_undo_12 ?_
    refine lv_iconst (v := 1) hx hb dX11_undo_15 (by decide) ?_
    refine lv_isub hx hb dX11_undo_16 ?_
    obtain ⟨h1, eh1, hm⟩ := mlet_some hm
    refine pI X hH fl_X11_135 fw_11_19 lM_0 rfl dX11_undo_17 (fun H locs hH => ?_)
    rw [← eh1] at hH
    refine lv_iconst (v := 0) hx hb dX11_undo_20 (by decide) ?_
    refine lv_istore_n (lv' := [(1, .int (0 : Int32)), (0, .ref (ad 0))]) hx hb dX11_undo_21 rfl hl (by decide) rfl (fun ls hl => ?_)
    exact wX11_undo_22 X FU (0 : Int32) h1 _ _ _ hm hH (lv_sub hl [1, 0] rfl)
  · rw [if_pos hc] at hm
    refine lv_bipush (v := (-2)) hx hb dX11_undo_7 (by decide) ?_
    cases hm
    exact retI X hH dX11_undo_9
/-! X11_why -/
def mX11_why (h : Mm) (a1 : Int32) (a2 : Int32) : Option Int32 := bd1 (mX11_isPass h a1) (fun v1 => if v1 = 0 then (some (-1 : Int32)) else (bd1 (mX11_isAntenna h a2) (fun v2 => if v2 = 0 then (some (-1 : Int32)) else (bd1 (mX11_whyNot h a1 a2) (fun v3 => some v3)))))
set_option maxRecDepth 4000 in
theorem mt_X11_why {l : Launch} {D : va_G} {ad : Nat → Nat} {ac : Nat → ClassId} {h : Mm} {a1 : Int32} {a2 : Int32} {r : Int32} (hm : mX11_why h a1 a2 = some r) : Mt l D ad ac LM [] yX11_why cX11_why 3 (some .int) 2 [.ref (ad 0), .int a1, .int a2] h (some (.int r)) h := by
  refine Mt.of (own := RX11) (by decide) rfl (Nat.le_of_ble_eq_true rfl) ?_
  intro p e s m below meth c ls X hH hl
  obtain ⟨hx, hb, hml, hown, hts, hr, hlk, hC, hI, hR⟩ := id X
  have hl : lv_has ls 3 [(0, .ref (ad 0)), (1, .int a1), (2, .int a2)] := hl
  rw [mX11_why] at hm
  refine lv_aload_n hx hb dX11_why_0 rfl (lv_at hl 0 rfl) ?_
  refine lv_iload_n hx hb dX11_why_1 rfl (lv_at hl 1 rfl) ?_
  obtain ⟨v1, hq, hm⟩ := bd1_some hm
  refine cVi X hH kl_X11_149 kv_X11_isPass (mt_X11_isPass hq) lM_0 rfl rfl (by decide) hl.1 rfl (Nat.le_of_ble_eq_true rfl) dX11_why_2 (fun H locs hH => ?_)
  refine lv_if_eq hx hb dX11_why_5 (tgt := 25) (by decide) (fun hc => ?_) (fun hc => ?_)
  · rw [if_pos hc] at hm
    refine lv_iconst (v := (-1)) hx hb dX11_why_25 (by decide) ?_
    cases hm
    exact retI X hH dX11_why_26
  · rw [if_neg hc] at hm
    refine lv_aload_n hx hb dX11_why_8 rfl (lv_at hl 0 rfl) ?_
    refine lv_iload_n hx hb dX11_why_9 rfl (lv_at hl 2 rfl) ?_
    obtain ⟨v2, hq, hm⟩ := bd1_some hm
    refine cVi X hH kl_X11_144 kv_X11_isAntenna (mt_X11_isAntenna hq) lM_0 rfl rfl (by decide) hl.1 rfl (Nat.le_of_ble_eq_true rfl) dX11_why_10 (fun H locs hH => ?_)
    refine lv_if_eq hx hb dX11_why_13 (tgt := 25) (by decide) (fun hc => ?_) (fun hc => ?_)
    · rw [if_pos hc] at hm
      refine lv_iconst (v := (-1)) hx hb dX11_why_25 (by decide) ?_
      cases hm
      exact retI X hH dX11_why_26
    · rw [if_neg hc] at hm
      refine lv_aload_n hx hb dX11_why_16 rfl (lv_at hl 0 rfl) ?_
      refine lv_iload_n hx hb dX11_why_17 rfl (lv_at hl 1 rfl) ?_
      refine lv_iload_n hx hb dX11_why_18 rfl (lv_at hl 2 rfl) ?_
      obtain ⟨v3, hq, hm⟩ := bd1_some hm
      refine cVi X hH kl_X11_165 kv_X11_whyNot (mt_X11_whyNot hq) lM_0 rfl rfl (by decide) hl.1 rfl (Nat.le_of_ble_eq_true rfl) dX11_why_19 (fun H locs hH => ?_)
      refine lv_goto hx hb dX11_why_22 (tgt := 26) (by decide) ?_
      cases hm
      exact retI X hH dX11_why_26
/-! X11_wipe -/
def mX11_wipe (h : Mm) : Option (Int32 × Mm) := mlet (h 0 0) (fun u1 => mlet (wr h 0 0 (0 : Int32)) (fun h2 => some (u1, h2)))
set_option maxRecDepth 4000 in
theorem mt_X11_wipe {l : Launch} {D : va_G} {ad : Nat → Nat} {ac : Nat → ClassId} {h : Mm} {r : Int32} {h' : Mm} (hm : mX11_wipe h = some (r, h')) : Mt l D ad ac LM [] yX11_wipe cX11_wipe 2 (some .int) 0 [.ref (ad 0)] h (some (.int r)) h' := by
  refine Mt.of (own := RX11) (by decide) rfl (Nat.le_of_ble_eq_true rfl) ?_
  intro p e s m below meth c ls X hH hl
  obtain ⟨hx, hb, hml, hown, hts, hr, hlk, hC, hI, hR⟩ := id X
  have hl : lv_has ls 2 [(0, .ref (ad 0))] := hl
  rw [mX11_wipe] at hm
  refine lv_aload_n hx hb dX11_wipe_0 rfl (lv_at hl 0 rfl) ?_
  refine gI X hH fl_X11_97 lM_0 rfl dX11_wipe_1 ?_
  obtain ⟨u1, eu1, hm⟩ := mlet_some hm
  refine W.eq (g2 := F0 m 4 ls (.int u1 :: [])) (by rw [eu1]) ?_
  refine lv_istore_n (lv' := [(1, .int u1), (0, .ref (ad 0))]) hx hb dX11_wipe_4 rfl hl (by decide) rfl (fun ls hl => ?_)
  refine lv_aload_n hx hb dX11_wipe_5 rfl (lv_at hl 1 rfl) ?_
  refine lv_iconst (v := 0) hx hb dX11_wipe_6 (by decide) ?_
  obtain ⟨h2, eh2, hm⟩ := mlet_some hm
  refine pI X hH fl_X11_97 fw_11_0 lM_0 rfl dX11_wipe_7 (fun H locs hH => ?_)
  rw [← eh2] at hH
  refine lv_iload_n hx hb dX11_wipe_10 rfl (lv_at hl 0 rfl) ?_
  cases hm
  exact retI X hH dX11_wipe_11
/-! X11_write -/
def mX11_write (h : Mm) (a1 : Int32) : Option (Int32 × Mm) := bd1 (mX11_in h a1.toInt64 (32 : Int64) (126 : Int64)) (fun v1 => if v1 = 0 then (some ((-1 : Int32), h)) else (if (h 0 0) = (200 : Int32) then (some ((-3 : Int32), h)) else (gIn (h 0 0) 200 (mlet (wr h 1 (h 0 0).toNatClampNeg a1) (fun h2 => mlet (wr h2 0 0 ((h2 0 0) + (1 : Int32))) (fun h4 => some ((h4 0 0), h4)))))))
set_option maxRecDepth 4000 in
theorem mt_X11_write {l : Launch} {D : va_G} {ad : Nat → Nat} {ac : Nat → ClassId} {h : Mm} {a1 : Int32} {r : Int32} {h' : Mm} (hm : mX11_write h a1 = some (r, h')) : Mt l D ad ac LM [] yX11_write cX11_write 2 (some .int) 1 [.ref (ad 0), .int a1] h (some (.int r)) h' := by
  refine Mt.of (own := RX11) (by decide) rfl (Nat.le_of_ble_eq_true rfl) ?_
  intro p e s m below meth c ls X hH hl
  obtain ⟨hx, hb, hml, hown, hts, hr, hlk, hC, hI, hR⟩ := id X
  have hl : lv_has ls 2 [(0, .ref (ad 0)), (1, .int a1)] := hl
  rw [mX11_write] at hm
  refine lv_iload_n hx hb dX11_write_0 rfl (lv_at hl 1 rfl) ?_
  refine lv_i2l hx hb dX11_write_1 rfl ?_
  refine lv_ldc2 hx hb hown (hts _ kc_X11_89) dX11_write_2 ?_
  refine lv_ldc2 hx hb hown (hts _ kc_X11_91) dX11_write_5 ?_
  obtain ⟨v1, hq, hm⟩ := bd1_some hm
  refine cSi (As := [.long a1.toInt64, .long (32 : Int64), .long (126 : Int64)]) X hH kl_X11_93 ks_X11_in (mt_X11_in hq) rfl (by decide) hl.1 rfl (Nat.le_of_ble_eq_true rfl) dX11_write_8 (fun H locs hH => ?_)
  refine lv_if_ne hx hb dX11_write_11 (tgt := 16) (by decide) (fun hc => ?_) (fun hc => ?_)
  · rw [if_neg hc] at hm
    refine lv_aload_n hx hb dX11_write_16 rfl (lv_at hl 0 rfl) ?_
    refine gI X hH fl_X11_97 lM_0 rfl dX11_write_17 ?_
    refine lv_sipush (v := 200) hx hb dX11_write_20 (by decide) ?_
    refine lv_icmp_ne hx hb dX11_write_23 (tgt := 29) (by decide) (fun hc => ?_) (fun hc => ?_)
    · rw [if_neg hc] at hm
      refine lv_aload_n hx hb dX11_write_29 rfl (lv_at hl 0 rfl) ?_
      refine gR X hH fl_X11_7 lM_0 rfl dX11_write_30 ?_
      refine lv_aload_n hx hb dX11_write_33 rfl (lv_at hl 0 rfl) ?_
      refine gI X hH fl_X11_97 lM_0 rfl dX11_write_34 ?_
      refine lv_iload_n hx hb dX11_write_37 rfl (lv_at hl 1 rfl) ?_
      obtain ⟨hin3, hm⟩ := gIn_some hm
      obtain ⟨h2, eh2, hm⟩ := mlet_some hm
      refine ist X hH lM_1 hin3 dX11_write_38 (fun H locs hH => ?_)
      rw [← eh2] at hH
      refine lv_aload_n hx hb dX11_write_39 rfl (lv_at hl 0 rfl) ?_
      refine lv_dup hx hb dX11_write_40 rfl ?_
      refine gI X hH fl_X11_97 lM_0 rfl dX11_write_41 ?_
      refine lv_iconst (v := 1) hx hb dX11_write_44 (by decide) ?_
      refine lv_iadd hx hb dX11_write_45 ?_
      obtain ⟨h4, eh4, hm⟩ := mlet_some hm
      refine pI X hH fl_X11_97 fw_11_0 lM_0 rfl dX11_write_46 (fun H locs hH => ?_)
      rw [← eh4] at hH
      refine lv_aload_n hx hb dX11_write_49 rfl (lv_at hl 0 rfl) ?_
      refine gI X hH fl_X11_97 lM_0 rfl dX11_write_50 ?_
      cases hm
      exact retI X hH dX11_write_53
    · rw [if_pos hc] at hm
      refine lv_bipush (v := (-3)) hx hb dX11_write_26 (by decide) ?_
      cases hm
      exact retI X hH dX11_write_28
  · rw [if_pos hc] at hm
    refine lv_iconst (v := (-1)) hx hb dX11_write_14 (by decide) ?_
    cases hm
    exact retI X hH dX11_write_15
/-! X2_number_49 -/
def mX2_number_49 (h : Mm) (a1 : Int32) (a2 : Int32) : Option Int32 := gIn a1 4 (gIn a2 5 (some (h (51 + a1.toNatClampNeg) a2.toNatClampNeg)))
set_option maxRecDepth 4000 in
theorem mt_X2_number_49 {l : Launch} {D : va_G} {ad : Nat → Nat} {ac : Nat → ClassId} {L : List CD} {h : Mm} {a1 : Int32} {a2 : Int32} {r : Int32} (lk : LkC L) (hm : mX2_number_49 h a1 a2 = some r) : Mt l D ad ac L rlC yX2_number cX2_number 3 (some .int) 0 [.ref (ad 49), .int a1, .int a2] h (some (.int r)) h := by
  refine Mt.of (own := RX2) (by decide) rfl (Nat.le_of_ble_eq_true rfl) ?_
  intro p e s m below meth c ls X hH hl
  obtain ⟨hx, hb, hml, hown, hts, hr, hlk, hC, hI, hR⟩ := id X
  have hl : lv_has ls 3 [(0, .ref (ad 49)), (1, .int a1), (2, .int a2)] := hl
  rw [mX2_number_49] at hm
  refine lv_aload_n hx hb dX2_number_0 rfl (lv_at hl 0 rfl) ?_
  refine gR X hH fl_X2_18 (lk 49 _ (by decide) (by decide) lC_49) rfl dX2_number_1 ?_
  refine lv_iload_n hx hb dX2_number_4 rfl (lv_at hl 1 rfl) ?_
  obtain ⟨hin1, hm⟩ := gIn_some hm
  refine ald X hH (lk 50 _ (by decide) (by decide) lC_50) (Or.inr rfl) (fun q => hin1 (Or.inl q)) (gk_50 hin1) dX2_number_5 ?_
  refine lv_iload_n hx hb dX2_number_6 rfl (lv_at hl 2 rfl) ?_
  obtain ⟨hin2, hm⟩ := gIn_some hm
  refine ild X hH (lk _ _ (by omega) (by omega) (gl_50 (vp_lt hin1))) hin2 dX2_number_7 ?_
  cases hm
  exact retI X hH dX2_number_8
/-! X2_number_55 -/
def mX2_number_55 (h : Mm) (a1 : Int32) (a2 : Int32) : Option Int32 := gIn a1 3 (gIn a2 2 (some (h (57 + a1.toNatClampNeg) a2.toNatClampNeg)))
set_option maxRecDepth 4000 in
theorem mt_X2_number_55 {l : Launch} {D : va_G} {ad : Nat → Nat} {ac : Nat → ClassId} {L : List CD} {h : Mm} {a1 : Int32} {a2 : Int32} {r : Int32} (lk : LkC L) (hm : mX2_number_55 h a1 a2 = some r) : Mt l D ad ac L rlC yX2_number cX2_number 3 (some .int) 0 [.ref (ad 55), .int a1, .int a2] h (some (.int r)) h := by
  refine Mt.of (own := RX2) (by decide) rfl (Nat.le_of_ble_eq_true rfl) ?_
  intro p e s m below meth c ls X hH hl
  obtain ⟨hx, hb, hml, hown, hts, hr, hlk, hC, hI, hR⟩ := id X
  have hl : lv_has ls 3 [(0, .ref (ad 55)), (1, .int a1), (2, .int a2)] := hl
  rw [mX2_number_55] at hm
  refine lv_aload_n hx hb dX2_number_0 rfl (lv_at hl 0 rfl) ?_
  refine gR X hH fl_X2_18 (lk 55 _ (by decide) (by decide) lC_55) rfl dX2_number_1 ?_
  refine lv_iload_n hx hb dX2_number_4 rfl (lv_at hl 1 rfl) ?_
  obtain ⟨hin1, hm⟩ := gIn_some hm
  refine ald X hH (lk 56 _ (by decide) (by decide) lC_56) (Or.inr rfl) (fun q => hin1 (Or.inl q)) (gk_56 hin1) dX2_number_5 ?_
  refine lv_iload_n hx hb dX2_number_6 rfl (lv_at hl 2 rfl) ?_
  obtain ⟨hin2, hm⟩ := gIn_some hm
  refine ild X hH (lk _ _ (by omega) (by omega) (gl_56 (vp_lt hin1))) hin2 dX2_number_7 ?_
  cases hm
  exact retI X hH dX2_number_8
/-! X7_sees_48 -/
def mX7_sees_48 (h : Mm) (a1 : Int32) (a2 : Int32) (a3 : Int32) : Option Int32 := bd1 (mX2_number_49 h a1 (1 : Int32)) (fun v1 => bd1 (mX2_number_49 h a1 (0 : Int32)) (fun v2 => bd1 (mX2_number_55 h a2 (0 : Int32)) (fun v3 => mlet ((a3 - v2) - v3) (fun u4 => if v1 ≤ 0 then (some (0 : Int32)) else (bd1 (mJ9_floorMod_7cf53 h u4 v1) (fun v5 => bd1 (mX2_number_55 h a2 (1 : Int32)) (fun v6 => if v6 ≤ v5 then (some (0 : Int32)) else (some (1 : Int32)))))))))
set_option maxRecDepth 4000 in
theorem mt_X7_sees_48 {l : Launch} {D : va_G} {ad : Nat → Nat} {ac : Nat → ClassId} {L : List CD} {h : Mm} {a1 : Int32} {a2 : Int32} {a3 : Int32} {r : Int32} (lk : LkC L) (hm : mX7_sees_48 h a1 a2 a3 = some r) : Mt l D ad ac L rlC yX7_sees cX7_sees 6 (some .boolean) 1 [.ref (ad 48), .int a1, .int a2, .int a3] h (some (.int r)) h := by
  refine Mt.of (own := RX7) (by decide) rfl (Nat.le_of_ble_eq_true rfl) ?_
  intro p e s m below meth c ls X hH hl
  obtain ⟨hx, hb, hml, hown, hts, hr, hlk, hC, hI, hR⟩ := id X
  have hl : lv_has ls 6 [(0, .ref (ad 48)), (1, .int a1), (2, .int a2), (3, .int a3)] := hl
  rw [mX7_sees_48] at hm
  refine lv_aload_n hx hb dX7_sees_0 rfl (lv_at hl 0 rfl) ?_
  refine gR X hH fl_X7_21 (lk 48 _ (by decide) (by decide) lC_48) rfl dX7_sees_1 ?_
  refine lv_iload_n hx hb dX7_sees_4 rfl (lv_at hl 1 rfl) ?_
  refine lv_iconst (v := 1) hx hb dX7_sees_5 (by decide) ?_
  obtain ⟨v1, hq, hm⟩ := bd1_some hm
  refine cVi X hH kl_X7_94 kv_X2_number (mt_X2_number_49 lk hq) (lk 49 _ (by decide) (by decide) lC_49) rfl rfl (by decide) hl.1 rfl (Nat.le_of_ble_eq_true rfl) dX7_sees_6 (fun H locs hH => ?_)
  refine lv_istore (lv' := [(4, .int v1), (0, .ref (ad 48)), (1, .int a1), (2, .int a2), (3, .int a3)]) hx hb dX7_sees_9 hl (by decide) rfl (fun ls hl => ?_)
  refine lv_iload_n hx hb dX7_sees_11 rfl (lv_at hl 4 rfl) ?_
  refine lv_aload_n hx hb dX7_sees_12 rfl (lv_at hl 1 rfl) ?_
  refine gR X hH fl_X7_21 (lk 48 _ (by decide) (by decide) lC_48) rfl dX7_sees_13 ?_
  refine lv_iload_n hx hb dX7_sees_16 rfl (lv_at hl 2 rfl) ?_
  refine lv_iconst (v := 0) hx hb dX7_sees_17 (by decide) ?_
  obtain ⟨v2, hq, hm⟩ := bd1_some hm
  refine cVi X hH kl_X7_94 kv_X2_number (mt_X2_number_49 lk hq) (lk 49 _ (by decide) (by decide) lC_49) rfl rfl (by decide) hl.1 rfl (Nat.le_of_ble_eq_true rfl) dX7_sees_18 (fun H locs hH => ?_)
  refine lv_isub hx hb dX7_sees_21 ?_
  refine lv_aload_n hx hb dX7_sees_22 rfl (lv_at hl 1 rfl) ?_
  refine gR X hH fl_X7_33 (lk 48 _ (by decide) (by decide) lC_48) rfl dX7_sees_23 ?_
  refine lv_iload_n hx hb dX7_sees_26 rfl (lv_at hl 3 rfl) ?_
  refine lv_iconst (v := 0) hx hb dX7_sees_27 (by decide) ?_
  obtain ⟨v3, hq, hm⟩ := bd1_some hm
  refine cVi X hH kl_X7_94 kv_X2_number (mt_X2_number_55 lk hq) (lk 55 _ (by decide) (by decide) lC_55) rfl rfl (by decide) hl.1 rfl (Nat.le_of_ble_eq_true rfl) dX7_sees_28 (fun H locs hH => ?_)
  refine lv_isub hx hb dX7_sees_31 ?_
  obtain ⟨u4, eu4, hm⟩ := mlet_some hm
  refine W.eq (g2 := F0 m 32 ls (.int u4 :: [])) (by rw [eu4]) ?_
  refine lv_istore (lv' := [(5, .int u4), (4, .int v1), (0, .ref (ad 48)), (1, .int a1), (2, .int a2), (3, .int a3)]) hx hb dX7_sees_32 hl (by decide) rfl (fun ls hl => ?_)
  refine lv_iload hx hb dX7_sees_34 (lv_at hl 1 rfl) ?_
  refine lv_if_le hx hb dX7_sees_36 (tgt := 62) (by decide) (fun hc => ?_) (fun hc => ?_)
  · rw [if_pos hc] at hm
    refine lv_iconst (v := 0) hx hb dX7_sees_62 (by decide) ?_
    cases hm
    exact retZ X hH rfl dX7_sees_63
  · rw [if_neg hc] at hm
    refine lv_iload hx hb dX7_sees_39 (lv_at hl 0 rfl) ?_
    refine lv_iload hx hb dX7_sees_41 (lv_at hl 1 rfl) ?_
    obtain ⟨v5, hq, hm⟩ := bd1_some hm
    refine cSi (As := [.int u4, .int v1]) X hH kl_X7_97 ks_J9_floorMod_7cf53 (mt_J9_floorMod_7cf53 hq) rfl (by decide) hl.1 rfl (Nat.le_of_ble_eq_true rfl) dX7_sees_43 (fun H locs hH => ?_)
    refine lv_aload_n hx hb dX7_sees_46 rfl (lv_at hl 2 rfl) ?_
    refine gR X hH fl_X7_33 (lk 48 _ (by decide) (by decide) lC_48) rfl dX7_sees_47 ?_
    refine lv_iload_n hx hb dX7_sees_50 rfl (lv_at hl 4 rfl) ?_
    refine lv_iconst (v := 1) hx hb dX7_sees_51 (by decide) ?_
    obtain ⟨v6, hq, hm⟩ := bd1_some hm
    refine cVi X hH kl_X7_94 kv_X2_number (mt_X2_number_55 lk hq) (lk 55 _ (by decide) (by decide) lC_55) rfl rfl (by decide) hl.1 rfl (Nat.le_of_ble_eq_true rfl) dX7_sees_52 (fun H locs hH => ?_)
    refine lv_icmp_ge hx hb dX7_sees_55 (tgt := 62) (by decide) (fun hc => ?_) (fun hc => ?_)
    · rw [if_pos hc] at hm
      refine lv_iconst (v := 0) hx hb dX7_sees_62 (by decide) ?_
      cases hm
      exact retZ X hH rfl dX7_sees_63
    · rw [if_neg hc] at hm
      refine lv_iconst (v := 1) hx hb dX7_sees_58 (by decide) ?_
      refine lv_goto hx hb dX7_sees_59 (tgt := 63) (by decide) ?_
      cases hm
      exact retZ X hH rfl dX7_sees_63
/-! X5_append -/
def mX5_append_137 : Nat → Int32 → Int32 → Mm → Option Mm
  | 0, _, _, _ => none
  | n + 1, x5, x6, h => gIn x5 24 (if (h 6 x5.toNatClampNeg) < x6 then (mlet (wr h 4 6 ((h 4 6) + (1 : Int32))) (fun h2 => some h2)) else (gIn x5 24 (bd1 (mX5_rateIn h x5 x6) (fun v4 => gIn x5 24 (mlet (wr h 9 x5.toNatClampNeg ((h 9 x5.toNatClampNeg) + v4)) (fun h5 => mX5_append_137 n x5 (x6 + 1) h5))))))
set_option maxRecDepth 4000 in
theorem wX5_append_137 {p : Program} {l : Launch} {e : Env} {s : State} {m : MethodId} {args : Array Value} {below : List Frame} {meth : Method} {c : Code} {D : va_G} {ad : Nat → Nat} {ac : Nat → ClassId} {L : List CD} {h' : Mm} (X : Fx p s m args meth c cX5_append 7 RX5 none D ad ac L rlC) (lk : LkC L) : ∀ (n : Nat) (x5 : Int32) (x6 : Int32) (h : Mm) (H : Heap) (locs : List Loc) (ls : Array Slot), mX5_append_137 n x5 x6 h = some h' → Hp D ad ac L h s H locs → lv_has ls 7 [(0, .ref (ad 4)), (5, .int x5), (6, .int x6)] → W p l e (rmD 2) s m args below meth c H locs 0 0 (MQ below (QU D ad ac L none h' s.heap.size) args s 0 0 (Aa ad L.length s.heap.size)) (F0 m 137 ls []) := by
  obtain ⟨hx, hb, hml, hown, hts, hr, hlk, hC, hI, hR⟩ := id X
  intro n
  induction n with
  | zero => intro x5 x6 h H locs ls hm; rw [mX5_append_137] at hm; cases hm
  | succ n ih =>
    intro x5 x6 h H locs ls hm hH hl
    rw [mX5_append_137] at hm
    refine lv_iload hx hb dX5_append_137 (lv_at hl 2 rfl) ?_
    refine lv_aload_n hx hb dX5_append_139 rfl (lv_at hl 0 rfl) ?_
    refine gR X hH fl_X5_15 (lk 4 _ (by decide) (by decide) lC_4) rfl dX5_append_140 ?_
    refine lv_iload hx hb dX5_append_143 (lv_at hl 1 rfl) ?_
    obtain ⟨hin1, hm⟩ := gIn_some hm
    refine ild X hH (lk 6 _ (by decide) (by decide) lC_6) hin1 dX5_append_145 ?_
    refine lv_icmp_gt hx hb dX5_append_146 (tgt := 173) (by decide) (fun hc => ?_) (fun hc => ?_)
    · rw [if_pos hc] at hm
      refine lv_aload_n hx hb dX5_append_173 rfl (lv_at hl 0 rfl) ?_
      refine lv_dup hx hb dX5_append_174 rfl ?_
      refine gI X hH fl_X5_30 (lk 4 _ (by decide) (by decide) lC_4) rfl dX5_append_175 ?_
      refine lv_iconst (v := 1) hx hb dX5_append_178 (by decide) ?_
      refine lv_iadd hx hb dX5_append_179 ?_
      obtain ⟨h2, eh2, hm⟩ := mlet_some hm
      refine pI X hH fl_X5_30 fw_5_6 (lk 4 _ (by decide) (by decide) lC_4) rfl dX5_append_180 (fun H locs hH => ?_)
      rw [← eh2] at hH
      cases hm
      exact retV X hH dX5_append_183
    · rw [if_neg hc] at hm
      refine lv_aload_n hx hb dX5_append_149 rfl (lv_at hl 0 rfl) ?_
      refine gR X hH fl_X5_24 (lk 4 _ (by decide) (by decide) lC_4) rfl dX5_append_150 ?_
      refine lv_iload hx hb dX5_append_153 (lv_at hl 1 rfl) ?_
      refine lv_dup2_11 hx hb dX5_append_155 rfl rfl ?_
      obtain ⟨hin3, hm⟩ := gIn_some hm
      refine ild X hH (lk 9 _ (by decide) (by decide) lC_9) hin3 dX5_append_156 ?_
      refine lv_aload_n hx hb dX5_append_157 rfl (lv_at hl 0 rfl) ?_
      refine lv_iload hx hb dX5_append_158 (lv_at hl 1 rfl) ?_
      refine lv_iload hx hb dX5_append_160 (lv_at hl 2 rfl) ?_
      obtain ⟨v4, hq, hm⟩ := bd1_some hm
      refine cVi X hH kl_X5_60 kv_X5_rateIn (mt_X5_rateIn lk hq) (lk 4 _ (by decide) (by decide) lC_4) rfl rfl (by decide) hl.1 rfl (Nat.le_of_ble_eq_true rfl) dX5_append_162 (fun H locs hH => ?_)
      refine lv_iadd hx hb dX5_append_165 ?_
      obtain ⟨hin6, hm⟩ := gIn_some hm
      obtain ⟨h5, eh5, hm⟩ := mlet_some hm
      refine ist X hH (lk 9 _ (by decide) (by decide) lC_9) hin6 dX5_append_166 (fun H locs hH => ?_)
      rw [← eh5] at hH
      refine lv_iinc (k := 2) (v := (x6 + 1)) (lv' := [(6, .int (x6 + 1)), (0, .ref (ad 4)), (5, .int x5)]) hx hb dX5_append_167 hl rfl rfl (by decide) rfl (fun ls hl => ?_)
      refine lv_goto hx hb dX5_append_170 (tgt := 137) (by decide) ?_
      exact ih x5 (x6 + 1) h5 _ _ _ hm hH (lv_sub hl [1, 2, 0] rfl)
def mX5_append_119 (x5 : Int32) (t0 : Int32) (t1 : Int32) (h : Mm) : Option Mm := gIn t1 24 (mlet (wr h 10 t1.toNatClampNeg t0) (fun h1 => gIn x5 24 (mlet (wr h1 9 x5.toNatClampNeg (0 : Int32)) (fun h3 => gIn x5 24 (mlet (h3 5 x5.toNatClampNeg) (fun u6 => mX5_append_137 FU x5 u6 h3))))))
set_option maxRecDepth 4000 in
theorem wX5_append_119 {p : Program} {l : Launch} {e : Env} {s : State} {m : MethodId} {args : Array Value} {below : List Frame} {meth : Method} {c : Code} {D : va_G} {ad : Nat → Nat} {ac : Nat → ClassId} {L : List CD} {h' : Mm} (X : Fx p s m args meth c cX5_append 7 RX5 none D ad ac L rlC) (lk : LkC L) : ∀ (x5 : Int32) (t0 : Int32) (t1 : Int32) (h : Mm) (H : Heap) (locs : List Loc) (ls : Array Slot), mX5_append_119 x5 t0 t1 h = some h' → Hp D ad ac L h s H locs → lv_has ls 7 [(0, .ref (ad 4)), (5, .int x5)] → W p l e (rmD 2) s m args below meth c H locs 0 0 (MQ below (QU D ad ac L none h' s.heap.size) args s 0 0 (Aa ad L.length s.heap.size)) (F0 m 119 ls [.int t0, .int t1, .ref (ad 10)]) := by
  obtain ⟨hx, hb, hml, hown, hts, hr, hlk, hC, hI, hR⟩ := id X
  intro x5 t0 t1 h H locs ls hm hH hl
  rw [mX5_append_119] at hm
  obtain ⟨hin2, hm⟩ := gIn_some hm
  obtain ⟨h1, eh1, hm⟩ := mlet_some hm
  refine ist X hH (lk 10 _ (by decide) (by decide) lC_10) hin2 dX5_append_119 (fun H locs hH => ?_)
  rw [← eh1] at hH
  refine lv_aload_n hx hb dX5_append_120 rfl (lv_at hl 0 rfl) ?_
  refine gR X hH fl_X5_24 (lk 4 _ (by decide) (by decide) lC_4) rfl dX5_append_121 ?_
  refine lv_iload hx hb dX5_append_124 (lv_at hl 1 rfl) ?_
  refine lv_iconst (v := 0) hx hb dX5_append_126 (by decide) ?_
  obtain ⟨hin4, hm⟩ := gIn_some hm
  obtain ⟨h3, eh3, hm⟩ := mlet_some hm
  refine ist X hH (lk 9 _ (by decide) (by decide) lC_9) hin4 dX5_append_127 (fun H locs hH => ?_)
  rw [← eh3] at hH
  refine lv_aload_n hx hb dX5_append_128 rfl (lv_at hl 0 rfl) ?_
  refine gR X hH fl_X5_9 (lk 4 _ (by decide) (by decide) lC_4) rfl dX5_append_129 ?_
  refine lv_iload hx hb dX5_append_132 (lv_at hl 1 rfl) ?_
  obtain ⟨hin5, hm⟩ := gIn_some hm
  refine ild X hH (lk 5 _ (by decide) (by decide) lC_5) hin5 dX5_append_134 ?_
  obtain ⟨u6, eu6, hm⟩ := mlet_some hm
  refine W.eq (g2 := F0 m 135 ls (.int u6 :: [])) (by rw [eu6]) ?_
  refine lv_istore (lv' := [(6, .int u6), (0, .ref (ad 4)), (5, .int x5)]) hx hb dX5_append_135 hl (by decide) rfl (fun ls hl => ?_)
  exact wX5_append_137 X lk FU x5 u6 h3 _ _ _ hm hH (lv_sub hl [1, 2, 0] rfl)
def mX5_append_80 (x2 : Int32) (x3 : Int32) (x5 : Int32) (h : Mm) : Option Mm := gIn x5 24 (mlet (wr h 7 x5.toNatClampNeg x2) (fun h1 => gIn x5 24 (mlet (wr h1 8 x5.toNatClampNeg x3) (fun h3 => bd1 (mX2_number_49 h3 x2 (2 : Int32)) (fun v5 => if v5 = 0 then (mX5_append_119 x5 (2 : Int32) x5 h3) else (mX5_append_119 x5 (3 : Int32) x5 h3))))))
set_option maxRecDepth 4000 in
theorem wX5_append_80 {p : Program} {l : Launch} {e : Env} {s : State} {m : MethodId} {args : Array Value} {below : List Frame} {meth : Method} {c : Code} {D : va_G} {ad : Nat → Nat} {ac : Nat → ClassId} {L : List CD} {h' : Mm} (X : Fx p s m args meth c cX5_append 7 RX5 none D ad ac L rlC) (lk : LkC L) : ∀ (x2 : Int32) (x3 : Int32) (x5 : Int32) (h : Mm) (H : Heap) (locs : List Loc) (ls : Array Slot), mX5_append_80 x2 x3 x5 h = some h' → Hp D ad ac L h s H locs → lv_has ls 7 [(0, .ref (ad 4)), (1, .ref (ad 48)), (2, .int x2), (3, .int x3), (5, .int x5)] → W p l e (rmD 2) s m args below meth c H locs 0 0 (MQ below (QU D ad ac L none h' s.heap.size) args s 0 0 (Aa ad L.length s.heap.size)) (F0 m 80 ls []) := by
  obtain ⟨hx, hb, hml, hown, hts, hr, hlk, hC, hI, hR⟩ := id X
  intro x2 x3 x5 h H locs ls hm hH hl
  rw [mX5_append_80] at hm
  refine lv_aload_n hx hb dX5_append_80 rfl (lv_at hl 0 rfl) ?_
  refine gR X hH fl_X5_18 (lk 4 _ (by decide) (by decide) lC_4) rfl dX5_append_81 ?_
  refine lv_iload hx hb dX5_append_84 (lv_at hl 4 rfl) ?_
  refine lv_iload_n hx hb dX5_append_86 rfl (lv_at hl 2 rfl) ?_
  obtain ⟨hin2, hm⟩ := gIn_some hm
  obtain ⟨h1, eh1, hm⟩ := mlet_some hm
  refine ist X hH (lk 7 _ (by decide) (by decide) lC_7) hin2 dX5_append_87 (fun H locs hH => ?_)
  rw [← eh1] at hH
  refine lv_aload_n hx hb dX5_append_88 rfl (lv_at hl 0 rfl) ?_
  refine gR X hH fl_X5_21 (lk 4 _ (by decide) (by decide) lC_4) rfl dX5_append_89 ?_
  refine lv_iload hx hb dX5_append_92 (lv_at hl 4 rfl) ?_
  refine lv_iload_n hx hb dX5_append_94 rfl (lv_at hl 3 rfl) ?_
  obtain ⟨hin4, hm⟩ := gIn_some hm
  obtain ⟨h3, eh3, hm⟩ := mlet_some hm
  refine ist X hH (lk 8 _ (by decide) (by decide) lC_8) hin4 dX5_append_95 (fun H locs hH => ?_)
  rw [← eh3] at hH
  refine lv_aload_n hx hb dX5_append_96 rfl (lv_at hl 0 rfl) ?_
  refine gR X hH fl_X5_27 (lk 4 _ (by decide) (by decide) lC_4) rfl dX5_append_97 ?_
  refine lv_iload hx hb dX5_append_100 (lv_at hl 4 rfl) ?_
  refine lv_aload_n hx hb dX5_append_102 rfl (lv_at hl 1 rfl) ?_
  refine gR X hH fl_X5_34 (lk 48 _ (by decide) (by decide) lC_48) rfl dX5_append_103 ?_
  refine lv_iload_n hx hb dX5_append_106 rfl (lv_at hl 2 rfl) ?_
  refine lv_iconst (v := 2) hx hb dX5_append_107 (by decide) ?_
  obtain ⟨v5, hq, hm⟩ := bd1_some hm
  refine cVi X hH kl_X5_56 kv_X2_number (mt_X2_number_49 lk hq) (lk 49 _ (by decide) (by decide) lC_49) rfl rfl (by decide) hl.1 rfl (Nat.le_of_ble_eq_true rfl) dX5_append_108 (fun H locs hH => ?_)
  refine lv_if_ne hx hb dX5_append_111 (tgt := 118) (by decide) (fun hc => ?_) (fun hc => ?_)
  · rw [if_neg hc] at hm
    refine lv_iconst (v := 3) hx hb dX5_append_118 (by decide) ?_
    exact wX5_append_119 X lk x5 (3 : Int32) x5 h3 _ _ _ hm hH (lv_sub hl [0, 4] rfl)
  · rw [if_pos hc] at hm
    refine lv_iconst (v := 2) hx hb dX5_append_114 (by decide) ?_
    refine lv_goto hx hb dX5_append_115 (tgt := 119) (by decide) ?_
    exact wX5_append_119 X lk x5 (2 : Int32) x5 h3 _ _ _ hm hH (lv_sub hl [0, 4] rfl)
def mX5_append_34 : Nat → Int32 → Int32 → Int32 → Mm → Option Mm
  | 0, _, _, _, _ => none
  | n + 1, x2, x3, x5, h => gIn x5 24 (if (60 : Int32) ≤ ((h 6 x5.toNatClampNeg) + (1 : Int32)) then (mX5_append_80 x2 x3 x5 h) else (gIn x5 24 (bd1 (mX7_sees_48 h x2 x3 ((h 6 x5.toNatClampNeg) + (1 : Int32))) (fun v3 => if v3 = 0 then (mX5_append_80 x2 x3 x5 h) else (gIn x5 24 (gIn x5 24 (mlet (wr h 6 x5.toNatClampNeg ((h 6 x5.toNatClampNeg) + (1 : Int32))) (fun h5 => mX5_append_34 n x2 x3 x5 h5))))))))
set_option maxRecDepth 4000 in
theorem wX5_append_34 {p : Program} {l : Launch} {e : Env} {s : State} {m : MethodId} {args : Array Value} {below : List Frame} {meth : Method} {c : Code} {D : va_G} {ad : Nat → Nat} {ac : Nat → ClassId} {L : List CD} {h' : Mm} (X : Fx p s m args meth c cX5_append 7 RX5 none D ad ac L rlC) (lk : LkC L) : ∀ (n : Nat) (x2 : Int32) (x3 : Int32) (x5 : Int32) (h : Mm) (H : Heap) (locs : List Loc) (ls : Array Slot), mX5_append_34 n x2 x3 x5 h = some h' → Hp D ad ac L h s H locs → lv_has ls 7 [(0, .ref (ad 4)), (1, .ref (ad 48)), (2, .int x2), (3, .int x3), (5, .int x5)] → W p l e (rmD 2) s m args below meth c H locs 0 0 (MQ below (QU D ad ac L none h' s.heap.size) args s 0 0 (Aa ad L.length s.heap.size)) (F0 m 34 ls []) := by
  obtain ⟨hx, hb, hml, hown, hts, hr, hlk, hC, hI, hR⟩ := id X
  intro n
  induction n with
  | zero => intro x2 x3 x5 h H locs ls hm; rw [mX5_append_34] at hm; cases hm
  | succ n ih =>
    intro x2 x3 x5 h H locs ls hm hH hl
    rw [mX5_append_34] at hm
    refine lv_aload_n hx hb dX5_append_34 rfl (lv_at hl 0 rfl) ?_
    refine gR X hH fl_X5_15 (lk 4 _ (by decide) (by decide) lC_4) rfl dX5_append_35 ?_
    refine lv_iload hx hb dX5_append_38 (lv_at hl 4 rfl) ?_
    obtain ⟨hin1, hm⟩ := gIn_some hm
    refine ild X hH (lk 6 _ (by decide) (by decide) lC_6) hin1 dX5_append_40 ?_
    refine lv_iconst (v := 1) hx hb dX5_append_41 (by decide) ?_
    refine lv_iadd hx hb dX5_append_42 ?_
    refine lv_bipush (v := 60) hx hb dX5_append_43 (by decide) ?_
    refine lv_icmp_ge hx hb dX5_append_45 (tgt := 80) (by decide) (fun hc => ?_) (fun hc => ?_)
    · rw [if_pos hc] at hm
      exact wX5_append_80 X lk x2 x3 x5 h _ _ _ hm hH (lv_sub hl [0, 1, 2, 3, 4] rfl)
    · rw [if_neg hc] at hm
      refine lv_aload_n hx hb dX5_append_48 rfl (lv_at hl 1 rfl) ?_
      refine lv_iload_n hx hb dX5_append_49 rfl (lv_at hl 2 rfl) ?_
      refine lv_iload_n hx hb dX5_append_50 rfl (lv_at hl 3 rfl) ?_
      refine lv_aload_n hx hb dX5_append_51 rfl (lv_at hl 0 rfl) ?_
      refine gR X hH fl_X5_15 (lk 4 _ (by decide) (by decide) lC_4) rfl dX5_append_52 ?_
      refine lv_iload hx hb dX5_append_55 (lv_at hl 4 rfl) ?_
      obtain ⟨hin2, hm⟩ := gIn_some hm
      refine ild X hH (lk 6 _ (by decide) (by decide) lC_6) hin2 dX5_append_57 ?_
      refine lv_iconst (v := 1) hx hb dX5_append_58 (by decide) ?_
      refine lv_iadd hx hb dX5_append_59 ?_
      obtain ⟨v3, hq, hm⟩ := bd1_some hm
      refine cVi X hH kl_X5_48 kv_X7_sees (mt_X7_sees_48 lk hq) (lk 48 _ (by decide) (by decide) lC_48) rfl rfl (by decide) hl.1 rfl (Nat.le_of_ble_eq_true rfl) dX5_append_60 (fun H locs hH => ?_)
      refine lv_if_eq hx hb dX5_append_63 (tgt := 80) (by decide) (fun hc => ?_) (fun hc => ?_)
      · rw [if_pos hc] at hm
        exact wX5_append_80 X lk x2 x3 x5 h _ _ _ hm hH (lv_sub hl [0, 1, 2, 3, 4] rfl)
      · rw [if_neg hc] at hm
        refine lv_aload_n hx hb dX5_append_66 rfl (lv_at hl 0 rfl) ?_
        refine gR X hH fl_X5_15 (lk 4 _ (by decide) (by decide) lC_4) rfl dX5_append_67 ?_
        refine lv_iload hx hb dX5_append_70 (lv_at hl 4 rfl) ?_
        refine lv_dup2_11 hx hb dX5_append_72 rfl rfl ?_
        obtain ⟨hin4, hm⟩ := gIn_some hm
        refine ild X hH (lk 6 _ (by decide) (by decide) lC_6) hin4 dX5_append_73 ?_
        refine lv_iconst (v := 1) hx hb dX5_append_74 (by decide) ?_
        refine lv_iadd hx hb dX5_append_75 ?_
        obtain ⟨hin6, hm⟩ := gIn_some hm
        obtain ⟨h5, eh5, hm⟩ := mlet_some hm
        refine ist X hH (lk 6 _ (by decide) (by decide) lC_6) hin6 dX5_append_76 (fun H locs hH => ?_)
        rw [← eh5] at hH
        refine lv_goto hx hb dX5_append_77 (tgt := 34) (by decide) ?_
        exact ih x2 x3 x5 h5 _ _ _ hm hH (lv_sub hl [0, 1, 2, 3, 4] rfl)
def mX5_append (h : Mm) (a2 : Int32) (a3 : Int32) (a4 : Int32) : Option Mm := if (h 4 6) < (24 : Int32) then (mlet (h 4 6) (fun u1 => gIn u1 24 (mlet (wr h 5 u1.toNatClampNeg a4) (fun h2 => gIn u1 24 (mlet (wr h2 6 u1.toNatClampNeg a4) (fun h4 => mX5_append_34 FU a2 a3 u1 h4)))))) else (some h)
set_option maxRecDepth 4000 in
theorem mt_X5_append {l : Launch} {D : va_G} {ad : Nat → Nat} {ac : Nat → ClassId} {L : List CD} {h : Mm} {a2 : Int32} {a3 : Int32} {a4 : Int32} {h' : Mm} (lk : LkC L) (hm : mX5_append h a2 a3 a4 = some h') : Mt l D ad ac L rlC yX5_append cX5_append 7 none 2 [.ref (ad 4), .ref (ad 48), .int a2, .int a3, .int a4] h none h' := by
  refine Mt.of (own := RX5) (by decide) rfl (Nat.le_of_ble_eq_true rfl) ?_
  intro p e s m below meth c ls X hH hl
  obtain ⟨hx, hb, hml, hown, hts, hr, hlk, hC, hI, hR⟩ := id X
  have hl : lv_has ls 7 [(0, .ref (ad 4)), (1, .ref (ad 48)), (2, .int a2), (3, .int a3), (4, .int a4)] := hl
  rw [mX5_append] at hm
  refine lv_aload_n hx hb dX5_append_0 rfl (lv_at hl 0 rfl) ?_
  refine gI X hH fl_X5_30 (lk 4 _ (by decide) (by decide) lC_4) rfl dX5_append_1 ?_
  refine lv_bipush (v := 24) hx hb dX5_append_4 (by decide) ?_
  refine lv_icmp_lt hx hb dX5_append_6 (tgt := 10) (by decide) (fun hc => ?_) (fun hc => ?_)
  · rw [if_pos hc] at hm
    refine lv_aload_n hx hb dX5_append_10 rfl (lv_at hl 0 rfl) ?_
    refine gI X hH fl_X5_30 (lk 4 _ (by decide) (by decide) lC_4) rfl dX5_append_11 ?_
    obtain ⟨u1, eu1, hm⟩ := mlet_some hm
    refine W.eq (g2 := F0 m 14 ls (.int u1 :: [])) (by rw [eu1]) ?_
    refine lv_istore (lv' := [(5, .int u1), (0, .ref (ad 4)), (1, .ref (ad 48)), (2, .int a2), (3, .int a3), (4, .int a4)]) hx hb dX5_append_14 hl (by decide) rfl (fun ls hl => ?_)
    refine lv_aload_n hx hb dX5_append_16 rfl (lv_at hl 1 rfl) ?_
    refine gR X hH fl_X5_9 (lk 4 _ (by decide) (by decide) lC_4) rfl dX5_append_17 ?_
    refine lv_iload hx hb dX5_append_20 (lv_at hl 0 rfl) ?_
    refine lv_iload hx hb dX5_append_22 (lv_at hl 5 rfl) ?_
    obtain ⟨hin3, hm⟩ := gIn_some hm
    obtain ⟨h2, eh2, hm⟩ := mlet_some hm
    refine ist X hH (lk 5 _ (by decide) (by decide) lC_5) hin3 dX5_append_24 (fun H locs hH => ?_)
    rw [← eh2] at hH
    refine lv_aload_n hx hb dX5_append_25 rfl (lv_at hl 1 rfl) ?_
    refine gR X hH fl_X5_15 (lk 4 _ (by decide) (by decide) lC_4) rfl dX5_append_26 ?_
    refine lv_iload hx hb dX5_append_29 (lv_at hl 0 rfl) ?_
    refine lv_iload hx hb dX5_append_31 (lv_at hl 5 rfl) ?_
    obtain ⟨hin5, hm⟩ := gIn_some hm
    obtain ⟨h4, eh4, hm⟩ := mlet_some hm
    refine ist X hH (lk 6 _ (by decide) (by decide) lC_6) hin5 dX5_append_33 (fun H locs hH => ?_)
    rw [← eh4] at hH
    exact wX5_append_34 X lk FU a2 a3 u1 h4 _ _ _ hm hH (lv_sub hl [1, 2, 3, 4, 0] rfl)
  · rw [if_neg hc] at hm
    cases hm
    exact retV X hH dX5_append_9
