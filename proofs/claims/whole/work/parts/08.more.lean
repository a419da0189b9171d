/-- a layout that is LC but for cells 0 and 3 (draft and the net's setting, whose setting changes while a text is laid) -/
def LkC (L : List CD) : Prop := ∀ (k : Nat) (d : CD), k ≠ 3 → k ≠ 0 → LC[k]? = some d → L[k]? = some d
theorem lkC : LkC LC := fun _ _ _ _ h => h
section CALLS3
variable {p : Program} {l : Launch} {e : Env} {s : State} {m : MethodId} {args : Array Value} {below : List Frame} {meth : Method} {c : Code} {H : Heap} {locs : List Loc} {Q : State → Prop}
variable {cc : ByteArray} {nL : Nat} {own : String} {ret : Option FieldType} {D : va_G} {ad : Nat → Nat} {ac : Nat → ClassId} {L : List CD} {rl : RomL} {h h' : Mm} {pc : Nat} {ls : Array Slot} {rest st : List Value} {k ci index n d d1 : Nat} {fs : List (Option Nat)}
variable {y : MethodName} {cc1 : ByteArray} {nL1 : Nat} {ret1 : Option FieldType} {As : List Value}
theorem cVx {v : Value} (X : Fx p s m args meth c cc nL own ret D ad ac L rl) (hH : Hp D ad ac L h s H locs) (hC : CL own index y cc1 nL1 ret1 n) (hV : CLv y) (hM : Mt l D ad ac L rl y cc1 nL1 ret1 d1 (.ref (ad k) :: As) h (some v) h') (hk : L[k]? = some (.inr (.inl (ci, fs)))) (hc : (vwCl[ci]?).map (fun q => q.1) = some y.cls) (hn : As.length = n) (hd : d1 + 1 ≤ d) (hls : ls.size = nL) (hst : st = As.reverse ++ .ref (ad k) :: rest) (hW : (rest.map fun v => v.category).sum ≤ 8) (hdg : decode cc pc = .ok (.invokevirtual index, 3))
    (kk : ∀ (H1 : Heap) (locs1 : List Loc), Hp D ad ac L h' s H1 locs1 → W p l e (rmD d) s m args below meth c H1 locs1 0 0 Q (F0 m (pc + 3) ls (v :: rest))) : W p l e (rmD d) s m args below meth c H locs 0 0 Q (F0 m pc ls st) := cV X hH hC hV hM hk hc hn hd hls hst hW hdg kk
end CALLS3
/-- Setting.itemsOf over the draft's cells -/
def itV (ad : Nat → Nat) (c : Int32) : Value := if c = 115 then .ref (ad 49) else if c = 103 then .ref (ad 55) else if c = 97 then .ref (ad 60) else .null
theorem itO {l : Launch} {D : va_G} {ad : Nat → Nat} {ac : Nat → ClassId} {h : Mm} {c : Int32} {v : Value} (he : itV ad c = v) : Mt l D ad ac LC rlC yX7_itemsOf cX7_itemsOf 2 (some (.object "StationPasses$Items")) 0 [.ref (ad 48), .int c] h (some v) h := by
  subst he
  refine Mt.of (own := RX7) (by decide) rfl (Nat.le_of_ble_eq_true rfl) ?_
  intro p e s m below meth c0 ls X hH hl
  obtain ⟨hx, hb, hml, hown, hts, hr, hlk, hC, hI, hR⟩ := id X
  have hl : lv_has ls 2 [(0, .ref (ad 48)), (1, .int c)] := hl
  refine lv_iload_n hx hb dX7_itemsOf_0 rfl (lv_at hl 1 rfl) ?_
  refine lv_bipush (v := 115) hx hb dX7_itemsOf_1 (by decide) ?_
  refine lv_icmp_ne hx hb dX7_itemsOf_3 (tgt := 11) (by decide) (fun hc => ?_) (fun hc => ?_)
  · refine lv_iload_n hx hb dX7_itemsOf_11 rfl (lv_at hl 1 rfl) ?_
    refine lv_bipush (v := 103) hx hb dX7_itemsOf_12 (by decide) ?_
    refine lv_icmp_ne hx hb dX7_itemsOf_14 (tgt := 22) (by decide) (fun hc1 => ?_) (fun hc1 => ?_)
    · refine lv_iload_n hx hb dX7_itemsOf_22 rfl (lv_at hl 1 rfl) ?_
      refine lv_bipush (v := 97) hx hb dX7_itemsOf_23 (by decide) ?_
      refine lv_icmp_ne hx hb dX7_itemsOf_25 (tgt := 35) (by decide) (fun hc2 => ?_) (fun hc2 => ?_)
      · refine lv_null hx hb dX7_itemsOf_35 ?_
        rw [itV, if_neg hc, if_neg hc1, if_neg hc2]
        exact retA X hH (Or.inl ⟨_, rfl⟩) (Or.inl rfl) dX7_itemsOf_36
      · refine lv_aload_n hx hb dX7_itemsOf_28 rfl (lv_at hl 0 rfl) ?_
        refine gR X hH fl_X7_42 lC_48 rfl dX7_itemsOf_29 ?_
        refine lv_goto hx hb dX7_itemsOf_32 (tgt := 36) (by decide) ?_
        rw [itV, if_neg hc, if_neg hc1, if_pos hc2]
        exact retA X hH (Or.inl ⟨_, rfl⟩) (Or.inr ⟨_, rfl⟩) dX7_itemsOf_36
    · refine lv_aload_n hx hb dX7_itemsOf_17 rfl (lv_at hl 0 rfl) ?_
      refine gR X hH fl_X7_33 lC_48 rfl dX7_itemsOf_18 ?_
      rw [itV, if_neg hc, if_pos hc1]
      exact retA X hH (Or.inl ⟨_, rfl⟩) (Or.inr ⟨_, rfl⟩) dX7_itemsOf_21
  · refine lv_aload_n hx hb dX7_itemsOf_6 rfl (lv_at hl 0 rfl) ?_
    refine gR X hH fl_X7_21 lC_48 rfl dX7_itemsOf_7 ?_
    rw [itV, if_pos hc]
    exact retA X hH (Or.inl ⟨_, rfl⟩) (Or.inr ⟨_, rfl⟩) dX7_itemsOf_10
