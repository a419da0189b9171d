theorem kl_J0_335 : CL RJ0 335 yJ0_coder_7d493 cJ0_coder_7d493 1 (some .byte) 0 := ⟨(wg_m2 105 (by decide +kernel) rfl), (wg_m2 102 (by decide +kernel) rfl), (wg_m1 12 (by decide +kernel) rfl), ⟨by decide +kernel, by decide +kernel⟩, by decide +kernel, by decide⟩
theorem kv_J0_coder_7d493 : CLv yJ0_coder_7d493 := ⟨(wg_m2 103 (by decide +kernel) rfl), (wg_m2 104 (by decide +kernel) rfl)⟩
theorem kl_J0_492 : CL RJ0 492 yJ0_isLatin1_aae02 cJ0_isLatin1_aae02 1 (some .boolean) 0 := ⟨(wg_m2 115 (by decide +kernel) rfl), (wg_m2 112 (by decide +kernel) rfl), (wg_m1 12 (by decide +kernel) rfl), ⟨by decide +kernel, by decide +kernel⟩, by decide +kernel, by decide⟩
theorem kv_J0_isLatin1_aae02 : CLv yJ0_isLatin1_aae02 := ⟨(wg_m2 113 (by decide +kernel) rfl), (wg_m2 114 (by decide +kernel) rfl)⟩
theorem kl_J0_495 : CL RJ0 495 yJ1_charAt_3b067 cJ1_charAt_3b067 2 (some .char) 2 := ⟨(wg_m2 118 (by decide +kernel) rfl), (wg_m2 116 (by decide +kernel) rfl), (wg_m1 13 (by decide +kernel) rfl), ⟨by decide +kernel, by decide +kernel⟩, by decide +kernel, by decide⟩
theorem ks_J1_charAt_3b067 : Cond.static yJ1_charAt_3b067 ∈ wg := (wg_m2 117 (by decide +kernel) rfl)
theorem kl_J1_9 : CL RJ1 9 yJ0_checkIndex_df160 cJ0_checkIndex_df160 2 none 2 := ⟨(wg_m2 121 (by decide +kernel) rfl), (wg_m2 119 (by decide +kernel) rfl), (wg_m1 12 (by decide +kernel) rfl), ⟨by decide +kernel, by decide +kernel⟩, by decide +kernel, by decide⟩
theorem ks_J0_checkIndex_df160 : Cond.static yJ0_checkIndex_df160 ∈ wg := (wg_m2 120 (by decide +kernel) rfl)
theorem kl_J0_1059 : CL RJ0 1059 yJ3_checkIndex_8e157 cJ3_checkIndex_8e157 3 (some .int) 3 := ⟨(wg_m2 126 (by decide +kernel) rfl), (wg_m2 124 (by decide +kernel) rfl), (wg_m1 14 (by decide +kernel) rfl), ⟨by decide +kernel, by decide +kernel⟩, by decide +kernel, by decide⟩
theorem ks_J3_checkIndex_8e157 : Cond.static yJ3_checkIndex_8e157 ∈ wg := (wg_m2 125 (by decide +kernel) rfl)
theorem kl_X10_60 : CL RX10 60 yJ0_length_8abf5 cJ0_length_8abf5 1 (some .int) 0 := ⟨(wg_m2 101 (by decide +kernel) rfl), (wg_m2 98 (by decide +kernel) rfl), (wg_m1 12 (by decide +kernel) rfl), ⟨by decide +kernel, by decide +kernel⟩, by decide +kernel, by decide⟩
theorem kv_J0_length_8abf5 : CLv yJ0_length_8abf5 := ⟨(wg_m2 99 (by decide +kernel) rfl), (wg_m2 100 (by decide +kernel) rfl)⟩
theorem kl_X10_66 : CL RX10 66 yJ0_charAt_5068e cJ0_charAt_5068e 2 (some .char) 1 := ⟨(wg_m2 111 (by decide +kernel) rfl), (wg_m2 108 (by decide +kernel) rfl), (wg_m1 12 (by decide +kernel) rfl), ⟨by decide +kernel, by decide +kernel⟩, by decide +kernel, by decide⟩
theorem kv_J0_charAt_5068e : CLv yJ0_charAt_5068e := ⟨(wg_m2 109 (by decide +kernel) rfl), (wg_m2 110 (by decide +kernel) rfl)⟩
def txB : List Int32 := [115, 48, 44, 50, 48, 44, 48, 44, 51, 48, 44, 49, 59, 115, 55, 44, 50, 53, 44, 49, 44, 52, 48, 44, 50, 59, 115, 49, 51, 44, 49, 56, 44, 49, 44, 50, 48, 44, 49, 59, 103, 48, 44, 54, 59, 103, 57, 44, 56, 59, 97, 48, 44, 50, 44, 49, 59, 97, 48, 44, 48, 44, 48, 59, 97, 49, 44, 49, 44, 50, 59]
theorem txB_ch : ∀ j, j < 71 → ((txB.getD j 0 &&& 255).toUInt32 % 65536).toInt32 = txB.getD j 0 ∧ narrow .char (.int (txB.getD j 0)) = .int (txB.getD j 0) := by
  intro j hj
  match j, hj with
  | 0, _ => exact ⟨by decide, rfl⟩
  | 1, _ => exact ⟨by decide, rfl⟩
  | 2, _ => exact ⟨by decide, rfl⟩
  | 3, _ => exact ⟨by decide, rfl⟩
  | 4, _ => exact ⟨by decide, rfl⟩
  | 5, _ => exact ⟨by decide, rfl⟩
  | 6, _ => exact ⟨by decide, rfl⟩
  | 7, _ => exact ⟨by decide, rfl⟩
  | 8, _ => exact ⟨by decide, rfl⟩
  | 9, _ => exact ⟨by decide, rfl⟩
  | 10, _ => exact ⟨by decide, rfl⟩
  | 11, _ => exact ⟨by decide, rfl⟩
  | 12, _ => exact ⟨by decide, rfl⟩
  | 13, _ => exact ⟨by decide, rfl⟩
  | 14, _ => exact ⟨by decide, rfl⟩
  | 15, _ => exact ⟨by decide, rfl⟩
  | 16, _ => exact ⟨by decide, rfl⟩
  | 17, _ => exact ⟨by decide, rfl⟩
  | 18, _ => exact ⟨by decide, rfl⟩
  | 19, _ => exact ⟨by decide, rfl⟩
  | 20, _ => exact ⟨by decide, rfl⟩
  | 21, _ => exact ⟨by decide, rfl⟩
  | 22, _ => exact ⟨by decide, rfl⟩
  | 23, _ => exact ⟨by decide, rfl⟩
  | 24, _ => exact ⟨by decide, rfl⟩
  | 25, _ => exact ⟨by decide, rfl⟩
  | 26, _ => exact ⟨by decide, rfl⟩
  | 27, _ => exact ⟨by decide, rfl⟩
  | 28, _ => exact ⟨by decide, rfl⟩
  | 29, _ => exact ⟨by decide, rfl⟩
  | 30, _ => exact ⟨by decide, rfl⟩
  | 31, _ => exact ⟨by decide, rfl⟩
  | 32, _ => exact ⟨by decide, rfl⟩
  | 33, _ => exact ⟨by decide, rfl⟩
  | 34, _ => exact ⟨by decide, rfl⟩
  | 35, _ => exact ⟨by decide, rfl⟩
  | 36, _ => exact ⟨by decide, rfl⟩
  | 37, _ => exact ⟨by decide, rfl⟩
  | 38, _ => exact ⟨by decide, rfl⟩
  | 39, _ => exact ⟨by decide, rfl⟩
  | 40, _ => exact ⟨by decide, rfl⟩
  | 41, _ => exact ⟨by decide, rfl⟩
  | 42, _ => exact ⟨by decide, rfl⟩
  | 43, _ => exact ⟨by decide, rfl⟩
  | 44, _ => exact ⟨by decide, rfl⟩
  | 45, _ => exact ⟨by decide, rfl⟩
  | 46, _ => exact ⟨by decide, rfl⟩
  | 47, _ => exact ⟨by decide, rfl⟩
  | 48, _ => exact ⟨by decide, rfl⟩
  | 49, _ => exact ⟨by decide, rfl⟩
  | 50, _ => exact ⟨by decide, rfl⟩
  | 51, _ => exact ⟨by decide, rfl⟩
  | 52, _ => exact ⟨by decide, rfl⟩
  | 53, _ => exact ⟨by decide, rfl⟩
  | 54, _ => exact ⟨by decide, rfl⟩
  | 55, _ => exact ⟨by decide, rfl⟩
  | 56, _ => exact ⟨by decide, rfl⟩
  | 57, _ => exact ⟨by decide, rfl⟩
  | 58, _ => exact ⟨by decide, rfl⟩
  | 59, _ => exact ⟨by decide, rfl⟩
  | 60, _ => exact ⟨by decide, rfl⟩
  | 61, _ => exact ⟨by decide, rfl⟩
  | 62, _ => exact ⟨by decide, rfl⟩
  | 63, _ => exact ⟨by decide, rfl⟩
  | 64, _ => exact ⟨by decide, rfl⟩
  | 65, _ => exact ⟨by decide, rfl⟩
  | 66, _ => exact ⟨by decide, rfl⟩
  | 67, _ => exact ⟨by decide, rfl⟩
  | 68, _ => exact ⟨by decide, rfl⟩
  | 69, _ => exact ⟨by decide, rfl⟩
  | 70, _ => exact ⟨by decide, rfl⟩
  | q + 71, h => exact absurd h (by omega)
/-- the literal, and what its JDK methods read -/
def StrP (sa va z : Nat) (U : State) (H : Heap) : Prop := va_O "java/lang/String" sa (fun q => z ≤ q) U H ∧ va_OF "java/lang/String" "coder" "B" (.int 0) sa (fun q => z ≤ q) U H ∧ va_OF "java/lang/String" "value" "[B" (.ref va) sa (fun q => z ≤ q) U H ∧ va_T .byte va 71 (fun j => .int (txB.getD j 0)) (fun q => z ≤ q) U H ∧ va_Z "java/lang/String" "COMPACT_STRINGS" "Z" (.int 1) (fun q => z ≤ q) U H ∧ va_Zq "jdk/internal/util/Preconditions" "SIOOBE_FORMATTER" "Ljava/util/function/BiFunction;" (fun q => z ≤ q) U H
theorem StrP.moved {sa va z : Nat} {u U : State} {H : Heap} (hvm : u.vm.Alike U.vm) (h : StrP sa va z u H) : StrP sa va z U H := ⟨h.1.moved hvm, h.2.1.moved hvm, h.2.2.1.moved hvm, h.2.2.2.1.moved hvm, h.2.2.2.2.1.moved hvm, h.2.2.2.2.2.moved hvm⟩
theorem StrP.kept {sa va z : Nat} {U : State} {H H1 : Heap} (h : StrP sa va z U H) (hq : ∀ a : Nat, a < H.size → ¬ z ≤ a → H1[a]? = H[a]?) : StrP sa va z U H1 := ⟨h.1.kept hq, h.2.1.kept hq, h.2.2.1.kept hq, h.2.2.2.1.kept hq, h.2.2.2.2.1.kept hq, h.2.2.2.2.2.kept hq⟩
def QS (r : Option Value) : Array Value → State → Outcome → State → Prop := fun _ st oc t => oc = .returned r ∧ t.heap = st.heap
def MtS (l : Launch) (sa va z : Nat) (y : MethodName) (cc : ByteArray) (nL : Nat) (ret : Option FieldType) (d : Nat) (As : List Value) (r : Option Value) : Prop := Met l y (wsy y cc nL ret) (rmD d) (va_Pc As (fun U => StrP sa va z U U.heap)) (QS r) 0 0 (fun _ => False)
def Fs (p : Program) (s : State) (m : MethodId) (args : Array Value) (meth : Method) (c : Code) (cc : ByteArray) (nL : Nat) (own : String) (ret : Option FieldType) : Prop :=
  p.tables.exec = Jvm.exec ∧ c.code = cc ∧ c.maxLocals = nL ∧ s.vm.findClass own = some m.cls ∧ (∀ w ∈ wg, w.before args s = true) ∧ meth.sig.returnType = ret ∧ meth.locks = false
theorem MtS.of {l : Launch} {sa va z : Nat} {y : MethodName} {cc : ByteArray} {nL : Nat} {ret : Option FieldType} {d : Nat} {As : List Value} {r : Option Value} {own : String} (hy : plainFor y = true) (hcl : y.cls = own) (hlen : (lg_sl As).length ≤ nL)
    (body : ∀ (p : Program) (e : Env) (s : State) (m : MethodId) (below : List Frame) (meth : Method) (c : Code) (ls : Array Slot), Fs p s m As.toArray meth c cc nL own ret → StrP sa va z s s.heap → lv_has ls nL (lv_args 0 As) → W p l e (rmD d) s m As.toArray below meth c s.heap [] 0 0 (MQ below (QS r) As.toArray s 0 0 (fun _ => False)) (F0 m 0 ls [])) : MtS l sa va z y cc nL ret d As r := by
  refine va_MetF (cc := cc) (maxL := nL) (ret := ret) hy rfl ?_
  intro p e s m args below meth c s₁ B hml hv
  obtain ⟨rfl, hP⟩ := hv
  have hts := atoms_spec (ws := wsy y cc nL ret) B.pre
  have hown : s.vm.findClass own = some m.cls := hcl ▸ findClass_of_methodNamed B.named
  have hl := lv_entry As (n := nL) hlen
  rw [lg_entry_eq]
  exact body p e s m below meth c _ ⟨B.exec, B.bytes, hml, hown, fun w hw => hts w (List.mem_cons_of_mem _ hw), B.returns, B.notSynchronized⟩ hP hl
section SROWS
variable {p : Program} {l : Launch} {e : Env} {R : Room} {s : State} {m : MethodId} {args : Array Value} {below : List Frame} {meth : Method} {c : Code} {H : Heap} {locs : List Loc} {cells slots : Nat} {Q : State → Prop}
variable {cc : ByteArray} {nL : Nat} {own : String} {ret : Option FieldType} {pc : Nat} {ls : Array Slot} {rest st : List Value} {index n d1 sa va z : Nat} {y : MethodName} {cc1 : ByteArray} {nL1 : Nat} {ret1 : Option FieldType} {As : List Value} {r : Option Value}
theorem sGo {A1 : Array Value} (hr : va_Run p l e R s m args below meth c H locs cells slots 0 0 (F0 m pc ls st) rest (QS r A1) (fun _ => False)) (kk : W p l e R s m args below meth c H locs cells slots Q (F0 m (pc + 3) ls (r.toList ++ rest))) : W p l e R s m args below meth c H locs cells slots Q (F0 m pc ls st) := by
  intro T hT X
  obtain ⟨v', st₀, t, T', L, h0, X', hL, e1, e2, ⟨hv, hh⟩, stp⟩ := hr T hT X
  cases hv
  obtain ⟨t2, a1, b1⟩ := kk T' (by rw [e1, hh, h0]) (Stand.forget X' (fun q h => (hL q h).elim))
  exact ⟨t2, stp t2 a1, b1⟩
theorem StrP.blind : FrameBlind (va_Pc As (fun U => StrP sa va z U U.heap)) := by
  intro a U g mk hq
  exact ⟨hq.1, StrP.moved (u := U) (U := U.calling g mk a) (Vm.Alike.refl U.vm) hq.2⟩
theorem sS (hx : p.tables.exec = Jvm.exec) (hb : c.code = cc) (hml : c.maxLocals = nL) (hown : s.vm.findClass own = some m.cls) (hts : ∀ w ∈ wg, w.before args s = true) (hP : StrP sa va z s H) (hC : CL own index y cc1 nL1 ret1 n) (hV : Cond.static y ∈ wg) (hM : MtS l sa va z y cc1 nL1 ret1 d1 As r) (hn : As.length = n) (hfr : d1 + 1 ≤ R.frames) (hlo : 39 + 40 * d1 ≤ R.locals) (hcs : cells ≤ R.cells ∧ slots ≤ R.slots) (hls : ls.size = nL) (hst : st = As.reverse ++ rest) (hW : (rest.map fun v => v.category).sum ≤ 8) (hdg : decode cc pc = .ok (.invokestatic index, 3))
    (kk : W p l e R s m args below meth c H locs cells slots Q (F0 m (pc + 3) ls (r.toList ++ rest))) : W p l e R s m args below meth c H locs cells slots Q (F0 m pc ls st) :=
  sGo (va_runS (As := As) ⟨hx, hb, hml, hown, hts⟩ hM ⟨CL.BG hts hC hfr hlo, hts _ hV⟩ ⟨StrP.blind, fun U hU hWm => ⟨rfl, by show StrP sa va z U U.heap; rw [hU]; exact hP.moved hWm.alike⟩⟩ rfl hn hls hst (lv_room hW) hdg ⟨hcs.1, hcs.2⟩) kk
theorem sV (hx : p.tables.exec = Jvm.exec) (hb : c.code = cc) (hml : c.maxLocals = nL) (hown : s.vm.findClass own = some m.cls) (hts : ∀ w ∈ wg, w.before args s = true) (hP : StrP sa va z s H) (hC : CL own index y cc1 nL1 ret1 n) (hV : CLv y) (hcl : y.cls = "java/lang/String") (hM : MtS l sa va z y cc1 nL1 ret1 d1 (.ref sa :: As) r) (hn : As.length = n) (hfr : d1 + 1 ≤ R.frames) (hlo : 39 + 40 * d1 ≤ R.locals) (hcs : cells ≤ R.cells ∧ slots ≤ R.slots) (hls : ls.size = nL) (hst : st = As.reverse ++ .ref sa :: rest) (hW : (rest.map fun v => v.category).sum ≤ 8) (hdg : decode cc pc = .ok (.invokevirtual index, 3))
    (kk : W p l e R s m args below meth c H locs cells slots Q (F0 m (pc + 3) ls (r.toList ++ rest))) : W p l e R s m args below meth c H locs cells slots Q (F0 m pc ls st) := by
  obtain ⟨cell, g1, g2, g3, -⟩ := hP.1
  exact sGo (va_runV (C := y.cls) (As := As) ⟨hx, hb, hml, hown, hts⟩ hM ⟨CL.BG hts hC hfr hlo, hts _ hV.1, hts _ hV.2⟩ ⟨StrP.blind, ⟨cell, g1, g2, by rw [hcl]; exact g3⟩, fun U hU hWm => ⟨rfl, by show StrP sa va z U U.heap; rw [hU]; exact hP.moved hWm.alike⟩⟩ rfl hn hls hst (lv_room hW) hdg ⟨hcs.1, hcs.2⟩) kk
end SROWS
theorem fs_cs : Cond.fieldLink "java/lang/String" 38 "java/lang/String" "COMPACT_STRINGS" "Z" ∈ wg := (wg_m2 106 (by decide +kernel) rfl)
theorem fs_fm : Cond.fieldLink "java/lang/String" 1053 "jdk/internal/util/Preconditions" "SIOOBE_FORMATTER" "Ljava/util/function/BiFunction;" ∈ wg := (wg_m2 122 (by decide +kernel) rfl)
theorem fs_val : Cond.fieldLink "java/lang/String" 9 "java/lang/String" "value" "[B" ∈ wg := (wg_m5 159 (by decide +kernel) rfl)
theorem fs_cod : Cond.fieldLink "java/lang/String" 15 "java/lang/String" "coder" "B" ∈ wg := (wg_m5 160 (by decide +kernel) rfl)
theorem ms_coder {l : Launch} {sa va z : Nat} : MtS l sa va z yJ0_coder_7d493 cJ0_coder_7d493 1 (some .byte) 0 [.ref sa] (some (.int 0)) := by
  refine MtS.of (own := "java/lang/String") (by decide +kernel) rfl (Nat.le_of_ble_eq_true rfl) ?_
  intro p e s m below meth c ls X hP hl
  obtain ⟨hx, hb, hml, hown, hts, hr, hlk⟩ := id X
  have hl : lv_has ls 1 [(0, .ref sa)] := hl
  refine va_gets (A := fun q => z ≤ q) (C := "java/lang/String") (n := "COMPACT_STRINGS") (d := "Z") (ref := "java/lang/String") hx hb hP.2.2.2.2.1 va_S.rf hown (hts _ fs_cs) (fun _ h => h) dJ0_coder_7d493_0 ?_
  refine lv_if_eq hx hb dJ0_coder_7d493_3 (tgt := 13) (by decide) (fun hc => absurd hc (by decide)) (fun hc => ?_)
  refine lv_aload_n hx hb dJ0_coder_7d493_6 rfl (lv_at hl 0 rfl) ?_
  refine vk_getf (A := fun q => z ≤ q) (ref := "java/lang/String") hx hb hP.2.1 va_S.rf hown (hts _ fs_cod) (fun _ h => h) dJ0_coder_7d493_7 ?_
  refine lv_goto hx hb dJ0_coder_7d493_10 (tgt := 14) (by decide) ?_
  exact W.zret (v := 0) hx hb hr rfl (fun t ht hW => ⟨rfl, ht⟩) (fun q h => by cases h) dJ0_coder_7d493_14 hlk
theorem ms_latin {l : Launch} {sa va z : Nat} : MtS l sa va z yJ0_isLatin1_aae02 cJ0_isLatin1_aae02 1 (some .boolean) 0 [.ref sa] (some (.int 1)) := by
  refine MtS.of (own := "java/lang/String") (by decide +kernel) rfl (Nat.le_of_ble_eq_true rfl) ?_
  intro p e s m below meth c ls X hP hl
  obtain ⟨hx, hb, hml, hown, hts, hr, hlk⟩ := id X
  have hl : lv_has ls 1 [(0, .ref sa)] := hl
  refine va_gets (A := fun q => z ≤ q) (C := "java/lang/String") (n := "COMPACT_STRINGS") (d := "Z") (ref := "java/lang/String") hx hb hP.2.2.2.2.1 va_S.rf hown (hts _ fs_cs) (fun _ h => h) dJ0_isLatin1_aae02_0 ?_
  refine lv_if_eq hx hb dJ0_isLatin1_aae02_3 (tgt := 17) (by decide) (fun hc => absurd hc (by decide)) (fun hc => ?_)
  refine lv_aload_n hx hb dJ0_isLatin1_aae02_6 rfl (lv_at hl 0 rfl) ?_
  refine vk_getf (A := fun q => z ≤ q) (ref := "java/lang/String") hx hb hP.2.1 va_S.rf hown (hts _ fs_cod) (fun _ h => h) dJ0_isLatin1_aae02_7 ?_
  refine lv_if_ne hx hb dJ0_isLatin1_aae02_10 (tgt := 17) (by decide) (fun hc => absurd rfl hc) (fun hc => ?_)
  refine lv_iconst (v := 1) hx hb dJ0_isLatin1_aae02_13 (by decide) ?_
  refine lv_goto hx hb dJ0_isLatin1_aae02_14 (tgt := 18) (by decide) ?_
  exact W.zret (v := 1) hx hb hr rfl (fun t ht hW => ⟨rfl, ht⟩) (fun q h => by cases h) dJ0_isLatin1_aae02_18 hlk
theorem ms_length {l : Launch} {sa va z : Nat} : MtS l sa va z yJ0_length_8abf5 cJ0_length_8abf5 1 (some .int) 1 [.ref sa] (some (.int 71)) := by
  refine MtS.of (own := "java/lang/String") (by decide +kernel) rfl (Nat.le_of_ble_eq_true rfl) ?_
  intro p e s m below meth c ls X hP hl
  obtain ⟨hx, hb, hml, hown, hts, hr, hlk⟩ := id X
  have hl : lv_has ls 1 [(0, .ref sa)] := hl
  refine lv_aload_n hx hb dJ0_length_8abf5_0 rfl (lv_at hl 0 rfl) ?_
  refine vk_getf (A := fun q => z ≤ q) (ref := "java/lang/String") hx hb hP.2.2.1 va_S.rf hown (hts _ fs_val) (fun _ h => h) dJ0_length_8abf5_1 ?_
  obtain ⟨cell, h1, h2, h3, h4, h5, h6, h7⟩ := id hP.2.2.2.1
  refine W.alen (n := 71) hx hb h1 h2 h5 rfl rfl dJ0_length_8abf5_4 ?_
  refine lv_aload_n hx hb dJ0_length_8abf5_5 rfl (lv_at hl 0 rfl) ?_
  refine sV (As := []) (rest := [.int 71]) hx hb hml hown hts hP kl_J0_335 kv_J0_coder_7d493 rfl ms_coder rfl (Nat.le_of_ble_eq_true rfl) (Nat.le_of_ble_eq_true rfl) ⟨Nat.zero_le _, Nat.zero_le _⟩ hl.1 rfl (Nat.le_of_ble_eq_true rfl) dJ0_length_8abf5_6 ?_
  refine W.eq (g2 := F0 m 9 ls [.int 0, .int 71]) rfl ?_
  refine lv_ishr hx hb dJ0_length_8abf5_9 ?_
  refine W.eq (g2 := F0 m 10 ls [.int 71]) (by rw [show (71 : Int32) >>> ((0 : Int32) &&& 31) = 71 by decide]) ?_
  exact W.iret (v := 71) hx hb hr (fun t ht hW => ⟨rfl, ht⟩) (fun q h => by cases h) dJ0_length_8abf5_10 hlk
theorem ms_preN {l : Launch} {sa va z : Nat} {i n : Int32} {fa : Nat} (h0 : ¬ i < 0) (h1 : i < n) : MtS l sa va z yJ3_checkIndex_8e157 cJ3_checkIndex_8e157 3 (some .int) 0 [.int i, .int n, .null] (some (.int i)) := by
  refine MtS.of (own := "jdk/internal/util/Preconditions") (by decide +kernel) rfl (Nat.le_of_ble_eq_true rfl) ?_
  intro p e s m below meth c ls X hP hl
  obtain ⟨hx, hb, hml, hown, hts, hr, hlk⟩ := id X
  have hl : lv_has ls 3 [(0, .int i), (1, .int n), (2, .null)] := hl
  refine lv_iload_n hx hb dJ3_checkIndex_8e157_0 rfl (lv_at hl 0 rfl) ?_
  refine lv_if_lt hx hb dJ3_checkIndex_8e157_1 (tgt := 9) (by decide) (fun hc => absurd hc h0) (fun hc => ?_)
  refine lv_iload_n hx hb dJ3_checkIndex_8e157_4 rfl (lv_at hl 0 rfl) ?_
  refine lv_iload_n hx hb dJ3_checkIndex_8e157_5 rfl (lv_at hl 1 rfl) ?_
  refine lv_icmp_lt hx hb dJ3_checkIndex_8e157_6 (tgt := 16) (by decide) (fun hc => ?_) (fun hc => absurd h1 hc)
  refine lv_iload_n hx hb dJ3_checkIndex_8e157_16 rfl (lv_at hl 0 rfl) ?_
  exact W.iret (v := i) hx hb hr (fun t ht hW => ⟨rfl, ht⟩) (fun q h => by cases h) dJ3_checkIndex_8e157_17 hlk
theorem ms_preR {l : Launch} {sa va z : Nat} {i n : Int32} {fa : Nat} (h0 : ¬ i < 0) (h1 : i < n) : MtS l sa va z yJ3_checkIndex_8e157 cJ3_checkIndex_8e157 3 (some .int) 0 [.int i, .int n, .ref fa] (some (.int i)) := by
  refine MtS.of (own := "jdk/internal/util/Preconditions") (by decide +kernel) rfl (Nat.le_of_ble_eq_true rfl) ?_
  intro p e s m below meth c ls X hP hl
  obtain ⟨hx, hb, hml, hown, hts, hr, hlk⟩ := id X
  have hl : lv_has ls 3 [(0, .int i), (1, .int n), (2, .ref fa)] := hl
  refine lv_iload_n hx hb dJ3_checkIndex_8e157_0 rfl (lv_at hl 0 rfl) ?_
  refine lv_if_lt hx hb dJ3_checkIndex_8e157_1 (tgt := 9) (by decide) (fun hc => absurd hc h0) (fun hc => ?_)
  refine lv_iload_n hx hb dJ3_checkIndex_8e157_4 rfl (lv_at hl 0 rfl) ?_
  refine lv_iload_n hx hb dJ3_checkIndex_8e157_5 rfl (lv_at hl 1 rfl) ?_
  refine lv_icmp_lt hx hb dJ3_checkIndex_8e157_6 (tgt := 16) (by decide) (fun hc => ?_) (fun hc => absurd h1 hc)
  refine lv_iload_n hx hb dJ3_checkIndex_8e157_16 rfl (lv_at hl 0 rfl) ?_
  exact W.iret (v := i) hx hb hr (fun t ht hW => ⟨rfl, ht⟩) (fun q h => by cases h) dJ3_checkIndex_8e157_17 hlk
theorem ms_check {l : Launch} {sa va z : Nat} {i n : Int32} (h0 : ¬ i < 0) (h1 : i < n) : MtS l sa va z yJ0_checkIndex_df160 cJ0_checkIndex_df160 2 none 1 [.int i, .int n] none := by
  refine MtS.of (own := "java/lang/String") (by decide +kernel) rfl (Nat.le_of_ble_eq_true rfl) ?_
  intro p e s m below meth c ls X hP hl
  obtain ⟨hx, hb, hml, hown, hts, hr, hlk⟩ := id X
  have hl : lv_has ls 2 [(0, .int i), (1, .int n)] := hl
  refine lv_iload_n hx hb dJ0_checkIndex_df160_0 rfl (lv_at hl 0 rfl) ?_
  refine lv_iload_n hx hb dJ0_checkIndex_df160_1 rfl (lv_at hl 1 rfl) ?_
  rcases hP.2.2.2.2.2 with hz | ⟨fa, hz⟩
  · refine va_gets (A := fun q => z ≤ q) (C := "jdk/internal/util/Preconditions") (n := "SIOOBE_FORMATTER") (d := "Ljava/util/function/BiFunction;") (ref := "jdk/internal/util/Preconditions") hx hb hz va_S.rf hown (hts _ fs_fm) (fun _ h => h) dJ0_checkIndex_df160_2 ?_
    refine sS (As := [.int i, .int n, .null]) (rest := []) hx hb hml hown hts hP kl_J0_1059 ks_J3_checkIndex_8e157 (ms_preN (fa := 0) h0 h1) rfl (Nat.le_of_ble_eq_true rfl) (Nat.le_of_ble_eq_true rfl) ⟨Nat.zero_le _, Nat.zero_le _⟩ hl.1 rfl (Nat.le_of_ble_eq_true rfl) dJ0_checkIndex_df160_5 ?_
    refine W.eq (g2 := F0 m 8 ls [.int i]) rfl ?_
    refine lv_pop hx hb dJ0_checkIndex_df160_8 rfl ?_
    exact W.vret hx hb hr (fun t ht hW => ⟨rfl, ht⟩) (fun q h => by cases h) dJ0_checkIndex_df160_9 hlk
  · refine va_gets (A := fun q => z ≤ q) (C := "jdk/internal/util/Preconditions") (n := "SIOOBE_FORMATTER") (d := "Ljava/util/function/BiFunction;") (ref := "jdk/internal/util/Preconditions") hx hb hz va_S.rf hown (hts _ fs_fm) (fun _ h => h) dJ0_checkIndex_df160_2 ?_
    refine sS (As := [.int i, .int n, .ref fa]) (rest := []) hx hb hml hown hts hP kl_J0_1059 ks_J3_checkIndex_8e157 (ms_preR h0 h1) rfl (Nat.le_of_ble_eq_true rfl) (Nat.le_of_ble_eq_true rfl) ⟨Nat.zero_le _, Nat.zero_le _⟩ hl.1 rfl (Nat.le_of_ble_eq_true rfl) dJ0_checkIndex_df160_5 ?_
    refine W.eq (g2 := F0 m 8 ls [.int i]) rfl ?_
    refine lv_pop hx hb dJ0_checkIndex_df160_8 rfl ?_
    exact W.vret hx hb hr (fun t ht hW => ⟨rfl, ht⟩) (fun q h => by cases h) dJ0_checkIndex_df160_9 hlk
theorem ms_l1 {l : Launch} {sa va z : Nat} {j : Nat} (hj : j < 71) : MtS l sa va z yJ1_charAt_3b067 cJ1_charAt_3b067 2 (some .char) 2 [.ref va, .int (nI j)] (some (.int (txB.getD j 0))) := by
  refine MtS.of (own := "java/lang/StringLatin1") (by decide +kernel) rfl (Nat.le_of_ble_eq_true rfl) ?_
  intro p e s m below meth c ls X hP hl
  obtain ⟨hx, hb, hml, hown, hts, hr, hlk⟩ := id X
  have hl : lv_has ls 2 [(0, .ref va), (1, .int (nI j))] := hl
  refine lv_iload_n hx hb dJ1_charAt_3b067_0 rfl (lv_at hl 1 rfl) ?_
  refine lv_aload_n hx hb dJ1_charAt_3b067_1 rfl (lv_at hl 0 rfl) ?_
  obtain ⟨cell, h1, h2, h3, h4, h5, h6, h7⟩ := id hP.2.2.2.1
  refine W.alen (n := nI 71) hx hb h1 h2 h5 rfl rfl dJ1_charAt_3b067_2 ?_
  refine sS (As := [.int (nI j), .int (nI 71)]) (rest := []) hx hb hml hown hts hP kl_J1_9 ks_J0_checkIndex_df160 (ms_check (nI_pos (by omega)) (nI_lt hj (by omega))) rfl (Nat.le_of_ble_eq_true rfl) (Nat.le_of_ble_eq_true rfl) ⟨Nat.zero_le _, Nat.zero_le _⟩ hl.1 rfl (Nat.le_of_ble_eq_true rfl) dJ1_charAt_3b067_3 ?_
  refine W.eq (g2 := F0 m 6 ls []) rfl ?_
  refine lv_aload_n hx hb dJ1_charAt_3b067_6 rfl (lv_at hl 0 rfl) ?_
  refine lv_iload_n hx hb dJ1_charAt_3b067_7 rfl (lv_at hl 1 rfl) ?_
  refine W.bald (v := .int (txB.getD j 0)) hx hb h1 h2 h3 (by rw [nI_clamp (by omega)]; intro q; rcases q with q | q; exact nI_pos (by omega) q; omega) (by rw [nI_clamp (by omega)]; exact h6 j hj) rfl rfl dJ1_charAt_3b067_8 ?_
  refine W.eq (g2 := F0 m 9 ls [.int (txB.getD j 0)]) rfl ?_
  refine lv_sipush (v := 255) hx hb dJ1_charAt_3b067_9 (by decide) ?_
  refine lv_iand hx hb dJ1_charAt_3b067_12 ?_
  refine lv_i2c (v := txB.getD j 0) hx hb dJ1_charAt_3b067_13 (txB_ch j hj).1 ?_
  exact W.zret (v := txB.getD j 0) hx hb hr (txB_ch j hj).2 (fun t ht hW => ⟨rfl, ht⟩) (fun q h => by cases h) dJ1_charAt_3b067_14 hlk
theorem ms_charAt {l : Launch} {sa va z : Nat} {j : Nat} (hj : j < 71) : MtS l sa va z yJ0_charAt_5068e cJ0_charAt_5068e 2 (some .char) 3 [.ref sa, .int (nI j)] (some (.int (txB.getD j 0))) := by
  refine MtS.of (own := "java/lang/String") (by decide +kernel) rfl (Nat.le_of_ble_eq_true rfl) ?_
  intro p e s m below meth c ls X hP hl
  obtain ⟨hx, hb, hml, hown, hts, hr, hlk⟩ := id X
  have hl : lv_has ls 2 [(0, .ref sa), (1, .int (nI j))] := hl
  refine lv_aload_n hx hb dJ0_charAt_5068e_0 rfl (lv_at hl 0 rfl) ?_
  refine sV (As := []) (rest := []) hx hb hml hown hts hP kl_J0_492 kv_J0_isLatin1_aae02 rfl ms_latin rfl (Nat.le_of_ble_eq_true rfl) (Nat.le_of_ble_eq_true rfl) ⟨Nat.zero_le _, Nat.zero_le _⟩ hl.1 rfl (Nat.le_of_ble_eq_true rfl) dJ0_charAt_5068e_1 ?_
  refine W.eq (g2 := F0 m 4 ls [.int 1]) rfl ?_
  refine lv_if_eq hx hb dJ0_charAt_5068e_4 (tgt := 16) (by decide) (fun hc => absurd hc (by decide)) (fun hc => ?_)
  refine lv_aload_n hx hb dJ0_charAt_5068e_7 rfl (lv_at hl 0 rfl) ?_
  refine vk_getf (A := fun q => z ≤ q) (ref := "java/lang/String") hx hb hP.2.2.1 va_S.rf hown (hts _ fs_val) (fun _ h => h) dJ0_charAt_5068e_8 ?_
  refine lv_iload_n hx hb dJ0_charAt_5068e_11 rfl (lv_at hl 1 rfl) ?_
  refine sS (As := [.ref va, .int (nI j)]) (rest := []) hx hb hml hown hts hP kl_J0_495 ks_J1_charAt_3b067 (ms_l1 hj) rfl (Nat.le_of_ble_eq_true rfl) (Nat.le_of_ble_eq_true rfl) ⟨Nat.zero_le _, Nat.zero_le _⟩ hl.1 rfl (Nat.le_of_ble_eq_true rfl) dJ0_charAt_5068e_12 ?_
  refine W.eq (g2 := F0 m 15 ls [.int (txB.getD j 0)]) rfl ?_
  exact W.zret (v := txB.getD j 0) hx hb hr (txB_ch j hj).2 (fun t ht hW => ⟨rfl, ht⟩) (fun q h => by cases h) dJ0_charAt_5068e_15 hlk
