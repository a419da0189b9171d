theorem oi_X10 : Cond.methodLink RX10 1 objectInit ∈ wg := (wg_m1 26 (by decide +kernel) rfl)
theorem cl_X10_7 : Cond.classLink RX10 7 RX3 ∈ wg := (wg_m1 29 (by decide +kernel) rfl)
theorem in_X3 : Cond.instantiable RX3 2 ∈ wg := (wg_m1 30 (by decide +kernel) rfl)
theorem ii_X3 : Cond.initialized RX3 ∈ wg := (wg_m1 2 (by decide +kernel) rfl)
theorem cd_X3 : Cond.code yX3_init cX3_init 1 none ∈ wg := (wg_m1 33 (by decide +kernel) rfl)
theorem im_X3 : Cond.instanceMethod yX3_init ∈ wg := (wg_m1 32 (by decide +kernel) rfl)
theorem cl_X10_16 : Cond.classLink RX10 16 RX4 ∈ wg := (wg_m1 45 (by decide +kernel) rfl)
theorem in_X4 : Cond.instantiable RX4 3 ∈ wg := (wg_m1 46 (by decide +kernel) rfl)
theorem ii_X4 : Cond.initialized RX4 ∈ wg := (wg_m1 3 (by decide +kernel) rfl)
theorem cd_X4 : Cond.code yX4_init cX4_init 1 none ∈ wg := (wg_m1 49 (by decide +kernel) rfl)
theorem im_X4 : Cond.instanceMethod yX4_init ∈ wg := (wg_m1 48 (by decide +kernel) rfl)
theorem cl_X10_23 : Cond.classLink RX10 23 RX1 ∈ wg := (wg_m1 206 (by decide +kernel) rfl)
theorem in_X1 : Cond.instantiable RX1 3 ∈ wg := (wg_m1 207 (by decide +kernel) rfl)
theorem ii_X1 : Cond.initialized RX1 ∈ wg := (wg_m1 8 (by decide +kernel) rfl)
theorem cd_X1 : Cond.code yX1_init cX1_init 2 none ∈ wg := (wg_m1 210 (by decide +kernel) rfl)
theorem im_X1 : Cond.instanceMethod yX1_init ∈ wg := (wg_m1 209 (by decide +kernel) rfl)
theorem ml_X10_25 : Cond.methodLink RX10 25 yX1_init ∈ wg := (wg_m1 208 (by decide +kernel) rfl)
theorem cl_X10_30 : Cond.classLink RX10 30 RX9 ∈ wg := (wg_m1 226 (by decide +kernel) rfl)
theorem in_X9 : Cond.instantiable RX9 5 ∈ wg := (wg_m1 227 (by decide +kernel) rfl)
theorem ii_X9 : Cond.initialized RX9 ∈ wg := (wg_m1 9 (by decide +kernel) rfl)
theorem cd_X9 : Cond.code yX9_init cX9_init 1 none ∈ wg := (wg_m1 230 (by decide +kernel) rfl)
theorem im_X9 : Cond.instanceMethod yX9_init ∈ wg := (wg_m1 229 (by decide +kernel) rfl)
theorem cl_X10_37 : Cond.classLink RX10 37 RX0 ∈ wg := (wg_m2 13 (by decide +kernel) rfl)
theorem in_X0 : Cond.instantiable RX0 4 ∈ wg := (wg_m2 14 (by decide +kernel) rfl)
theorem ii_X0 : Cond.initialized RX0 ∈ wg := (wg_m1 10 (by decide +kernel) rfl)
theorem cd_X0 : Cond.code yX0_init cX0_init 1 none ∈ wg := (wg_m2 17 (by decide +kernel) rfl)
theorem im_X0 : Cond.instanceMethod yX0_init ∈ wg := (wg_m2 16 (by decide +kernel) rfl)
theorem cl_X10_44 : Cond.classLink RX10 44 RX6 ∈ wg := (wg_m2 34 (by decide +kernel) rfl)
theorem in_X6 : Cond.instantiable RX6 17 ∈ wg := (wg_m2 35 (by decide +kernel) rfl)
theorem ii_X6 : Cond.initialized RX6 ∈ wg := (wg_m1 11 (by decide +kernel) rfl)
theorem cd_X6 : Cond.code yX6_init cX6_init 1 none ∈ wg := (wg_m2 38 (by decide +kernel) rfl)
theorem im_X6 : Cond.instanceMethod yX6_init ∈ wg := (wg_m2 37 (by decide +kernel) rfl)
theorem cl_X10_51 : Cond.classLink RX10 51 RX7 ∈ wg := (wg_m2 95 (by decide +kernel) rfl)
def piL : List Nat := [0, 1, 2, 3, 22, 23, 24, 25, 26, 27, 28, 29, 30, 31, 32, 59, 60, 61, 62, 63, 64, 65, 66, 67, 68, 69, 70, 71, 72, 73, 4, 5, 6, 7, 8, 9, 10, 11, 12, 13, 14, 15, 16, 17, 18, 19, 20, 21, 74, 75, 76, 77, 78, 79, 80, 81, 82, 83, 84, 85, 86, 87, 88, 89, 90, 91, 33, 34, 35, 36, 37, 38, 39, 40, 41, 42, 43, 44, 45, 46, 47, 48, 49, 50, 51, 52, 53, 54, 55, 56, 57, 58]
def piI : List Nat := [0, 1, 2, 3, 30, 31, 32, 33, 34, 35, 36, 37, 38, 39, 40, 41, 42, 43, 44, 45, 46, 47, 4, 5, 6, 7, 8, 9, 10, 11, 12, 13, 14, 66, 67, 68, 69, 70, 71, 72, 73, 74, 75, 76, 77, 78, 79, 80, 81, 82, 83, 84, 85, 86, 87, 88, 89, 90, 91, 15, 16, 17, 18, 19, 20, 21, 22, 23, 24, 25, 26, 27, 28, 29, 48, 49, 50, 51, 52, 53, 54, 55, 56, 57, 58, 59, 60, 61, 62, 63, 64, 65]
theorem pi_inv : ∀ k, k < 92 → piI.getD (piL.getD k 0) 0 = k := by decide +kernel
def TXS : String := "s0,20,0,30,1;s7,25,1,40,2;s13,18,1,20,1;g0,6;g9,8;a0,2,1;a0,0,0;a1,1,2;"
/-- the letters told at first, one behind the other -/
def apN : Nat → Option Mm
  | 0 => some Zm
  | j + 1 => bdh (apN j) (fun h => mX3_append h (txB.getD j 0))
/-- the class's memory at first: the text written, laid, wiped -/
def initC : Option Mm := bdh (apN 71) (fun h => bd2 (mX7_readAll h) (fun v h1 => if v = -4 then bdh (mX5_find h1) (fun h2 => bdh (mX8_clear h2) (fun h3 => bdh (mX1_clear h3) (fun h4 => bdh (mX6_forget h4) (fun h5 => mX3_clear (fun k => h5 (sg k)))))) else none))
section SPROWS
variable {p : Program} {l : Launch} {e : Env} {R : Room} {s : State} {m : MethodId} {args : Array Value} {below : List Frame} {meth : Method} {c : Code} {H : Heap} {locs : List Loc} {cells slots : Nat} {Q : State → Prop}
variable {cc : ByteArray} {nL : Nat} {own : String} {ret : Option FieldType} {D : va_G} {ad ad' : Nat → Nat} {ac : Nat → ClassId} {L L' : List CD} {rl : RomL} {h h' : Mm} {pc : Nat} {ls : Array Slot} {rest st : List Value} {k ci index n d1 : Nat} {fs : List (Option Nat)}
variable {y : MethodName} {cc1 : ByteArray} {nL1 : Nat} {ret1 : Option FieldType} {As : List Value} {r : Option Value}
theorem cVXG (X : Fx p s m args meth c cc nL own ret D ad ac L rl) (hH : Hp D ad ac L h s H locs) (hC : CL own index y cc1 nL1 ret1 n) (hV : CLv y) (hM : MtX l D ad ac L rl y cc1 nL1 ret1 d1 (.ref (ad k) :: As) h r ad' L' h') (hk : L[k]? = some (.inr (.inl (ci, fs)))) (hc : (vwCl[ci]?).map (fun q => q.1) = some y.cls) (hn : As.length = n) (hfr : d1 + 1 ≤ R.frames) (hlo : 39 + 40 * d1 ≤ R.locals) (hcs : cells ≤ R.cells ∧ slots ≤ R.slots) (hls : ls.size = nL) (hst : st = As.reverse ++ .ref (ad k) :: rest) (hW : (rest.map fun v => v.category).sum ≤ 8) (hdg : decode cc pc = .ok (.invokevirtual index, 3))
    (kk : ∀ (H1 : Heap) (locs1 : List Loc), va_P D vwCl (wd ad' ac L' h') H1 → va_S (Aa ad L.length s.heap.size) s.heap H1 locs1 → W p l e R s m args below meth c H1 locs1 cells slots Q (F0 m (pc + 3) ls (r.toList ++ rest))) : W p l e R s m args below meth c H locs cells slots Q (F0 m pc ls st) := by
  have hq : ∃ q : vw_C, vwCl[ci]? = some q ∧ q.1 = y.cls := by
    cases hv : vwCl[ci]? with
    | none => rw [hv] at hc; cases hc
    | some q => rw [hv] at hc; exact ⟨q, rfl, Option.some.inj hc⟩
  obtain ⟨q, hq1, hq2⟩ := hq
  have hrecv := va_recv (D := D) X.2.2.2.2.2.2.2.1.1 hH.1 hq1 (wd_at hk)
  rw [hq2] at hrecv
  have hrun := va_runV (C := y.cls) (As := As) (rest := rest) (b := ad k) (g := F0 m pc ls st) (below := below) (meth := meth) (e := e) (locs := locs) (cells := cells) (slots := slots) ⟨X.1, X.2.1, X.2.2.1, X.2.2.2.1, X.2.2.2.2.1⟩ (hM H.size) ⟨CL.BG X.2.2.2.2.1 hC hfr hlo, X.2.2.2.2.1 _ hV.1, X.2.2.2.2.1 _ hV.2⟩ ⟨PU.blind, hrecv, fun U hU hWm => ⟨rfl, PU.ready X hH hU hWm⟩⟩ rfl hn hls hst (lv_room hW) hdg ⟨hcs.1, hcs.2⟩
  intro T hT X1
  obtain ⟨v, st₀, t, T', L1, h0, X', hL, e1, e2, ⟨hv, hp, hz, hk⟩, stp⟩ := hrun T hT X1
  cases hv
  rw [h0] at hz hk
  obtain ⟨t2, a1, b1⟩ := kk T'.heap (locs ++ L1) (by rw [e1]; exact hp) ⟨Nat.le_trans hH.2.1 (by rw [e1]; exact hz), fun q h1 h2 => by
      rw [e1, hk q (Nat.lt_of_lt_of_le h1 hH.2.1) (fun z => h2 (Aa.le hH.2.1 z))]
      exact hH.2.2.1 q h1 h2, fun q hq => by
      rcases List.mem_append.mp hq with h | h
      · exact hH.2.2.2 q h
      · exact Aa.le hH.2.1 (hL q h)⟩ T' rfl X'
  exact ⟨t2, stp t2 a1, b1⟩
end SPROWS
theorem apN_prev {j : Nat} {h : Mm} (hm : apN (j + 1) = some h) : ∃ h1, apN j = some h1 ∧ mX3_append h1 (txB.getD j 0) = some h := by
  rw [apN] at hm
  exact bdh_some hm
theorem apN_all {h : Mm} (hm : apN 71 = some h) : ∀ r j, j + r = 71 → ∃ h1, apN j = some h1 := by
  intro r
  induction r with
  | zero => intro j hj; rw [show j = 71 by omega]; exact ⟨h, hm⟩
  | succ r ih =>
    intro j hj
    obtain ⟨h1, h2⟩ := ih (j + 1) (by omega)
    obtain ⟨h3, h4, -⟩ := apN_prev h2
    exact ⟨h3, h4⟩
set_option maxRecDepth 8000 in
/-- the loop that writes the letters -/
theorem sp_loop {p : Program} {l : Launch} {e : Env} {s : State} {m : MethodId} {args : Array Value} {below : List Frame} {meth : Method} {c : Code} {Q : State → Prop} {D : va_G} {ad : Nat → Nat} {ac : Nat → ClassId} {sa va z : Nat} {hE : Mm} (X : Fx p s m args meth c cX10_init 2 RX10 none D ad ac LC rlC) (hz : ∀ q, Aa ad LC.length s.heap.size q → z ≤ q) (hStr : StrP sa va z s s.heap) (hLd : vk_R RX10 58 TXS sa s) (hA : apN 71 = some hE)
    (kk : ∀ (H : Heap) (locs : List Loc) (ls : Array Slot), Hp D ad ac LC hE s H locs → lv_has ls 2 [(0, .ref (ad 0))] → W p l e (rmC 23 91 1176) s m args below meth c H locs 91 1176 Q (F0 m 111 ls [])) : ∀ (r j : Nat) (h : Mm) (H : Heap) (locs : List Loc) (ls : Array Slot), j + r = 71 → apN j = some h → Hp D ad ac LC h s H locs → lv_has ls 2 [(0, .ref (ad 0)), (1, .int (nI j))] → W p l e (rmC 23 91 1176) s m args below meth c H locs 91 1176 Q (F0 m 83 ls []) := by
  obtain ⟨hx, hb, hml, hown, hts, hr, hlk, hC, hI, hR⟩ := id X
  have hcs : 91 ≤ (rmC 23 91 1176).cells ∧ 1176 ≤ (rmC 23 91 1176).slots := ⟨Nat.le_of_ble_eq_true rfl, Nat.le_of_ble_eq_true rfl⟩
  intro r
  induction r with
  | zero =>
    intro j h H locs ls hj hm hH hl
    have hP : StrP sa va z s H := hStr.kept (fun a h1 h2 => hH.2.2.1 a h1 (fun q => h2 (hz a q)))
    refine lv_iload_n hx hb dX10_init_83 rfl (lv_at hl 1 rfl) ?_
    refine va_ldcS hx hb hown hLd dX10_init_84 ?_
    refine sV (As := []) (rest := [.int (nI j)]) hx hb hml hown hts hP kl_X10_60 kv_J0_length_8abf5 rfl ms_length rfl (Nat.le_of_ble_eq_true rfl) (Nat.le_of_ble_eq_true rfl) hcs hl.1 rfl (Nat.le_of_ble_eq_true rfl) dX10_init_86 ?_
    refine W.eq (g2 := F0 m 89 ls [.int 71, .int (nI j)]) rfl ?_
    refine lv_icmp_ge hx hb dX10_init_89 (tgt := 111) (by decide) (fun hc => ?_) (fun hc => absurd (show (71 : Int32) ≤ nI j from by rw [show j = 71 by omega]; decide) hc)
    have e1 : j = 71 := by omega
    subst e1
    cases hm.symm.trans hA
    exact kk H locs ls hH (lv_sub hl [0] rfl)
  | succ r ih =>
    intro j h H locs ls hj hm hH hl
    have hP : StrP sa va z s H := hStr.kept (fun a h1 h2 => hH.2.2.1 a h1 (fun q => h2 (hz a q)))
    obtain ⟨h1, hm1⟩ := apN_all hA r (j + 1) (by omega)
    obtain ⟨h2, hm2, hq⟩ := apN_prev hm1
    cases hm.symm.trans hm2
    refine lv_iload_n hx hb dX10_init_83 rfl (lv_at hl 1 rfl) ?_
    refine va_ldcS hx hb hown hLd dX10_init_84 ?_
    refine sV (As := []) (rest := [.int (nI j)]) hx hb hml hown hts hP kl_X10_60 kv_J0_length_8abf5 rfl ms_length rfl (Nat.le_of_ble_eq_true rfl) (Nat.le_of_ble_eq_true rfl) hcs hl.1 rfl (Nat.le_of_ble_eq_true rfl) dX10_init_86 ?_
    refine W.eq (g2 := F0 m 89 ls [.int 71, .int (nI j)]) rfl ?_
    refine lv_icmp_ge hx hb dX10_init_89 (tgt := 111) (by decide) (fun hc => absurd hc (nI_ge (a := j) (b := 71) (by omega) (by omega))) (fun hc => ?_)
    refine lv_aload_n hx hb dX10_init_92 rfl (lv_at hl 0 rfl) ?_
    refine gR X hH fl_X10_10 lC_0 rfl dX10_init_93 ?_
    refine va_ldcS hx hb hown hLd dX10_init_96 ?_
    refine lv_iload_n hx hb dX10_init_98 rfl (lv_at hl 1 rfl) ?_
    refine sV (As := [.int (nI j)]) (rest := [.ref (ad 1)]) hx hb hml hown hts hP kl_X10_66 kv_J0_charAt_5068e rfl (ms_charAt (j := j) (by omega)) rfl (Nat.le_of_ble_eq_true rfl) (Nat.le_of_ble_eq_true rfl) hcs hl.1 rfl (Nat.le_of_ble_eq_true rfl) dX10_init_99 ?_
    refine W.eq (g2 := F0 m 102 ls [.int (txB.getD j 0), .ref (ad 1)]) rfl ?_
    refine cVvG (As := [.int (txB.getD j 0)]) (rest := []) X hH kl_X10_70 kv_X3_append (mt_X3_append hq) lC_1 rfl rfl (Nat.le_of_ble_eq_true rfl) (Nat.le_of_ble_eq_true rfl) hcs hl.1 rfl (Nat.le_of_ble_eq_true rfl) dX10_init_102 (fun H locs hH => ?_)
    refine lv_iinc (k := 1) (v := nI (j + 1)) (lv' := [(1, .int (nI (j + 1))), (0, .ref (ad 0))]) hx hb dX10_init_105 hl rfl (nI_1 j) (by decide) rfl (fun ls hl => ?_)
    refine lv_goto hx hb dX10_init_108 (tgt := 83) (by decide) ?_
    exact ih (j + 1) h1 H locs ls (by omega) hm1 hH (lv_sub hl [1, 0] rfl)
/-- StationPasses(): the class's 92 cells, their memory as initC says -/
def PC2 (D : va_G) (ac : Nat → ClassId) (ar : Nat → Nat) (z sa va h0 sz : Nat) (U : State) : Prop := PC D ac ar z 10 [.null, .null, .null, .null, .null, .null, .null] h0 sz U ∧ StrP sa va z U U.heap ∧ vk_R RX10 58 TXS sa U
set_option maxHeartbeats 8000000 in
set_option maxRecDepth 20000 in
theorem mi_X10 (l : Launch) (D : va_G) (ac : Nat → ClassId) (ar : Nat → Nat) (z sa va : Nat) {hI : Mm} (hm : initC = some hI) (h0 sz : Nat) : Met l yX10_init (wsy yX10_init cX10_init 2 none) (rmC 23 91 1176) (va_Pc [.ref h0] (PC2 D ac ar z sa va h0 sz)) (QI D ac ar LC hI h0 sz) 91 1176 (Ah h0 sz) := by
  obtain ⟨hE, hA71, hm⟩ := bdh_some hm
  obtain ⟨v1, h1, hq1, hm⟩ := bd2_some hm
  by_cases hv : v1 = -4
  case neg => rw [if_neg hv] at hm; cases hm
  rw [if_pos hv] at hm
  subst hv
  obtain ⟨h2, hq2, hm⟩ := bdh_some hm
  obtain ⟨h3, hq3, hm⟩ := bdh_some hm
  obtain ⟨h4, hq4, hm⟩ := bdh_some hm
  obtain ⟨h5, hq5, hm⟩ := bdh_some hm
  refine Met.ofW (cc := cX10_init) (maxL := 2) (ret := none) (by decide) rfl ?_
  intro p e s m args below meth c s₁ B hml hv
  obtain ⟨rfl, ⟨rfl, hz, hz2, hP, hK⟩, hStr, hLd⟩ := hv
  have hts0 := atoms_spec (ws := wsy yX10_init cX10_init 2 none) B.pre
  have hown : s.vm.findClass RX10 = some m.cls := findClass_of_methodNamed B.named
  have hl := lv_entry [.ref h0] (n := 2) (Nat.le_of_ble_eq_true rfl)
  rw [lg_entry_eq]
  have X : Fc p s m #[Value.ref h0] meth c cX10_init 2 RX10 D ac ar z := ⟨B.exec, B.bytes, hml, hown, fun w hw => hts0 w (List.mem_cons_of_mem _ hw), B.returns, B.notSynchronized, (name_of_methodNamed B.named B.method).1, hK⟩
  have hD : va_D (Ah h0 s.heap.size) ([(h0, .inr (10, [.null, .null, .null, .null, .null, .null, .null]))] : va_W) := by
    refine ⟨fun i j p q hi hj _ => ?_, fun k q hk => ?_⟩
    · have h1 : i < 1 := (List.getElem?_eq_some_iff.mp hi).1
      have h2 : j < 1 := (List.getElem?_eq_some_iff.mp hj).1
      omega
    · have h1 : k < 1 := (List.getElem?_eq_some_iff.mp hk).1
      rw [show k = 0 by omega] at hk
      cases hk
      exact Or.inl rfl
  generalize (lg_sl [.ref h0] ++ List.replicate (2 - (lg_sl [.ref h0]).length) Slot.unset).toArray = ls at hl ⊢
  obtain ⟨hx, hb, hml, hown, hts, hr, hlk, hin, hK⟩ := id X
  have hA : ∀ q, s.heap.size ≤ q → Ah h0 s.heap.size q := fun q h => Or.inr h
  have hAz : ∀ a, Ah h0 s.heap.size a → z ≤ a := fun a h => h.elim (fun e => e ▸ hz) (fun e => Nat.le_trans hz2 e)
  have hS : va_S (Ah h0 s.heap.size) s.heap s.heap [] := va_S.rf
  have hl : lv_has ls 2 [(0, .ref h0)] := hl
  have hP : va_P D vwCl ((h0, .inr (10, [.null, .null, .null, .null, .null, .null, .null])) :: ([] : va_W)) s.heap := hP
  have hD : va_D (Ah h0 s.heap.size) ((h0, .inr (10, [.null, .null, .null, .null, .null, .null, .null])) :: ([] : va_W)) := hD
  refine lv_aload_n hx hb dX10_init_0 rfl (lv_at hl 0 rfl) ?_
  refine kObj X oi_X10 oi_inst oi_code hl.1 (Nat.le_of_ble_eq_true rfl) (Nat.le_of_ble_eq_true rfl) dX10_init_1 ?_
  refine lv_aload_n hx hb dX10_init_4 rfl (lv_at hl 0 rfl) ?_
  refine kNew (ci := 3) (vs := [.null, .int 0]) (q := (RX3, TX3, 2)) X hP hD hS hA rfl cok3 tyX3 tyX3_ok dv3 cl_X10_7 in_X3 ii_X3 (Nat.le_of_ble_eq_true rfl) (Nat.le_of_ble_eq_true rfl) dX10_init_5 (fun q1 H hP hD hS => ?_)
  refine lv_dup hx hb dX10_init_8 rfl ?_
  refine kCallN (q := q1) (As := []) (rest := [.ref q1, .ref h0]) X hP hD hS hA hAz hz2 (mc_X3 l D ac ar z) cd_X3 ii_X3 im_X3 ⟨by decide +kernel, by decide +kernel⟩ rfl pl_X3 (hK.2.1 ("StationPasses", 9, "StationPasses$Letters") (by decide)) (Nat.le_of_ble_eq_true rfl) (Nat.le_of_ble_eq_true rfl) hl.1 rfl (Nat.le_of_ble_eq_true rfl) (Nat.le_of_ble_eq_true rfl) (Nat.le_of_ble_eq_true rfl) dX10_init_9 (fun g2 H locs hP hD hS => ?_)
  have hP : va_P D vwCl ((h0, .inr (10, [.null, .null, .null, .null, .null, .null, .null])) :: (([] : va_W) ++ (wd (mkAd ar (cAd q1 g2)) ac LS_X3 Zm))) H := hP
  have hD : va_D (Ah h0 s.heap.size) ((h0, .inr (10, [.null, .null, .null, .null, .null, .null, .null])) :: (([] : va_W) ++ (wd (mkAd ar (cAd q1 g2)) ac LS_X3 Zm))) := hD
  refine kPut (ty := (.object "StationPasses$Letters")) X hP hD hS fl_X10_10 rfl (by decide +kernel) rfl rfl rfl rfl (Nat.le_of_ble_eq_true rfl) dX10_init_12 (fun H locs hP hD hS => ?_)
  have hP : va_P D vwCl ((h0, .inr (10, [.ref q1, .null, .null, .null, .null, .null, .null])) :: (([] : va_W) ++ (wd (mkAd ar (cAd q1 g2)) ac LS_X3 Zm))) H := hP
  have hD : va_D (Ah h0 s.heap.size) ((h0, .inr (10, [.ref q1, .null, .null, .null, .null, .null, .null])) :: (([] : va_W) ++ (wd (mkAd ar (cAd q1 g2)) ac LS_X3 Zm))) := hD
  refine lv_aload_n hx hb dX10_init_15 rfl (lv_at hl 0 rfl) ?_
  refine kNew (ci := 4) (vs := [.null, .null, .null]) (q := (RX4, TX4, 3)) X hP hD hS hA rfl cok4 tyX4 tyX4_ok dv4 cl_X10_16 in_X4 ii_X4 (Nat.le_of_ble_eq_true rfl) (Nat.le_of_ble_eq_true rfl) dX10_init_16 (fun q3 H hP hD hS => ?_)
  refine lv_dup hx hb dX10_init_19 rfl ?_
  refine kCallN (q := q3) (As := []) (rest := [.ref q3, .ref h0]) X hP hD hS hA hAz hz2 (mc_X4 l D ac ar z) cd_X4 ii_X4 im_X4 ⟨by decide +kernel, by decide +kernel⟩ rfl pl_X4 (hK.2.1 ("StationPasses", 18, "StationPasses$Network") (by decide)) (Nat.le_of_ble_eq_true rfl) (Nat.le_of_ble_eq_true rfl) hl.1 rfl (Nat.le_of_ble_eq_true rfl) (Nat.le_of_ble_eq_true rfl) (Nat.le_of_ble_eq_true rfl) dX10_init_20 (fun g4 H locs hP hD hS => ?_)
  have hP : va_P D vwCl ((h0, .inr (10, [.ref q1, .null, .null, .null, .null, .null, .null])) :: ((([] : va_W) ++ (wd (mkAd ar (cAd q1 g2)) ac LS_X3 Zm)) ++ (wd (mkAd ar (cAd q3 g4)) ac LS_X4 Zm))) H := hP
  have hD : va_D (Ah h0 s.heap.size) ((h0, .inr (10, [.ref q1, .null, .null, .null, .null, .null, .null])) :: ((([] : va_W) ++ (wd (mkAd ar (cAd q1 g2)) ac LS_X3 Zm)) ++ (wd (mkAd ar (cAd q3 g4)) ac LS_X4 Zm))) := hD
  refine kPut (ty := (.object "StationPasses$Network")) X hP hD hS fl_X10_19 rfl (by decide +kernel) rfl rfl rfl rfl (Nat.le_of_ble_eq_true rfl) dX10_init_23 (fun H locs hP hD hS => ?_)
  have hP : va_P D vwCl ((h0, .inr (10, [.ref q1, .ref q3, .null, .null, .null, .null, .null])) :: ((([] : va_W) ++ (wd (mkAd ar (cAd q1 g2)) ac LS_X3 Zm)) ++ (wd (mkAd ar (cAd q3 g4)) ac LS_X4 Zm))) H := hP
  have hD : va_D (Ah h0 s.heap.size) ((h0, .inr (10, [.ref q1, .ref q3, .null, .null, .null, .null, .null])) :: ((([] : va_W) ++ (wd (mkAd ar (cAd q1 g2)) ac LS_X3 Zm)) ++ (wd (mkAd ar (cAd q3 g4)) ac LS_X4 Zm))) := hD
  refine lv_aload_n hx hb dX10_init_26 rfl (lv_at hl 0 rfl) ?_
  refine kNew (ci := 1) (vs := [.null, .int 0, .int 0]) (q := (RX1, TX1, 3)) X hP hD hS hA rfl cok1 tyX1 tyX1_ok dv1 cl_X10_23 in_X1 ii_X1 (Nat.le_of_ble_eq_true rfl) (Nat.le_of_ble_eq_true rfl) dX10_init_27 (fun q5 H hP hD hS => ?_)
  refine lv_dup hx hb dX10_init_30 rfl ?_
  refine kCallO (q := q5) (As := []) (rest := [.ref q5, .ref h0]) X hP hD hS hA hAz hz2 (mc_X1 l D ac ar z) cd_X1 ii_X1 im_X1 ⟨by decide +kernel, by decide +kernel⟩ rfl pl_X1 ml_X10_25 (Nat.le_of_ble_eq_true rfl) (Nat.le_of_ble_eq_true rfl) hl.1 rfl (Nat.le_of_ble_eq_true rfl) (Nat.le_of_ble_eq_true rfl) (Nat.le_of_ble_eq_true rfl) dX10_init_31 (fun g6 H locs hP hD hS => ?_)
  have hP : va_P D vwCl ((h0, .inr (10, [.ref q1, .ref q3, .null, .null, .null, .null, .null])) :: (((([] : va_W) ++ (wd (mkAd ar (cAd q1 g2)) ac LS_X3 Zm)) ++ (wd (mkAd ar (cAd q3 g4)) ac LS_X4 Zm)) ++ (wd (mkAd ar (cAd q5 g6)) ac LS_X1 Zm))) H := hP
  have hD : va_D (Ah h0 s.heap.size) ((h0, .inr (10, [.ref q1, .ref q3, .null, .null, .null, .null, .null])) :: (((([] : va_W) ++ (wd (mkAd ar (cAd q1 g2)) ac LS_X3 Zm)) ++ (wd (mkAd ar (cAd q3 g4)) ac LS_X4 Zm)) ++ (wd (mkAd ar (cAd q5 g6)) ac LS_X1 Zm))) := hD
  refine kPut (ty := (.object "StationPasses$History")) X hP hD hS fl_X10_26 rfl (by decide +kernel) rfl rfl rfl rfl (Nat.le_of_ble_eq_true rfl) dX10_init_34 (fun H locs hP hD hS => ?_)
  have hP : va_P D vwCl ((h0, .inr (10, [.ref q1, .ref q3, .ref q5, .null, .null, .null, .null])) :: (((([] : va_W) ++ (wd (mkAd ar (cAd q1 g2)) ac LS_X3 Zm)) ++ (wd (mkAd ar (cAd q3 g4)) ac LS_X4 Zm)) ++ (wd (mkAd ar (cAd q5 g6)) ac LS_X1 Zm))) H := hP
  have hD : va_D (Ah h0 s.heap.size) ((h0, .inr (10, [.ref q1, .ref q3, .ref q5, .null, .null, .null, .null])) :: (((([] : va_W) ++ (wd (mkAd ar (cAd q1 g2)) ac LS_X3 Zm)) ++ (wd (mkAd ar (cAd q3 g4)) ac LS_X4 Zm)) ++ (wd (mkAd ar (cAd q5 g6)) ac LS_X1 Zm))) := hD
  refine lv_aload_n hx hb dX10_init_37 rfl (lv_at hl 0 rfl) ?_
  refine kNew (ci := 9) (vs := [.null, .int 0, .int 0, .int 0, .int 0]) (q := (RX9, TX9, 5)) X hP hD hS hA rfl cok9 tyX9 tyX9_ok dv9 cl_X10_30 in_X9 ii_X9 (Nat.le_of_ble_eq_true rfl) (Nat.le_of_ble_eq_true rfl) dX10_init_38 (fun q7 H hP hD hS => ?_)
  refine lv_dup hx hb dX10_init_41 rfl ?_
  refine kCallN (q := q7) (As := []) (rest := [.ref q7, .ref h0]) X hP hD hS hA hAz hz2 (mc_X9 l D ac ar z) cd_X9 ii_X9 im_X9 ⟨by decide +kernel, by decide +kernel⟩ rfl pl_X9 (hK.2.1 ("StationPasses", 32, "StationPasses$Stores") (by decide)) (Nat.le_of_ble_eq_true rfl) (Nat.le_of_ble_eq_true rfl) hl.1 rfl (Nat.le_of_ble_eq_true rfl) (Nat.le_of_ble_eq_true rfl) (Nat.le_of_ble_eq_true rfl) dX10_init_42 (fun g8 H locs hP hD hS => ?_)
  have hP : va_P D vwCl ((h0, .inr (10, [.ref q1, .ref q3, .ref q5, .null, .null, .null, .null])) :: ((((([] : va_W) ++ (wd (mkAd ar (cAd q1 g2)) ac LS_X3 Zm)) ++ (wd (mkAd ar (cAd q3 g4)) ac LS_X4 Zm)) ++ (wd (mkAd ar (cAd q5 g6)) ac LS_X1 Zm)) ++ (wd (mkAd ar (cAd q7 g8)) ac LS_X9 Zm))) H := hP
  have hD : va_D (Ah h0 s.heap.size) ((h0, .inr (10, [.ref q1, .ref q3, .ref q5, .null, .null, .null, .null])) :: ((((([] : va_W) ++ (wd (mkAd ar (cAd q1 g2)) ac LS_X3 Zm)) ++ (wd (mkAd ar (cAd q3 g4)) ac LS_X4 Zm)) ++ (wd (mkAd ar (cAd q5 g6)) ac LS_X1 Zm)) ++ (wd (mkAd ar (cAd q7 g8)) ac LS_X9 Zm))) := hD
  refine kPut (ty := (.object "StationPasses$Stores")) X hP hD hS fl_X10_33 rfl (by decide +kernel) rfl rfl rfl rfl (Nat.le_of_ble_eq_true rfl) dX10_init_45 (fun H locs hP hD hS => ?_)
  have hP : va_P D vwCl ((h0, .inr (10, [.ref q1, .ref q3, .ref q5, .ref q7, .null, .null, .null])) :: ((((([] : va_W) ++ (wd (mkAd ar (cAd q1 g2)) ac LS_X3 Zm)) ++ (wd (mkAd ar (cAd q3 g4)) ac LS_X4 Zm)) ++ (wd (mkAd ar (cAd q5 g6)) ac LS_X1 Zm)) ++ (wd (mkAd ar (cAd q7 g8)) ac LS_X9 Zm))) H := hP
  have hD : va_D (Ah h0 s.heap.size) ((h0, .inr (10, [.ref q1, .ref q3, .ref q5, .ref q7, .null, .null, .null])) :: ((((([] : va_W) ++ (wd (mkAd ar (cAd q1 g2)) ac LS_X3 Zm)) ++ (wd (mkAd ar (cAd q3 g4)) ac LS_X4 Zm)) ++ (wd (mkAd ar (cAd q5 g6)) ac LS_X1 Zm)) ++ (wd (mkAd ar (cAd q7 g8)) ac LS_X9 Zm))) := hD
  refine lv_aload_n hx hb dX10_init_48 rfl (lv_at hl 0 rfl) ?_
  refine kNew (ci := 0) (vs := [.null, .null, .null, .null]) (q := (RX0, TX0, 4)) X hP hD hS hA rfl cok0 tyX0 tyX0_ok dv0 cl_X10_37 in_X0 ii_X0 (Nat.le_of_ble_eq_true rfl) (Nat.le_of_ble_eq_true rfl) dX10_init_49 (fun q9 H hP hD hS => ?_)
  refine lv_dup hx hb dX10_init_52 rfl ?_
  refine kCallN (q := q9) (As := []) (rest := [.ref q9, .ref h0]) X hP hD hS hA hAz hz2 (mc_X0 l D ac ar z) cd_X0 ii_X0 im_X0 ⟨by decide +kernel, by decide +kernel⟩ rfl pl_X0 (hK.2.1 ("StationPasses", 39, "StationPasses$Chain") (by decide)) (Nat.le_of_ble_eq_true rfl) (Nat.le_of_ble_eq_true rfl) hl.1 rfl (Nat.le_of_ble_eq_true rfl) (Nat.le_of_ble_eq_true rfl) (Nat.le_of_ble_eq_true rfl) dX10_init_53 (fun g10 H locs hP hD hS => ?_)
  have hP : va_P D vwCl ((h0, .inr (10, [.ref q1, .ref q3, .ref q5, .ref q7, .null, .null, .null])) :: (((((([] : va_W) ++ (wd (mkAd ar (cAd q1 g2)) ac LS_X3 Zm)) ++ (wd (mkAd ar (cAd q3 g4)) ac LS_X4 Zm)) ++ (wd (mkAd ar (cAd q5 g6)) ac LS_X1 Zm)) ++ (wd (mkAd ar (cAd q7 g8)) ac LS_X9 Zm)) ++ (wd (mkAd ar (cAd q9 g10)) ac LS_X0 Zm))) H := hP
  have hD : va_D (Ah h0 s.heap.size) ((h0, .inr (10, [.ref q1, .ref q3, .ref q5, .ref q7, .null, .null, .null])) :: (((((([] : va_W) ++ (wd (mkAd ar (cAd q1 g2)) ac LS_X3 Zm)) ++ (wd (mkAd ar (cAd q3 g4)) ac LS_X4 Zm)) ++ (wd (mkAd ar (cAd q5 g6)) ac LS_X1 Zm)) ++ (wd (mkAd ar (cAd q7 g8)) ac LS_X9 Zm)) ++ (wd (mkAd ar (cAd q9 g10)) ac LS_X0 Zm))) := hD
  refine kPut (ty := (.object "StationPasses$Chain")) X hP hD hS fl_X10_40 rfl (by decide +kernel) rfl rfl rfl rfl (Nat.le_of_ble_eq_true rfl) dX10_init_56 (fun H locs hP hD hS => ?_)
  have hP : va_P D vwCl ((h0, .inr (10, [.ref q1, .ref q3, .ref q5, .ref q7, .ref q9, .null, .null])) :: (((((([] : va_W) ++ (wd (mkAd ar (cAd q1 g2)) ac LS_X3 Zm)) ++ (wd (mkAd ar (cAd q3 g4)) ac LS_X4 Zm)) ++ (wd (mkAd ar (cAd q5 g6)) ac LS_X1 Zm)) ++ (wd (mkAd ar (cAd q7 g8)) ac LS_X9 Zm)) ++ (wd (mkAd ar (cAd q9 g10)) ac LS_X0 Zm))) H := hP
  have hD : va_D (Ah h0 s.heap.size) ((h0, .inr (10, [.ref q1, .ref q3, .ref q5, .ref q7, .ref q9, .null, .null])) :: (((((([] : va_W) ++ (wd (mkAd ar (cAd q1 g2)) ac LS_X3 Zm)) ++ (wd (mkAd ar (cAd q3 g4)) ac LS_X4 Zm)) ++ (wd (mkAd ar (cAd q5 g6)) ac LS_X1 Zm)) ++ (wd (mkAd ar (cAd q7 g8)) ac LS_X9 Zm)) ++ (wd (mkAd ar (cAd q9 g10)) ac LS_X0 Zm))) := hD
  refine lv_aload_n hx hb dX10_init_59 rfl (lv_at hl 0 rfl) ?_
  refine kNew (ci := 6) (vs := [.null, .null, .null, .null, .null, .null, .int 0, .int 0, .int 0, .int 0, .int 0, .int 0, .int 0, .int 0, .null, .int 0, .int 0]) (q := (RX6, TX6, 17)) X hP hD hS hA rfl cok6 tyX6 tyX6_ok dv6 cl_X10_44 in_X6 ii_X6 (Nat.le_of_ble_eq_true rfl) (Nat.le_of_ble_eq_true rfl) dX10_init_60 (fun q11 H hP hD hS => ?_)
  refine lv_dup hx hb dX10_init_63 rfl ?_
  refine kCallN (q := q11) (As := []) (rest := [.ref q11, .ref h0]) X hP hD hS hA hAz hz2 (mc_X6 l D ac ar z) cd_X6 ii_X6 im_X6 ⟨by decide +kernel, by decide +kernel⟩ rfl pl_X6 (hK.2.1 ("StationPasses", 46, "StationPasses$Planner") (by decide)) (Nat.le_of_ble_eq_true rfl) (Nat.le_of_ble_eq_true rfl) hl.1 rfl (Nat.le_of_ble_eq_true rfl) (Nat.le_of_ble_eq_true rfl) (Nat.le_of_ble_eq_true rfl) dX10_init_64 (fun g12 H locs hP hD hS => ?_)
  have hP : va_P D vwCl ((h0, .inr (10, [.ref q1, .ref q3, .ref q5, .ref q7, .ref q9, .null, .null])) :: ((((((([] : va_W) ++ (wd (mkAd ar (cAd q1 g2)) ac LS_X3 Zm)) ++ (wd (mkAd ar (cAd q3 g4)) ac LS_X4 Zm)) ++ (wd (mkAd ar (cAd q5 g6)) ac LS_X1 Zm)) ++ (wd (mkAd ar (cAd q7 g8)) ac LS_X9 Zm)) ++ (wd (mkAd ar (cAd q9 g10)) ac LS_X0 Zm)) ++ (wd (mkAd ar (cAd q11 g12)) ac LS_X6 Zm))) H := hP
  have hD : va_D (Ah h0 s.heap.size) ((h0, .inr (10, [.ref q1, .ref q3, .ref q5, .ref q7, .ref q9, .null, .null])) :: ((((((([] : va_W) ++ (wd (mkAd ar (cAd q1 g2)) ac LS_X3 Zm)) ++ (wd (mkAd ar (cAd q3 g4)) ac LS_X4 Zm)) ++ (wd (mkAd ar (cAd q5 g6)) ac LS_X1 Zm)) ++ (wd (mkAd ar (cAd q7 g8)) ac LS_X9 Zm)) ++ (wd (mkAd ar (cAd q9 g10)) ac LS_X0 Zm)) ++ (wd (mkAd ar (cAd q11 g12)) ac LS_X6 Zm))) := hD
  refine kPut (ty := (.object "StationPasses$Planner")) X hP hD hS fl_X10_47 rfl (by decide +kernel) rfl rfl rfl rfl (Nat.le_of_ble_eq_true rfl) dX10_init_67 (fun H locs hP hD hS => ?_)
  have hP : va_P D vwCl ((h0, .inr (10, [.ref q1, .ref q3, .ref q5, .ref q7, .ref q9, .ref q11, .null])) :: ((((((([] : va_W) ++ (wd (mkAd ar (cAd q1 g2)) ac LS_X3 Zm)) ++ (wd (mkAd ar (cAd q3 g4)) ac LS_X4 Zm)) ++ (wd (mkAd ar (cAd q5 g6)) ac LS_X1 Zm)) ++ (wd (mkAd ar (cAd q7 g8)) ac LS_X9 Zm)) ++ (wd (mkAd ar (cAd q9 g10)) ac LS_X0 Zm)) ++ (wd (mkAd ar (cAd q11 g12)) ac LS_X6 Zm))) H := hP
  have hD : va_D (Ah h0 s.heap.size) ((h0, .inr (10, [.ref q1, .ref q3, .ref q5, .ref q7, .ref q9, .ref q11, .null])) :: ((((((([] : va_W) ++ (wd (mkAd ar (cAd q1 g2)) ac LS_X3 Zm)) ++ (wd (mkAd ar (cAd q3 g4)) ac LS_X4 Zm)) ++ (wd (mkAd ar (cAd q5 g6)) ac LS_X1 Zm)) ++ (wd (mkAd ar (cAd q7 g8)) ac LS_X9 Zm)) ++ (wd (mkAd ar (cAd q9 g10)) ac LS_X0 Zm)) ++ (wd (mkAd ar (cAd q11 g12)) ac LS_X6 Zm))) := hD
  refine lv_aload_n hx hb dX10_init_70 rfl (lv_at hl 0 rfl) ?_
  refine kNew (ci := 7) (vs := [.null, .null, .null]) (q := (RX7, TX7, 3)) X hP hD hS hA rfl cok7 tyX7 tyX7_ok dv7 cl_X10_51 in_X7 ii_X7 (Nat.le_of_ble_eq_true rfl) (Nat.le_of_ble_eq_true rfl) dX10_init_71 (fun q13 H hP hD hS => ?_)
  refine lv_dup hx hb dX10_init_74 rfl ?_
  refine kCallN (q := q13) (As := []) (rest := [.ref q13, .ref h0]) X hP hD hS hA hAz hz2 (mc_X7 l D ac ar z) cd_X7 ii_X7 im_X7 ⟨by decide +kernel, by decide +kernel⟩ rfl pl_X7 (hK.2.1 ("StationPasses", 53, "StationPasses$Setting") (by decide)) (Nat.le_of_ble_eq_true rfl) (Nat.le_of_ble_eq_true rfl) hl.1 rfl (Nat.le_of_ble_eq_true rfl) (Nat.le_of_ble_eq_true rfl) (Nat.le_of_ble_eq_true rfl) dX10_init_75 (fun g14 H locs hP hD hS => ?_)
  have hP : va_P D vwCl ((h0, .inr (10, [.ref q1, .ref q3, .ref q5, .ref q7, .ref q9, .ref q11, .null])) :: (((((((([] : va_W) ++ (wd (mkAd ar (cAd q1 g2)) ac LS_X3 Zm)) ++ (wd (mkAd ar (cAd q3 g4)) ac LS_X4 Zm)) ++ (wd (mkAd ar (cAd q5 g6)) ac LS_X1 Zm)) ++ (wd (mkAd ar (cAd q7 g8)) ac LS_X9 Zm)) ++ (wd (mkAd ar (cAd q9 g10)) ac LS_X0 Zm)) ++ (wd (mkAd ar (cAd q11 g12)) ac LS_X6 Zm)) ++ (wd (mkAd ar (cAd q13 g14)) ac LS_X7 Zm))) H := hP
  have hD : va_D (Ah h0 s.heap.size) ((h0, .inr (10, [.ref q1, .ref q3, .ref q5, .ref q7, .ref q9, .ref q11, .null])) :: (((((((([] : va_W) ++ (wd (mkAd ar (cAd q1 g2)) ac LS_X3 Zm)) ++ (wd (mkAd ar (cAd q3 g4)) ac LS_X4 Zm)) ++ (wd (mkAd ar (cAd q5 g6)) ac LS_X1 Zm)) ++ (wd (mkAd ar (cAd q7 g8)) ac LS_X9 Zm)) ++ (wd (mkAd ar (cAd q9 g10)) ac LS_X0 Zm)) ++ (wd (mkAd ar (cAd q11 g12)) ac LS_X6 Zm)) ++ (wd (mkAd ar (cAd q13 g14)) ac LS_X7 Zm))) := hD
  refine kPutW X hP hD hS fl_X10_54 fw_10_6 rfl rfl (Nat.le_of_ble_eq_true rfl) dX10_init_78 (fun H locs hP hD hS => ?_)
  have hP : va_P D vwCl ((h0, .inr (10, [.ref q1, .ref q3, .ref q5, .ref q7, .ref q9, .ref q11, .ref q13])) :: (((((((([] : va_W) ++ (wd (mkAd ar (cAd q1 g2)) ac LS_X3 Zm)) ++ (wd (mkAd ar (cAd q3 g4)) ac LS_X4 Zm)) ++ (wd (mkAd ar (cAd q5 g6)) ac LS_X1 Zm)) ++ (wd (mkAd ar (cAd q7 g8)) ac LS_X9 Zm)) ++ (wd (mkAd ar (cAd q9 g10)) ac LS_X0 Zm)) ++ (wd (mkAd ar (cAd q11 g12)) ac LS_X6 Zm)) ++ (wd (mkAd ar (cAd q13 g14)) ac LS_X7 Zm))) H := hP
  have hD : va_D (Ah h0 s.heap.size) ((h0, .inr (10, [.ref q1, .ref q3, .ref q5, .ref q7, .ref q9, .ref q11, .ref q13])) :: (((((((([] : va_W) ++ (wd (mkAd ar (cAd q1 g2)) ac LS_X3 Zm)) ++ (wd (mkAd ar (cAd q3 g4)) ac LS_X4 Zm)) ++ (wd (mkAd ar (cAd q5 g6)) ac LS_X1 Zm)) ++ (wd (mkAd ar (cAd q7 g8)) ac LS_X9 Zm)) ++ (wd (mkAd ar (cAd q9 g10)) ac LS_X0 Zm)) ++ (wd (mkAd ar (cAd q11 g12)) ac LS_X6 Zm)) ++ (wd (mkAd ar (cAd q13 g14)) ac LS_X7 Zm))) := hD
  have look : ∀ (k : Nat) (d : CD), LC[k]? = some d → (((h0, .inr (10, [.ref q1, .ref q3, .ref q5, .ref q7, .ref q9, .ref q11, .ref q13])) :: (((((((([] : va_W) ++ (wd (mkAd ar (cAd q1 g2)) ac LS_X3 Zm)) ++ (wd (mkAd ar (cAd q3 g4)) ac LS_X4 Zm)) ++ (wd (mkAd ar (cAd q5 g6)) ac LS_X1 Zm)) ++ (wd (mkAd ar (cAd q7 g8)) ac LS_X9 Zm)) ++ (wd (mkAd ar (cAd q9 g10)) ac LS_X0 Zm)) ++ (wd (mkAd ar (cAd q11 g12)) ac LS_X6 Zm)) ++ (wd (mkAd ar (cAd q13 g14)) ac LS_X7 Zm))) : va_W)[piL.getD k 0]? = some (mkAd ar (cAd h0 (fun k => ([q1, g2 0, q3, g4 18, g4 19, g4 20, g4 21, g4 22, g4 23, g4 24, g4 25, g4 26, g4 27, g4 28, q7, g8 0, q9, g10 0, g10 1, g10 2, g10 3, q11, g12 0, g12 1, g12 2, g12 3, g12 4, g12 5, g12 6, g4 0, g4 1, g4 2, g4 3, g4 4, g4 5, g4 6, g4 7, g4 8, g4 9, g4 10, g4 11, g4 12, g4 13, g4 14, g4 15, g4 16, g4 17, q13, g14 0, g14 1, g14 2, g14 3, g14 4, g14 5, g14 6, g14 7, g14 8, g14 9, g14 10, g14 11, g14 12, g14 13, g14 14, g14 15, g14 16, q5, g6 0, g6 1, g6 2, g6 3, g6 4, g6 5, g6 6, g6 7, g6 8, g6 9, g6 10, g6 11, g6 12, g6 13, g6 14, g6 15, g6 16, g6 17, g6 18, g6 19, g6 20, g6 21, g6 22, g6 23, g6 24] : List Nat).getD k 0)) k, cE (mkAd ar (cAd h0 (fun k => ([q1, g2 0, q3, g4 18, g4 19, g4 20, g4 21, g4 22, g4 23, g4 24, g4 25, g4 26, g4 27, g4 28, q7, g8 0, q9, g10 0, g10 1, g10 2, g10 3, q11, g12 0, g12 1, g12 2, g12 3, g12 4, g12 5, g12 6, g4 0, g4 1, g4 2, g4 3, g4 4, g4 5, g4 6, g4 7, g4 8, g4 9, g4 10, g4 11, g4 12, g4 13, g4 14, g4 15, g4 16, g4 17, q13, g14 0, g14 1, g14 2, g14 3, g14 4, g14 5, g14 6, g14 7, g14 8, g14 9, g14 10, g14 11, g14 12, g14 13, g14 14, g14 15, g14 16, q5, g6 0, g6 1, g6 2, g6 3, g6 4, g6 5, g6 6, g6 7, g6 8, g6 9, g6 10, g6 11, g6 12, g6 13, g6 14, g6 15, g6 16, g6 17, g6 18, g6 19, g6 20, g6 21, g6 22, g6 23, g6 24] : List Nat).getD k 0))) ac (Zm k) d) := by
    intro k d hd
    have hk : k < 92 := (List.getElem?_eq_some_iff.mp hd).1
    match k, hk with
    | 0, _ => cases hd; rfl
    | 1, _ => cases hd; rfl
    | 2, _ => cases hd; rfl
    | 3, _ => cases hd; rfl
    | 4, _ => cases hd; rfl
    | 5, _ => cases hd; rfl
    | 6, _ => cases hd; rfl
    | 7, _ => cases hd; rfl
    | 8, _ => cases hd; rfl
    | 9, _ => cases hd; rfl
    | 10, _ => cases hd; rfl
    | 11, _ => cases hd; rfl
    | 12, _ => cases hd; rfl
    | 13, _ => cases hd; rfl
    | 14, _ => cases hd; rfl
    | 15, _ => cases hd; rfl
    | 16, _ => cases hd; rfl
    | 17, _ => cases hd; rfl
    | 18, _ => cases hd; rfl
    | 19, _ => cases hd; rfl
    | 20, _ => cases hd; rfl
    | 21, _ => cases hd; rfl
    | 22, _ => cases hd; rfl
    | 23, _ => cases hd; rfl
    | 24, _ => cases hd; rfl
    | 25, _ => cases hd; rfl
    | 26, _ => cases hd; rfl
    | 27, _ => cases hd; rfl
    | 28, _ => cases hd; rfl
    | 29, _ => cases hd; rfl
    | 30, _ => cases hd; rfl
    | 31, _ => cases hd; rfl
    | 32, _ => cases hd; rfl
    | 33, _ => cases hd; rfl
    | 34, _ => cases hd; rfl
    | 35, _ => cases hd; rfl
    | 36, _ => cases hd; rfl
    | 37, _ => cases hd; rfl
    | 38, _ => cases hd; rfl
    | 39, _ => cases hd; rfl
    | 40, _ => cases hd; rfl
    | 41, _ => cases hd; rfl
    | 42, _ => cases hd; rfl
    | 43, _ => cases hd; rfl
    | 44, _ => cases hd; rfl
    | 45, _ => cases hd; rfl
    | 46, _ => cases hd; rfl
    | 47, _ => cases hd; rfl
    | 48, _ => cases hd; rfl
    | 49, _ => cases hd; rfl
    | 50, _ => cases hd; rfl
    | 51, _ => cases hd; rfl
    | 52, _ => cases hd; rfl
    | 53, _ => cases hd; rfl
    | 54, _ => cases hd; rfl
    | 55, _ => cases hd; rfl
    | 56, _ => cases hd; rfl
    | 57, _ => cases hd; rfl
    | 58, _ => cases hd; rfl
    | 59, _ => cases hd; rfl
    | 60, _ => cases hd; rfl
    | 61, _ => cases hd; rfl
    | 62, _ => cases hd; rfl
    | 63, _ => cases hd; rfl
    | 64, _ => cases hd; rfl
    | 65, _ => cases hd; rfl
    | 66, _ => cases hd; rfl
    | 67, _ => cases hd; rfl
    | 68, _ => cases hd; rfl
    | 69, _ => cases hd; rfl
    | 70, _ => cases hd; rfl
    | 71, _ => cases hd; rfl
    | 72, _ => cases hd; rfl
    | 73, _ => cases hd; rfl
    | 74, _ => cases hd; rfl
    | 75, _ => cases hd; rfl
    | 76, _ => cases hd; rfl
    | 77, _ => cases hd; rfl
    | 78, _ => cases hd; rfl
    | 79, _ => cases hd; rfl
    | 80, _ => cases hd; rfl
    | 81, _ => cases hd; rfl
    | 82, _ => cases hd; rfl
    | 83, _ => cases hd; rfl
    | 84, _ => cases hd; rfl
    | 85, _ => cases hd; rfl
    | 86, _ => cases hd; rfl
    | 87, _ => cases hd; rfl
    | 88, _ => cases hd; rfl
    | 89, _ => cases hd; rfl
    | 90, _ => cases hd; rfl
    | 91, _ => cases hd; rfl
    | q + 92, h => exact absurd h (by omega)
  generalize hAD : mkAd ar (cAd h0 (fun k => ([q1, g2 0, q3, g4 18, g4 19, g4 20, g4 21, g4 22, g4 23, g4 24, g4 25, g4 26, g4 27, g4 28, q7, g8 0, q9, g10 0, g10 1, g10 2, g10 3, q11, g12 0, g12 1, g12 2, g12 3, g12 4, g12 5, g12 6, g4 0, g4 1, g4 2, g4 3, g4 4, g4 5, g4 6, g4 7, g4 8, g4 9, g4 10, g4 11, g4 12, g4 13, g4 14, g4 15, g4 16, g4 17, q13, g14 0, g14 1, g14 2, g14 3, g14 4, g14 5, g14 6, g14 7, g14 8, g14 9, g14 10, g14 11, g14 12, g14 13, g14 14, g14 15, g14 16, q5, g6 0, g6 1, g6 2, g6 3, g6 4, g6 5, g6 6, g6 7, g6 8, g6 9, g6 10, g6 11, g6 12, g6 13, g6 14, g6 15, g6 16, g6 17, g6 18, g6 19, g6 20, g6 21, g6 22, g6 23, g6 24] : List Nat).getD k 0)) = AD at look
  have hPf : va_P D vwCl (wd AD ac LC Zm) H := fun k q hq => by
    obtain ⟨d, hd, rfl⟩ := wd_inv hq
    exact hP _ _ (look k d hd)
  have hDf : va_D (Ah h0 s.heap.size) (wd AD ac LC Zm) := by
    refine ⟨fun i j p q hi hj e => ?_, fun k q hk => ?_⟩
    · obtain ⟨d1, g1, rfl⟩ := wd_inv hi
      obtain ⟨d2, g2, rfl⟩ := wd_inv hj
      have e1 := hD.1 _ _ _ _ (look i d1 g1) (look j d2 g2) e
      have i1 := pi_inv i (List.getElem?_eq_some_iff.mp g1).1
      have i2 := pi_inv j (List.getElem?_eq_some_iff.mp g2).1
      rw [← i1, e1, i2]
    · obtain ⟨d1, g1, rfl⟩ := wd_inv hk
      exact hD.2 _ _ (look k d1 g1)
  subst hAD
  have hAz : ∀ a, Ah h0 s.heap.size a → z ≤ a := fun a h => h.elim (fun e => e ▸ hz) (fun e => Nat.le_trans hz2 e)
  have hRo : ∀ g : Nat → Nat, RoP (mkAd ar (cAd h0 g)) rlC (Ah h0 s.heap.size) s s.heap := fun g q hq => by
    have : ∃ i, i < 6 ∧ rlC[i]? = some q ∧ q.1 = 1000 + i := by
      obtain ⟨i, hi⟩ := List.getElem?_of_mem hq
      have h6 : i < 6 := (List.getElem?_eq_some_iff.mp hi).1
      refine ⟨i, h6, hi, ?_⟩
      match i, h6 with
      | 0, _ => cases hi; rfl
      | 1, _ => cases hi; rfl
      | 2, _ => cases hi; rfl
      | 3, _ => cases hi; rfl
      | 4, _ => cases hi; rfl
      | 5, _ => cases hi; rfl
    obtain ⟨i, h6, hi, hq1⟩ := this
    obtain ⟨q1, q2, q3⟩ := q
    dsimp only at hq1
    subst hq1
    have ht := (hK.2.2.2.2.2 i q2 q3 hi).2
    show va_T .int (mkAd ar _ (1000 + i)) q2 _ _ _ _
    rw [show mkAd ar (cAd h0 g) (1000 + i) = ar i by unfold mkAd; rw [if_pos (by omega)]; congr 1; omega]
    exact ht.narrow (fun a h => hAz a h)
  obtain ⟨X2, hH⟩ := flat_in (rl := rlC) X (by decide) hPf hDf hS (hRo _)
  generalize hgg : (fun k => ([q1, g2 0, q3, g4 18, g4 19, g4 20, g4 21, g4 22, g4 23, g4 24, g4 25, g4 26, g4 27, g4 28, q7, g8 0, q9, g10 0, g10 1, g10 2, g10 3, q11, g12 0, g12 1, g12 2, g12 3, g12 4, g12 5, g12 6, g4 0, g4 1, g4 2, g4 3, g4 4, g4 5, g4 6, g4 7, g4 8, g4 9, g4 10, g4 11, g4 12, g4 13, g4 14, g4 15, g4 16, g4 17, q13, g14 0, g14 1, g14 2, g14 3, g14 4, g14 5, g14 6, g14 7, g14 8, g14 9, g14 10, g14 11, g14 12, g14 13, g14 14, g14 15, g14 16, q5, g6 0, g6 1, g6 2, g6 3, g6 4, g6 5, g6 6, g6 7, g6 8, g6 9, g6 10, g6 11, g6 12, g6 13, g6 14, g6 15, g6 16, g6 17, g6 18, g6 19, g6 20, g6 21, g6 22, g6 23, g6 24] : List Nat).getD k 0) = gg at hPf hDf X2 hH
  have hBB : ∀ q, Aa (mkAd ar (cAd h0 gg)) LC.length s.heap.size q → Ah h0 s.heap.size q := fun q hq => by
    rcases hq with ⟨k, hk, rfl⟩ | hq
    · exact hDf.2 k _ (wd_at (List.getElem?_eq_getElem hk))
    · exact Or.inr hq
  refine lv_iconst (v := 0) hx hb dX10_init_81 (by decide) ?_
  refine lv_istore_n (lv' := [(1, .int 0), (0, .ref h0)]) hx hb dX10_init_82 rfl hl (by decide) rfl (fun ls hl => ?_)
  refine sp_loop X2 (fun q hq => hAz q (hBB q hq)) hStr hLd hA71 (fun H locs ls hH hl => ?_) 71 0 Zm H locs ls rfl rfl hH (lv_sub hl [1, 0] rfl)
  have hcs : 91 ≤ (rmC 23 91 1176).cells ∧ 1176 ≤ (rmC 23 91 1176).slots := ⟨Nat.le_of_ble_eq_true rfl, Nat.le_of_ble_eq_true rfl⟩
  refine lv_aload_n hx hb dX10_init_111 rfl (lv_at hl 0 rfl) ?_
  refine cVXG (As := []) (rest := []) X2 hH kl_X10_74 kv_X10_layText (mt_X10_layYes hq1 hq2 hq3 hq4 hq5) lC_0 rfl rfl (Nat.le_of_ble_eq_true rfl) (Nat.le_of_ble_eq_true rfl) hcs hl.1 rfl (Nat.le_of_ble_eq_true rfl) dX10_init_112 (fun H locs hP hS => ?_)
  refine W.eq (g2 := F0 m 115 ls [.int (h5 4 6)]) rfl ?_
  refine lv_pop hx hb dX10_init_115 rfl ?_
  have hadE : (fun k => mkAd ar (cAd h0 gg) (sg k)) = mkAd ar (cAd h0 (fun k => mkAd ar (cAd h0 gg) (sg (k + 1)))) := by
    funext k
    by_cases hk : 1000 ≤ k
    · show mkAd ar (cAd h0 gg) (sg k) = _
      rw [sg_hi (by omega)]
      unfold mkAd
      rw [if_pos hk, if_pos hk]
    · match k, hk with
      | 0, _ => rfl
      | k + 1, hk =>
        show _ = (if 1000 ≤ k + 1 then _ else _)
        rw [if_neg hk]
        rfl
  rw [hadE] at hP
  have hD2 : va_D (Ah h0 s.heap.size) (wd (mkAd ar (cAd h0 (fun k => mkAd ar (cAd h0 gg) (sg (k + 1))))) ac LC (fun k => h5 (sg k))) := by
    rw [← hadE]
    have hI2 : Inj (fun k => mkAd ar (cAd h0 gg) (sg k)) LC.length := sg_I (wd_Inj hDf)
    refine (wd_D (sz := s.heap.size) hI2).weaken (fun k q hk hq => ?_)
    exact hBB _ (sg_A.mp hq)
  have hS2 : va_S (Ah h0 s.heap.size) s.heap H locs := ⟨hS.1, fun q h1 h2 => hS.2.1 q h1 (fun z => h2 (hBB q z)), fun q hq => hBB _ (hS.2.2 q hq)⟩
  obtain ⟨X3, hH⟩ := flat_in (rl := rlC) X (by decide) hP hD2 hS2 (hRo _)
  refine lv_aload_n hx hb dX10_init_116 rfl (lv_at hl 0 rfl) ?_
  refine W.eq (g2 := F0 m 117 ls [.ref (mkAd ar (cAd h0 (fun k => mkAd ar (cAd h0 gg) (sg (k + 1)))) 0)]) rfl ?_
  refine gR X3 hH fl_X10_10 lC_0 rfl dX10_init_117 ?_
  refine cVvG (As := []) (rest := []) X3 hH kl_X10_77 kv_X3_clear (mt_X3_clear hm) lC_1 rfl rfl (Nat.le_of_ble_eq_true rfl) (Nat.le_of_ble_eq_true rfl) hcs hl.1 rfl (Nat.le_of_ble_eq_true rfl) dX10_init_120 (fun H locs hH => ?_)
  exact kRetI X hD2 hH dX10_init_123
