/-! LAID: the draft becomes the setting, the setting the draft: seen as the same layout with the two blocks of cells exchanged -/
def LC2 : List CD := LC.set 3 (.inr (.inl (4, [some 48, some 4, some 11])))
def LC3 : List CD := LC2.set 0 (.inr (.inl (10, [some 1, some 3, some 66, some 15, some 17, some 22, some 30])))
theorem lk2 : LkC LC2 := fun k d h3 h0 h => by rw [LC2, List.getElem?_set_ne (Ne.symm h3)]; exact h
theorem lk3 : LkC LC3 := fun k d h3 h0 h => by rw [LC3, List.getElem?_set_ne (Ne.symm h0)]; exact lk2 k d h3 h0 h
theorem l2_0 : LC2[0]? = some (.inr (.inl (10, [some 1, some 3, some 66, some 15, some 17, some 22, some 48]))) := rfl
theorem l2_3 : LC2[3]? = some (.inr (.inl (4, [some 48, some 4, some 11]))) := rfl
theorem l3_0 : LC3[0]? = some (.inr (.inl (10, [some 1, some 3, some 66, some 15, some 17, some 22, some 30]))) := rfl
theorem l3_3 : LC3[3]? = some (.inr (.inl (4, [some 48, some 4, some 11]))) := rfl
/-- the exchange of the two blocks -/
def sg (k : Nat) : Nat := if 30 ≤ k ∧ k < 48 then k + 18 else if 48 ≤ k ∧ k < 66 then k - 18 else k
theorem sg_sg (k : Nat) : sg (sg k) = k := by
  unfold sg
  by_cases h1 : 30 ≤ k ∧ k < 48
  · rw [if_pos h1, if_neg (by omega), if_pos (by omega)]; omega
  · rw [if_neg h1]
    by_cases h2 : 48 ≤ k ∧ k < 66
    · rw [if_pos h2, if_pos (by omega)]; omega
    · rw [if_neg h2, if_neg h1, if_neg h2]
theorem sg_lt {k : Nat} (h : k < 92) : sg k < 92 := by
  unfold sg
  split
  · omega
  · split <;> omega
theorem sg_hi {k : Nat} (h : 92 ≤ k) : sg k = k := by
  unfold sg
  rw [if_neg (by omega), if_neg (by omega)]
def sgD (d : CD) : CD := match d with
  | .inl q => .inl q
  | .inr (.inl q) => .inr (.inl (q.1, q.2.map (fun o => o.map sg)))
  | .inr (.inr q) => .inr (.inr (q.1, q.2.map sg))
theorem sg_lay : ∀ k, k < 92 → LC3[sg k]? = (LC[k]?).map sgD := by
  intro k hk
  match k, hk with
  | 0, _ => rfl
  | 1, _ => rfl
  | 2, _ => rfl
  | 3, _ => rfl
  | 4, _ => rfl
  | 5, _ => rfl
  | 6, _ => rfl
  | 7, _ => rfl
  | 8, _ => rfl
  | 9, _ => rfl
  | 10, _ => rfl
  | 11, _ => rfl
  | 12, _ => rfl
  | 13, _ => rfl
  | 14, _ => rfl
  | 15, _ => rfl
  | 16, _ => rfl
  | 17, _ => rfl
  | 18, _ => rfl
  | 19, _ => rfl
  | 20, _ => rfl
  | 21, _ => rfl
  | 22, _ => rfl
  | 23, _ => rfl
  | 24, _ => rfl
  | 25, _ => rfl
  | 26, _ => rfl
  | 27, _ => rfl
  | 28, _ => rfl
  | 29, _ => rfl
  | 30, _ => rfl
  | 31, _ => rfl
  | 32, _ => rfl
  | 33, _ => rfl
  | 34, _ => rfl
  | 35, _ => rfl
  | 36, _ => rfl
  | 37, _ => rfl
  | 38, _ => rfl
  | 39, _ => rfl
  | 40, _ => rfl
  | 41, _ => rfl
  | 42, _ => rfl
  | 43, _ => rfl
  | 44, _ => rfl
  | 45, _ => rfl
  | 46, _ => rfl
  | 47, _ => rfl
  | 48, _ => rfl
  | 49, _ => rfl
  | 50, _ => rfl
  | 51, _ => rfl
  | 52, _ => rfl
  | 53, _ => rfl
  | 54, _ => rfl
  | 55, _ => rfl
  | 56, _ => rfl
  | 57, _ => rfl
  | 58, _ => rfl
  | 59, _ => rfl
  | 60, _ => rfl
  | 61, _ => rfl
  | 62, _ => rfl
  | 63, _ => rfl
  | 64, _ => rfl
  | 65, _ => rfl
  | 66, _ => rfl
  | 67, _ => rfl
  | 68, _ => rfl
  | 69, _ => rfl
  | 70, _ => rfl
  | 71, _ => rfl
  | 72, _ => rfl
  | 73, _ => rfl
  | 74, _ => rfl
  | 75, _ => rfl
  | 76, _ => rfl
  | 77, _ => rfl
  | 78, _ => rfl
  | 79, _ => rfl
  | 80, _ => rfl
  | 81, _ => rfl
  | 82, _ => rfl
  | 83, _ => rfl
  | 84, _ => rfl
  | 85, _ => rfl
  | 86, _ => rfl
  | 87, _ => rfl
  | 88, _ => rfl
  | 89, _ => rfl
  | 90, _ => rfl
  | 91, _ => rfl
  | q + 92, h => exact absurd h (by omega)
theorem cE_sg {ad : Nat → Nat} {ac : Nat → ClassId} {r : Nat → Int32} (d : CD) : cE (fun k => ad (sg k)) ac r d = cE ad ac r (sgD d) := by
  match d with
  | .inl q => rfl
  | .inr (.inl q) =>
    show Sum.inr (q.1, cFl (fun k => ad (sg k)) r 0 q.2) = Sum.inr (q.1, cFl ad r 0 (q.2.map (fun o => o.map sg)))
    congr 2
    apply List.ext_getElem?
    intro i
    rw [cF0_get, cF0_get, List.getElem?_map]
    cases q.2[i]? with
    | none => rfl
    | some o => cases o <;> rfl
  | .inr (.inr q) =>
    show Sum.inl (ac q.1, q.2.length, _) = Sum.inl (ac q.1, (q.2.map sg).length, _)
    rw [List.length_map]
    congr 6
    refine congrArg Sum.inr (funext fun j => ?_)
    show (q.2.map (fun k => ad (sg k)))[j]? = ((q.2.map sg).map ad)[j]?
    rw [List.map_map]
    rfl
theorem LC_len : LC.length = 92 := rfl
theorem LC2_len : LC2.length = 92 := rfl
theorem LC3_len : LC3.length = 92 := rfl
/-- the same cells, by the other names -/
theorem sg_P {D : va_G} {ad : Nat → Nat} {ac : Nat → ClassId} {h : Mm} {H : Heap} (hP : va_P D vwCl (wd ad ac LC3 h) H) : va_P D vwCl (wd (fun k => ad (sg k)) ac LC (fun k => h (sg k))) H := by
  intro k q hq
  obtain ⟨d, hd, rfl⟩ := wd_inv hq
  have hk : k < 92 := (List.getElem?_eq_some_iff.mp hd).1
  have h3 := sg_lay k hk
  rw [hd] at h3
  have := hP (sg k) _ (wd_at h3)
  rw [cE_sg]
  exact this
theorem sg_A {ad : Nat → Nat} {sz q : Nat} : Aa (fun k => ad (sg k)) 92 sz q ↔ Aa ad 92 sz q := by
  constructor
  · rintro (⟨k, hk, rfl⟩ | h)
    · exact Or.inl ⟨sg k, sg_lt hk, rfl⟩
    · exact Or.inr h
  · rintro (⟨k, hk, rfl⟩ | h)
    · exact Or.inl ⟨sg k, sg_lt hk, by show ad (sg (sg k)) = ad k; rw [sg_sg]⟩
    · exact Or.inr h
theorem sg_I {ad : Nat → Nat} (hI : Inj ad 92) : Inj (fun k => ad (sg k)) 92 := by
  intro i j hi hj e
  have := hI (sg i) (sg j) (sg_lt hi) (sg_lt hj) e
  rw [← sg_sg i, this, sg_sg]
/-- contracts that end in another layout, by other addresses -/
def QX (D : va_G) (ad : Nat → Nat) (n : Nat) (ac : Nat → ClassId) (r : Option Value) (ad' : Nat → Nat) (L' : List CD) (h' : Mm) (sz : Nat) : Array Value → State → Outcome → State → Prop := fun _ st oc t => oc = .returned r ∧ va_P D vwCl (wd ad' ac L' h') t.heap ∧ va_F (Aa ad n sz) st t
def MtX (l : Launch) (D : va_G) (ad : Nat → Nat) (ac : Nat → ClassId) (L : List CD) (rl : RomL) (y : MethodName) (cc : ByteArray) (nL : Nat) (ret : Option FieldType) (d : Nat) (As : List Value) (h : Mm) (r : Option Value) (ad' : Nat → Nat) (L' : List CD) (h' : Mm) : Prop :=
  ∀ sz : Nat, Met l y (wsy y cc nL ret) (rmD d) (va_Pc As (PU D ad ac L rl sz h)) (QX D ad L.length ac r ad' L' h' sz) 0 0 (Aa ad L.length sz)
theorem MtX.of {l : Launch} {D : va_G} {ad : Nat → Nat} {ac : Nat → ClassId} {L : List CD} {rl : RomL} {y : MethodName} {cc : ByteArray} {nL : Nat} {ret : Option FieldType} {d : Nat} {As : List Value} {h : Mm} {r : Option Value} {ad' : Nat → Nat} {L' : List CD} {h' : Mm} {own : String}
    (hy : plainName y.cls = true) (hcl : y.cls = own) (hlen : (lg_sl As).length ≤ nL)
    (body : ∀ (p : Program) (e : Env) (s : State) (m : MethodId) (below : List Frame) (meth : Method) (c : Code) (ls : Array Slot), Fx p s m As.toArray meth c cc nL own ret D ad ac L rl → Hp D ad ac L h s s.heap [] → lv_has ls nL (lv_args 0 As) →
      W p l e (rmD d) s m As.toArray below meth c s.heap [] 0 0 (MQ below (QX D ad L.length ac r ad' L' h' s.heap.size) As.toArray s 0 0 (Aa ad L.length s.heap.size)) (F0 m 0 ls [])) : MtX l D ad ac L rl y cc nL ret d As h r ad' L' h' := by
  intro sz
  refine Met.ofW (cc := cc) (maxL := nL) (ret := ret) hy rfl ?_
  intro p e s m args below meth c s₁ B hml hv
  obtain ⟨rfl, rfl, hP, hC, hI, hR⟩ := hv
  have hts := atoms_spec (ws := wsy y cc nL ret) B.pre
  have hown : s.vm.findClass own = some m.cls := hcl ▸ findClass_of_methodNamed B.named
  have hl := lv_entry As (n := nL) hlen
  rw [lg_entry_eq]
  exact body p e s m below meth c _ ⟨B.exec, B.bytes, hml, hown, fun w hw => hts w (List.mem_cons_of_mem _ hw), B.returns, B.notSynchronized, hC, hI, hR⟩ ⟨hP, va_S.rf⟩ hl
section LAYROWS
variable {p : Program} {l : Launch} {e : Env} {R : Room} {s : State} {m : MethodId} {args : Array Value} {below : List Frame} {meth : Method} {c : Code} {H : Heap} {locs : List Loc} {cells slots : Nat} {Q : State → Prop}
variable {cc : ByteArray} {nL : Nat} {own : String} {ret : Option FieldType} {D : va_G} {ad ad' : Nat → Nat} {ac : Nat → ClassId} {L L' : List CD} {rl : RomL} {h h' : Mm} {pc : Nat} {ls : Array Slot} {rest st : List Value} {k j ci index n d d1 : Nat} {fs : List (Option Nat)}
theorem Fx.len (hlen : L.length = L'.length) (X : Fx p s m args meth c cc nL own ret D ad ac L rl) : Fx p s m args meth c cc nL own ret D ad ac L' rl := by
  unfold Fx at X ⊢
  rw [← hlen]
  exact X
/-- putfield of a reference -/
theorem pR (X : Fx p s m args meth c cc nL own ret D ad ac L rl) (hH : Hp D ad ac L h s H locs) (hF : FL own index ci j) {C : String} (hW : FW ci j (.object C)) (hk : L[k]? = some (.inr (.inl (ci, fs)))) (hj : j < fs.length) {k1 : Nat} (hdg : decode cc pc = .ok (.putfield index, 3))
    (kk : ∀ (H1 : Heap) (locs1 : List Loc), Hp D ad ac (L.set k (.inr (.inl (ci, fs.set j (some k1))))) h s H1 locs1 → W p l e R s m args below meth c H1 locs1 cells slots Q (F0 m (pc + 3) ls rest)) : W p l e R s m args below meth c H locs cells slots Q (F0 m pc ls (.ref (ad k1) :: .ref (ad k) :: rest)) := by
  have X' := X
  obtain ⟨hx, hb, hml, hown, hts, hr, hlk, hC, hI, hR⟩ := X
  obtain ⟨q, hq, hcl, hjN, hlink, hdecl⟩ := hF
  obtain ⟨q', hq', hpt, hfin⟩ := hW
  cases hq.symm.trans hq'
  obtain ⟨h1, ⟨ty0, h2⟩, h3⟩ := hcl
  have hlen : j < (cFl ad (h k) 0 fs).length := by rw [cFl_len]; exact hj
  refine va_put (D := D) (ci := ci) (v := .ref (ad k1)) (ty := .object C) (C := q.1) (T := q.2.1) (N := q.2.2) hx hb hts h1 ty0 h2 h3 hown hC.1 hH.1 (hpD X') hH.2 k (wd_at hk) hq j hjN (hts _ hlink) (fun x hxx => by rw [hdecl] at hxx; exact hxx) hfin hpt rfl rfl hlen hdg (fun H1 locs1 hP hD hS => ?_)
  refine kk H1 locs1 ⟨?_, by rw [List.length_set]; exact hS⟩
  have hw : (wd ad ac L h).set k (ad k, .inr (ci, (cFl ad (h k) 0 fs).set j (.ref (ad k1)))) = wd ad ac (L.set k (.inr (.inl (ci, fs.set j (some k1))))) h := by
    apply List.ext_getElem?
    intro i
    by_cases hi : i = k
    · subst hi
      have hl : i < L.length := (List.getElem?_eq_some_iff.mp hk).1
      rw [List.getElem?_set_self (by rw [wd_len]; exact hl), wd_at (List.getElem?_set_self hl)]
      congr 2
      show Sum.inr (ci, (cFl ad (h i) 0 fs).set j (.ref (ad k1))) = Sum.inr (ci, cFl ad (h i) 0 (fs.set j (some k1)))
      congr 2
      apply List.ext_getElem?
      intro z
      by_cases hz : z = j
      · subst hz
        rw [List.getElem?_set_self hlen, cF0_get, List.getElem?_set_self hj]
        rfl
      · rw [List.getElem?_set_ne (Ne.symm hz), cF0_get, cF0_get, List.getElem?_set_ne (Ne.symm hz)]
    · rw [List.getElem?_set_ne (Ne.symm hi)]
      rw [wd_get, wd_get, List.getElem?_set_ne (Ne.symm hi)]
  rw [← hw]
  exact hP
/-- behind a call of a method that ends in another layout of as many cells, at the same addresses -/
theorem callGoX {A1 : Array Value} {r : Option Value} (X : Fx p s m args meth c cc nL own ret D ad ac L rl) (hH : Hp D ad ac L h s H locs) (hlen : L'.length = L.length)
    (hr : va_Run p l e (rmD d) s m args below meth c H locs 0 0 0 0 (F0 m pc ls st) rest (QX D ad L.length ac r ad L' h' H.size A1) (Aa ad L.length H.size))
    (kk : ∀ (H1 : Heap) (locs1 : List Loc), Hp D ad ac L' h' s H1 locs1 → W p l e (rmD d) s m args below meth c H1 locs1 0 0 Q (F0 m (pc + 3) ls (r.toList ++ rest))) : W p l e (rmD d) s m args below meth c H locs 0 0 Q (F0 m pc ls st) := by
  intro T hT X1
  obtain ⟨v, st₀, t, T', L1, h0, X', hL, e1, e2, ⟨hv, hp, hz, hk⟩, stp⟩ := hr T hT X1
  cases hv
  rw [h0] at hz hk
  obtain ⟨t2, a1, b1⟩ := kk T'.heap (locs ++ L1) ⟨by rw [e1]; exact hp, by
    rw [hlen]
    refine ⟨Nat.le_trans hH.2.1 (by rw [e1]; exact hz), fun q h1 h2 => ?_, fun q hq => ?_⟩
    · rw [e1, hk q (Nat.lt_of_lt_of_le h1 hH.2.1) (fun z => h2 (Aa.le hH.2.1 z))]
      exact hH.2.2.1 q h1 h2
    · rcases List.mem_append.mp hq with h | h
      · exact hH.2.2.2 q h
      · exact Aa.le hH.2.1 (hL q h)⟩ T' rfl X'
  exact ⟨t2, stp t2 a1, b1⟩
theorem cVX {y : MethodName} {cc1 : ByteArray} {nL1 : Nat} {ret1 : Option FieldType} {As : List Value} {r : Option Value} (X : Fx p s m args meth c cc nL own ret D ad ac L rl) (hH : Hp D ad ac L h s H locs) (hlen : L'.length = L.length) (hC : CL own index y cc1 nL1 ret1 n) (hV : CLv y) (hM : MtX l D ad ac L rl y cc1 nL1 ret1 d1 (.ref (ad k) :: As) h r ad L' h') (hk : L[k]? = some (.inr (.inl (ci, fs)))) (hc : (vwCl[ci]?).map (fun q => q.1) = some y.cls) (hn : As.length = n) (hd : d1 + 1 ≤ d) (hls : ls.size = nL) (hst : st = As.reverse ++ .ref (ad k) :: rest) (hW : (rest.map fun v => v.category).sum ≤ 8) (hdg : decode cc pc = .ok (.invokevirtual index, 3))
    (kk : ∀ (H1 : Heap) (locs1 : List Loc), Hp D ad ac L' h' s H1 locs1 → W p l e (rmD d) s m args below meth c H1 locs1 0 0 Q (F0 m (pc + 3) ls (r.toList ++ rest))) : W p l e (rmD d) s m args below meth c H locs 0 0 Q (F0 m pc ls st) := by
  have hq : ∃ q : vw_C, vwCl[ci]? = some q ∧ q.1 = y.cls := by
    cases hv : vwCl[ci]? with
    | none => rw [hv] at hc; cases hc
    | some q => rw [hv] at hc; exact ⟨q, rfl, Option.some.inj hc⟩
  obtain ⟨q, hq1, hq2⟩ := hq
  have hrecv := va_recv (D := D) X.2.2.2.2.2.2.2.1.1 hH.1 hq1 (wd_at hk)
  rw [hq2] at hrecv
  exact callGoX X hH hlen (va_runV (C := y.cls) (As := As) ⟨X.1, X.2.1, X.2.2.1, X.2.2.2.1, X.2.2.2.2.1⟩ (hM H.size) ⟨CL.B X hC hd, X.2.2.2.2.1 _ hV.1, X.2.2.2.2.1 _ hV.2⟩ ⟨PU.blind, hrecv, fun U hU hWm => ⟨rfl, PU.ready X hH hU hWm⟩⟩ rfl hn hls hst (lv_room hW) hdg ⟨Nat.zero_le _, Nat.zero_le _⟩) kk
theorem retVX (X : Fx p s m args meth c cc nL own none D ad ac L rl) (hH : Hp D ad ac L h s H locs) (hn : L.length = n) (hdg : decode cc pc = .ok (.return_, 1)) : W p l e R s m args below meth c H locs 0 0 (MQ below (QX D ad n ac none ad L h s.heap.size) args s 0 0 (Aa ad n s.heap.size)) (F0 m pc ls []) := by
  subst hn
  exact W.vret X.1 X.2.1 X.2.2.2.2.2.1 (fun t ht hW => ⟨rfl, by rw [ht]; exact hH.1, hH.2.F ht⟩) hH.2.2.2 hdg X.2.2.2.2.2.2.1
theorem retIX (X : Fx p s m args meth c cc nL own (some .int) D ad ac L rl) (hH : Hp D ad ac L h s H locs) (hn : L.length = n) {v : Int32} (hP : ∀ t : State, va_P D vwCl (wd ad ac L h) t.heap → va_P D vwCl (wd ad' ac L' h') t.heap) (hdg : decode cc pc = .ok (.ireturn, 1)) : W p l e R s m args below meth c H locs 0 0 (MQ below (QX D ad n ac (some (.int v)) ad' L' h' s.heap.size) args s 0 0 (Aa ad n s.heap.size)) (F0 m pc ls [.int v]) := by
  subst hn
  exact W.iret (v := v) X.1 X.2.1 X.2.2.2.2.2.1 (fun t ht hW => ⟨rfl, hP t (by rw [ht]; exact hH.1), hH.2.F ht⟩) hH.2.2.2 hdg X.2.2.2.2.2.2.1
end LAYROWS
theorem fw_4_0 : FW 4 0 (.object "StationPasses$Setting") := ⟨_, rfl, by decide +kernel, rfl⟩
theorem fw_10_6 : FW 10 6 (.object "StationPasses$Setting") := ⟨_, rfl, by decide +kernel, rfl⟩
theorem kl_X10_74' : CL RX10 74 yX10_layText cX10_layText 2 (some .int) 0 := kl_X10_74
/-- Network.layOut(draft) -/
theorem mt_X4_layOut {l : Launch} {D : va_G} {ad : Nat → Nat} {ac : Nat → ClassId} {h h1 h2 : Mm} (hf : mX5_find h = some h1) (hc : mX8_clear h1 = some h2) : MtX l D ad ac LC rlC yX4_layOut cX4_layOut 2 none 12 [.ref (ad 3), .ref (ad 48)] h none ad LC2 h2 := by
  refine MtX.of (own := RX4) (by decide) rfl (Nat.le_of_ble_eq_true rfl) ?_
  intro p e s m below meth c ls X hH hl
  obtain ⟨hx, hb, hml, hown, hts, hr, hlk, hC, hI, hR⟩ := id X
  have hl : lv_has ls 2 [(0, .ref (ad 3)), (1, .ref (ad 48))] := hl
  refine lv_aload_n hx hb dX4_layOut_0 rfl (lv_at hl 0 rfl) ?_
  refine lv_aload_n hx hb dX4_layOut_1 rfl (lv_at hl 1 rfl) ?_
  refine pR X hH fl_X4_12 fw_4_0 lC_3 (by decide) dX4_layOut_2 (fun H locs hH => ?_)
  have hH : Hp D ad ac LC2 h s H locs := hH
  have X2 := Fx.len (L' := LC2) rfl X
  refine lv_aload_n hx hb dX4_layOut_5 rfl (lv_at hl 0 rfl) ?_
  refine gR X2 hH fl_X4_21 l2_3 rfl dX4_layOut_6 ?_
  refine lv_aload_n hx hb dX4_layOut_9 rfl (lv_at hl 1 rfl) ?_
  refine cVv X2 hH kl_X4_32 kv_X5_find (mt_X5_find lk2 hf) (lk2 4 _ (by decide) (by decide) lC_4) rfl rfl (by decide) hl.1 rfl (Nat.le_of_ble_eq_true rfl) dX4_layOut_10 (fun H locs hH => ?_)
  refine lv_aload_n hx hb dX4_layOut_13 rfl (lv_at hl 0 rfl) ?_
  refine gR X2 hH fl_X4_28 l2_3 rfl dX4_layOut_14 ?_
  refine cVv X2 hH kl_X4_36 kv_X8_clear (mt_X8_clear lk2 hc) (lk2 11 _ (by decide) (by decide) lC_11) rfl rfl (by decide) hl.1 rfl (Nat.le_of_ble_eq_true rfl) dX4_layOut_17 (fun H locs hH => ?_)
  exact retVX X2 hH rfl dX4_layOut_20
/-- layText: refused -/
theorem mt_X10_layNo {l : Launch} {D : va_G} {ad : Nat → Nat} {ac : Nat → ClassId} {h h1 : Mm} {v : Int32} (hv : mX7_readAll h = some (v, h1)) (hne : ¬ v = -4) : MtX l D ad ac LC rlC yX10_layText cX10_layText 2 (some .int) 20 [.ref (ad 0)] h (some (.int (-2))) ad LC h1 := by
  refine MtX.of (own := RX10) (by decide) rfl (Nat.le_of_ble_eq_true rfl) ?_
  intro p e s m below meth c ls X hH hl
  obtain ⟨hx, hb, hml, hown, hts, hr, hlk, hC, hI, hR⟩ := id X
  have hl : lv_has ls 2 [(0, .ref (ad 0))] := hl
  refine lv_aload_n hx hb dX10_layText_0 rfl (lv_at hl 0 rfl) ?_
  refine gR X hH fl_X10_54 lC_0 rfl dX10_layText_1 ?_
  refine lv_aload_n hx hb dX10_layText_4 rfl (lv_at hl 0 rfl) ?_
  refine gR X hH fl_X10_10 lC_0 rfl dX10_layText_5 ?_
  refine cVi X hH kl_X10_83 kv_X7_readAll (mt_X7_readAll hv) lC_48 rfl rfl (by decide) hl.1 rfl (Nat.le_of_ble_eq_true rfl) dX10_layText_8 (fun H locs hH => ?_)
  refine lv_bipush (v := (-4)) hx hb dX10_layText_11 (by decide) ?_
  refine lv_icmp_eq hx hb dX10_layText_13 (tgt := 19) (by decide) (fun hc => absurd hc hne) (fun hc => ?_)
  refine lv_bipush (v := (-2)) hx hb dX10_layText_16 (by decide) ?_
  exact retIX X hH rfl (fun t ht => ht) dX10_layText_18
/-- layText: laid -/
theorem mt_X10_layYes {l : Launch} {D : va_G} {ad : Nat → Nat} {ac : Nat → ClassId} {h h1 h2 h3 h4 h5 : Mm} (hv : mX7_readAll h = some (-4, h1)) (hf : mX5_find h1 = some h2) (hc : mX8_clear h2 = some h3) (hk : mX1_clear h3 = some h4) (hg : mX6_forget h4 = some h5) : MtX l D ad ac LC rlC yX10_layText cX10_layText 2 (some .int) 20 [.ref (ad 0)] h (some (.int (h5 4 6))) (fun k => ad (sg k)) LC (fun k => h5 (sg k)) := by
  refine MtX.of (own := RX10) (by decide) rfl (Nat.le_of_ble_eq_true rfl) ?_
  intro p e s m below meth c ls X hH hl
  obtain ⟨hx, hb, hml, hown, hts, hr, hlk, hC, hI, hR⟩ := id X
  have hl : lv_has ls 2 [(0, .ref (ad 0))] := hl
  refine lv_aload_n hx hb dX10_layText_0 rfl (lv_at hl 0 rfl) ?_
  refine gR X hH fl_X10_54 lC_0 rfl dX10_layText_1 ?_
  refine lv_aload_n hx hb dX10_layText_4 rfl (lv_at hl 0 rfl) ?_
  refine gR X hH fl_X10_10 lC_0 rfl dX10_layText_5 ?_
  refine cVi X hH kl_X10_83 kv_X7_readAll (mt_X7_readAll hv) lC_48 rfl rfl (by decide) hl.1 rfl (Nat.le_of_ble_eq_true rfl) dX10_layText_8 (fun H locs hH => ?_)
  refine lv_bipush (v := (-4)) hx hb dX10_layText_11 (by decide) ?_
  refine lv_icmp_eq hx hb dX10_layText_13 (tgt := 19) (by decide) (fun hc => ?_) (fun hc => absurd rfl hc)
  refine lv_aload_n hx hb dX10_layText_19 rfl (lv_at hl 0 rfl) ?_
  refine gR X hH fl_X10_19 lC_0 rfl dX10_layText_20 ?_
  refine gR X hH fl_X10_87 lC_3 rfl dX10_layText_23 ?_
  refine lv_astore_n (lv' := [(1, .ref (ad 30)), (0, .ref (ad 0))]) hx hb dX10_layText_26 rfl hl (by decide) rfl (fun ls hl => ?_)
  refine lv_aload_n hx hb dX10_layText_27 rfl (lv_at hl 1 rfl) ?_
  refine gR X hH fl_X10_19 lC_0 rfl dX10_layText_28 ?_
  refine lv_aload_n hx hb dX10_layText_31 rfl (lv_at hl 1 rfl) ?_
  refine gR X hH fl_X10_54 lC_0 rfl dX10_layText_32 ?_
  refine cVX (L' := LC2) X hH rfl kl_X10_279 kv_X4_layOut (mt_X4_layOut hf ‹_›) lC_3 rfl rfl (by decide) hl.1 rfl (Nat.le_of_ble_eq_true rfl) dX10_layText_35 (fun H locs hH => ?_)
  have X2 := Fx.len (L' := LC2) rfl X
  refine W.eq (g2 := F0 m 38 ls []) rfl ?_
  refine lv_aload_n hx hb dX10_layText_38 rfl (lv_at hl 1 rfl) ?_
  refine lv_aload_n hx hb dX10_layText_39 rfl (lv_at hl 0 rfl) ?_
  refine pR X2 hH fl_X10_54 fw_10_6 l2_0 (by decide) dX10_layText_40 (fun H locs hH => ?_)
  have hH : Hp D ad ac LC3 h3 s H locs := hH
  have X3 := Fx.len (L' := LC3) rfl X
  refine lv_aload_n hx hb dX10_layText_43 rfl (lv_at hl 1 rfl) ?_
  refine gR X3 hH fl_X10_26 l3_0 rfl dX10_layText_44 ?_
  refine cVv X3 hH kl_X10_283 kv_X1_clear (mt_X1_clear lk3 hk) (lk3 66 _ (by decide) (by decide) lC_66) rfl rfl (by decide) hl.1 rfl (Nat.le_of_ble_eq_true rfl) dX10_layText_47 (fun H locs hH => ?_)
  refine lv_aload_n hx hb dX10_layText_50 rfl (lv_at hl 1 rfl) ?_
  refine gR X3 hH fl_X10_47 l3_0 rfl dX10_layText_51 ?_
  refine cVv X3 hH kl_X10_204 kv_X6_forget (mt_X6_forget lk3 hg) (lk3 22 _ (by decide) (by decide) lC_22) rfl rfl (by decide) hl.1 rfl (Nat.le_of_ble_eq_true rfl) dX10_layText_54 (fun H locs hH => ?_)
  refine lv_aload_n hx hb dX10_layText_57 rfl (lv_at hl 1 rfl) ?_
  refine gR X3 hH fl_X10_19 l3_0 rfl dX10_layText_58 ?_
  refine gR X3 hH fl_X10_146 l3_3 rfl dX10_layText_61 ?_
  refine gI X3 hH fl_X10_273 (lk3 4 _ (by decide) (by decide) lC_4) rfl dX10_layText_64 ?_
  exact retIX X3 hH rfl (fun t ht => sg_P ht) dX10_layText_67
