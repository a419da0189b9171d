/-! CONSTRUCTORS: the object under way stands first; what it has made stands behind it as flat worlds, all zero -/
def Zm : Mm := fun _ _ => 0
def mkAd (ar f : Nat → Nat) : Nat → Nat := fun k => if 1000 ≤ k then ar (k - 1000) else f k
def cAd (h0 : Nat) (g : Nat → Nat) : Nat → Nat := fun k => match k with
  | 0 => h0
  | k + 1 => g k
def rmC (d mc ms : Nat) : Room := { frames := d, cells := mc, slots := ms, locals := 40 * d }
def Ah (h0 sz : Nat) : Nat → Prop := fun q => q = h0 ∨ sz ≤ q
def stN : List String := ["SAT_LOWS", "SAT_HIGHS", "STATION_LOWS", "STATION_HIGHS", "ANTENNA_LOWS", "ANTENNA_HIGHS"]
def OldP (ar : Nat → Nat) (z : Nat) (U : State) (H : Heap) : Prop := ∀ q n f, rlC[q]? = some (1000 + q, n, f) → va_Z "StationPasses" (stN.getD q "") "[I" (.ref (ar q)) (fun a => z ≤ a) U H ∧ va_T .int (ar q) n (fun j => .int (f j)) (fun a => z ≤ a) U H
theorem OldP.moved {ar : Nat → Nat} {z : Nat} {u U : State} {H : Heap} (hvm : u.vm.Alike U.vm) (h : OldP ar z u H) : OldP ar z U H := fun q n f hq => ⟨va_Z.moved hvm (h q n f hq).1, va_T.moved hvm (h q n f hq).2⟩
theorem OldP.kept {ar : Nat → Nat} {z : Nat} {U : State} {H H1 : Heap} (h : OldP ar z U H) (hq : ∀ a : Nat, a < H.size → ¬ z ≤ a → H1[a]? = H[a]?) : OldP ar z U H1 := fun q n f hr => ⟨(h q n f hr).1.kept hq, (h q n f hr).2.kept hq⟩
/-- the words of nest mates: constructors' links (own, index, class), static arrays' links (index, number) -/
def nestM (own : String) (i : Nat) (C : String) : Cond := .methodLinkNest own i ⟨C, "<init>", "()V"⟩ "StationPasses"
def nestF (i q : Nat) : Cond := .fieldLinkNest "StationPasses$Setting" i "StationPasses" (stN.getD q "") "[I" "StationPasses"
def nMs : List (String × Nat × String) := [("StationPasses", 9, "StationPasses$Letters"), ("StationPasses", 18, "StationPasses$Network"), ("StationPasses$Network", 11, "StationPasses$Setting"), ("StationPasses$Network", 20, "StationPasses$Passes"), ("StationPasses$Network", 27, "StationPasses$State"), ("StationPasses$History", 17, "StationPasses$State"), ("StationPasses", 32, "StationPasses$Stores"), ("StationPasses", 39, "StationPasses$Chain"), ("StationPasses", 46, "StationPasses$Planner"), ("StationPasses", 53, "StationPasses$Setting")]
def nFs : List (Nat × Nat) := [(11, 0), (15, 1), (27, 2), (30, 3), (36, 4), (39, 5)]
def aoI : Cond := .arrayOver (.array .int)
def KX (D : va_G) (ac : Nat → ClassId) (ar : Nat → Nat) (z : Nat) (U : State) (H : Heap) : Prop :=
  Cx D ac U ∧ (∀ w ∈ nMs, va_Nw (nestM w.1 w.2.1 w.2.2) U) ∧ (∀ w ∈ nFs, va_Nw (nestF w.1 w.2) U) ∧ va_AO "StationPasses$State" U ∧ va_Nw aoI U ∧ OldP ar z U H
theorem aoI_full {s : State} (h : va_Nw aoI s) : ∃ (comp c : ClassId) (k : Class), s.vm.findClass (FieldType.array .int).toString = some comp ∧ (s.vm.classes.findIdx? fun (x : Class) => match x.kind with | .array component _ => component == comp | _ => false) = some c ∧ s.vm.classes[c]? = some k ∧ k.kind = .array comp (.array .int) ∧ s.vm.findClass ("[" ++ (FieldType.array .int).toString) = some c := by
  unfold va_Nw aoI Cond.before at h
  simp only [Cond.holds, Cond.value, beq_iff_eq] at h
  cases hc : s.vm.findClass (FieldType.array .int).toString with
  | none => simp [hc] at h
  | some comp =>
    simp only [hc, Option.bind_some, Option.bind_eq_some_iff, Option.map_eq_some_iff] at h
    obtain ⟨c, hi, k, hk, hb⟩ := h
    obtain ⟨hlt, hp, -⟩ := Array.findIdx?_eq_some_iff_getElem.mp hi
    have hkk : s.vm.classes[c] = k := (Array.getElem?_eq_some_iff.mp hk).2
    rw [hkk] at hp
    cases hkind : k.kind with
    | array component ty =>
      rw [hkind] at hb hp
      simp at hb hp
      exact ⟨comp, c, k, rfl, hi, hk, by rw [hkind, hp, hb.1], hb.2⟩
    | _ => rw [hkind] at hb; simp at hb
theorem aoI_moved {s U : State} (hvm : s.vm.Alike U.vm) (h : va_Nw aoI s) : va_Nw aoI U := by
  obtain ⟨comp, c, k, h1, h2, h3, h4, h5⟩ := aoI_full h
  obtain ⟨k', hk', he⟩ := hvm.2.2 _ _ h3
  have hi : (U.vm.classes.findIdx? fun (x : Class) => match x.kind with | .array component _ => component == comp | _ => false) = some c := by
    have e1 := va_idx_bare U.vm comp
    have e2 := va_idx_bare s.vm comp
    first | rw [hvm.bare_eq] at e1 | rw [← hvm.bare_eq] at e1
    exact (e1.symm.trans e2).trans h2
  have hkind : k'.kind = .array comp (.array .int) := by rw [he]; exact h4
  have f1 : U.vm.findClass (FieldType.array .int).toString = some comp := by rw [hvm.findClass]; exact h1
  have f2 : U.vm.findClass ("[" ++ (FieldType.array .int).toString) = some c := by rw [hvm.findClass]; exact h5
  unfold va_Nw aoI Cond.before Cond.holds
  simp only [Cond.value]
  rw [f1, Option.bind_some]
  refine (congrArg (fun o : Option Nat => (o.bind (fun c => (U.vm.classes[c]?).map fun (k : Class) => match k.kind with | .array _ ty => decide (ty = FieldType.array .int) && decide (U.vm.findClass ("[" ++ (FieldType.array .int).toString) = some c) | _ => false) == some true)) hi).trans ?_
  simp [hk', hkind, f2]
theorem KX.warm {D : va_G} {ac : Nat → ClassId} {ar : Nat → Nat} {z : Nat} {s U : State} {H : Heap} (hW : s.WarmedH U.vm) (h : KX D ac ar z s H) : KX D ac ar z U H :=
  ⟨h.1.warm hW, fun w hw => va_Nw.warmM hW (h.2.1 w hw), fun w hw => va_Nw.warmF hW (h.2.2.1 w hw), h.2.2.2.1.moved hW.alike, aoI_moved hW.alike h.2.2.2.2.1, h.2.2.2.2.2.moved hW.alike⟩
theorem KX.call {D : va_G} {ac : Nat → ClassId} {ar : Nat → Nat} {z : Nat} {U : State} {H : Heap} {g : JFrame} {mk : MethodId} {a : Array Value} (h : KX D ac ar z U H) : KX D ac ar z (U.calling g mk a) H :=
  ⟨h.1.call, fun w hw => va_Nw.same rfl (u := U) (U := U.calling g mk a) rfl (h.2.1 w hw), fun w hw => va_Nw.same rfl (u := U) (U := U.calling g mk a) rfl (h.2.2.1 w hw), va_AO.moved (u := U) (U := U.calling g mk a) (Vm.Alike.refl U.vm) h.2.2.2.1, aoI_moved (s := U) (U := U.calling g mk a) (Vm.Alike.refl U.vm) h.2.2.2.2.1, OldP.moved (u := U) (U := U.calling g mk a) (Vm.Alike.refl U.vm) h.2.2.2.2.2⟩
def PC (D : va_G) (ac : Nat → ClassId) (ar : Nat → Nat) (z ci : Nat) (vs : List Value) (h0 sz : Nat) (U : State) : Prop := U.heap.size = sz ∧ z ≤ h0 ∧ z ≤ sz ∧ va_P D vwCl [(h0, .inr (ci, vs))] U.heap ∧ KX D ac ar z U U.heap
def QC (D : va_G) (ac : Nat → ClassId) (ar : Nat → Nat) (LS : List CD) (h0 sz : Nat) : Array Value → State → Outcome → State → Prop := fun _ st oc t => oc = .returned none ∧ (∃ g : Nat → Nat, va_P D vwCl (wd (mkAd ar (cAd h0 g)) ac LS Zm) t.heap ∧ va_D (Ah h0 sz) (wd (mkAd ar (cAd h0 g)) ac LS Zm)) ∧ va_F (Ah h0 sz) st t
def MtC (l : Launch) (D : va_G) (ac : Nat → ClassId) (ar : Nat → Nat) (z : Nat) (y : MethodName) (cc : ByteArray) (nL d : Nat) (As : List Value) (ci : Nat) (vs : List Value) (LS : List CD) (mc ms : Nat) : Prop :=
  ∀ h0 sz : Nat, Met l y (wsy y cc nL none) (rmC d mc ms) (va_Pc (.ref h0 :: As) (PC D ac ar z ci vs h0 sz)) (QC D ac ar LS h0 sz) mc ms (Ah h0 sz)
def Fc (p : Program) (s : State) (m : MethodId) (args : Array Value) (meth : Method) (c : Code) (cc : ByteArray) (nL : Nat) (own : String) (D : va_G) (ac : Nat → ClassId) (ar : Nat → Nat) (z : Nat) : Prop :=
  p.tables.exec = Jvm.exec ∧ c.code = cc ∧ c.maxLocals = nL ∧ s.vm.findClass own = some m.cls ∧ (∀ w ∈ wg, w.before args s = true) ∧ meth.sig.returnType = none ∧ meth.locks = false ∧ meth.name = "<init>" ∧ KX D ac ar z s s.heap
theorem MtC.of {l : Launch} {D : va_G} {ac : Nat → ClassId} {ar : Nat → Nat} {z : Nat} {y : MethodName} {cc : ByteArray} {nL d : Nat} {As : List Value} {ci : Nat} {vs : List Value} {LS : List CD} {mc ms : Nat} {own : String}
    (hy : plainName y.cls = true) (hcl : y.cls = own) (hyn : y.name = "<init>") (hlen : (lg_sl (.ref 0 :: As)).length ≤ nL)
    (body : ∀ (p : Program) (e : Env) (s : State) (m : MethodId) (below : List Frame) (meth : Method) (c : Code) (ls : Array Slot) (h0 : Nat), Fc p s m (Value.ref h0 :: As).toArray meth c cc nL own D ac ar z → z ≤ h0 → z ≤ s.heap.size → va_P D vwCl ([(h0, .inr (ci, vs))]) s.heap → va_D (Ah h0 s.heap.size) ([(h0, .inr (ci, vs))]) → lv_has ls nL (lv_args 0 (.ref h0 :: As)) →
      W p l e (rmC d mc ms) s m (Value.ref h0 :: As).toArray below meth c s.heap [] 0 0 (MQ below (QC D ac ar LS h0 s.heap.size) (Value.ref h0 :: As).toArray s mc ms (Ah h0 s.heap.size)) (F0 m 0 ls [])) : MtC l D ac ar z y cc nL d As ci vs LS mc ms := by
  intro h0 sz
  refine Met.ofW (cc := cc) (maxL := nL) (ret := none) hy rfl ?_
  intro p e s m args below meth c s₁ B hml hv
  obtain ⟨rfl, rfl, hz, hz2, hP, hK⟩ := hv
  have hts := atoms_spec (ws := wsy y cc nL none) B.pre
  have hown : s.vm.findClass own = some m.cls := hcl ▸ findClass_of_methodNamed B.named
  have hl := lv_entry (.ref h0 :: As) (n := nL) hlen
  rw [lg_entry_eq]
  refine body p e s m below meth c _ h0 ⟨B.exec, B.bytes, hml, hown, fun w hw => hts w (List.mem_cons_of_mem _ hw), B.returns, B.notSynchronized, ?_, hK⟩ hz hz2 hP ⟨fun i j p q hi hj _ => ?_, fun k q hk => ?_⟩ hl
  · rw [(name_of_methodNamed B.named B.method).1]; exact hyn
  · have h1 : i < 1 := (List.getElem?_eq_some_iff.mp hi).1
    have h2 : j < 1 := (List.getElem?_eq_some_iff.mp hj).1
    omega
  · have h1 : k < 1 := (List.getElem?_eq_some_iff.mp hk).1
    rw [show k = 0 by omega] at hk
    cases hk
    exact Or.inl rfl
section CROWS
variable {p : Program} {l : Launch} {e : Env} {R : Room} {s : State} {m : MethodId} {args : Array Value} {below : List Frame} {meth : Method} {c : Code} {H : Heap} {locs : List Loc} {cells slots : Nat} {Q : State → Prop}
variable {cc : ByteArray} {nL : Nat} {own : String} {D : va_G} {ac : Nat → ClassId} {ar : Nat → Nat} {z : Nat} {A : Nat → Prop} {ws : va_W} {pc : Nat} {ls : Array Slot} {rest : List Value} {j ci index n : Nat} {vs : List Value} {h0 : Nat}
theorem kNewI (X : Fc p s m args meth c cc nL own D ac ar z) (hP : va_P D vwCl ws H) (hD : va_D A ws) (hS : va_S A s.heap H locs) (hA : ∀ q, s.heap.size ≤ q → A q) {x : Int32} {N : Nat} (hn : ¬ x < 0) (hN : x.toNatClampNeg = N) (hb : N ≤ 1000) (hw : Cond.arrayClass .int ∈ wg) (hcells : cells + 1 ≤ R.cells) (hslots : slots + N ≤ R.slots) (hdg : decode cc pc = .ok (.newarray .int, 2))
    (kk : ∀ (q : Nat) (H1 : Heap), va_P D vwCl (ws ++ [(q, .inl (ac 0, N, .inl (fun _ => 0)))]) H1 → va_D A (ws ++ [(q, .inl (ac 0, N, .inl (fun _ => 0)))]) → va_S A s.heap H1 locs → W p l e R s m args below meth c H1 locs (cells + 1) (slots + N) Q (F0 m (pc + 2) ls (.ref q :: rest))) : W p l e R s m args below meth c H locs cells slots Q (F0 m pc ls (.int x :: rest)) := by
  have hK := X.2.2.2.2.2.2.2.2.1.1
  refine va_newa (D := D) (atype := .int) (ty := .int) X.1 X.2.1 (X.2.2.2.2.1 _ hw) rfl hK hP hD hS hA (a0 := (N, .inl (fun _ => 0))) (fun cA => rfl) hn hN (by show N * 4 ≤ 536870912; omega) hcells hslots hdg (fun q cA H1 hK' hP' hD' hS' => ?_)
  have e1 : s.vm.findClass ("[" ++ FieldType.int.toString) = some cA := (hK'.2 4 _ rfl).2
  have e2 : s.vm.findClass ("[" ++ FieldType.int.toString) = some (ac 0) := (hK.2 0 _ rfl).2
  cases Option.some.inj (e1.symm.trans e2)
  exact kk q H1 hP' hD' hS'
theorem kNewC (X : Fc p s m args meth c cc nL own D ac ar z) (hP : va_P D vwCl ws H) (hD : va_D A ws) (hS : va_S A s.heap H locs) (hA : ∀ q, s.heap.size ≤ q → A q) {x : Int32} {N : Nat} (hn : ¬ x < 0) (hN : x.toNatClampNeg = N) (hb : N ≤ 1000) (hw : Cond.arrayClass .char ∈ wg) (hcells : cells + 1 ≤ R.cells) (hslots : slots + N ≤ R.slots) (hdg : decode cc pc = .ok (.newarray .char, 2))
    (kk : ∀ (q : Nat) (H1 : Heap), va_P D vwCl (ws ++ [(q, .inl (ac 1, N, .inl (fun _ => 0)))]) H1 → va_D A (ws ++ [(q, .inl (ac 1, N, .inl (fun _ => 0)))]) → va_S A s.heap H1 locs → W p l e R s m args below meth c H1 locs (cells + 1) (slots + N) Q (F0 m (pc + 2) ls (.ref q :: rest))) : W p l e R s m args below meth c H locs cells slots Q (F0 m pc ls (.int x :: rest)) := by
  have hK := X.2.2.2.2.2.2.2.2.1.1
  refine va_newa (D := D) (atype := .char) (ty := .char) X.1 X.2.1 (X.2.2.2.2.1 _ hw) rfl hK hP hD hS hA (a0 := (N, .inl (fun _ => 0))) (fun cA => rfl) hn hN (by show N * 2 ≤ 536870912; omega) hcells hslots hdg (fun q cA H1 hK' hP' hD' hS' => ?_)
  have e1 : s.vm.findClass ("[" ++ FieldType.char.toString) = some cA := (hK'.2 4 _ rfl).2
  have e2 : s.vm.findClass ("[" ++ FieldType.char.toString) = some (ac 1) := (hK.2 1 _ rfl).2
  cases Option.some.inj (e1.symm.trans e2)
  exact kk q H1 hP' hD' hS'
theorem kNew (X : Fc p s m args meth c cc nL own D ac ar z) (hP : va_P D vwCl ws H) (hD : va_D A ws) (hS : va_S A s.heap H locs) (hA : ∀ q, s.heap.size ≤ q → A q) {q : vw_C} (hc : vwCl[ci]? = some q) (hok : clOk q) (ty : Nat → FieldType) (hty : ∀ k, k < q.2.2 → parseFieldDescriptor (q.2.1 k).2.2.1 = some (ty k)) (hfs : ∀ j, j < q.2.2 → defaultValue (ty j) = vp_V vs j) (hcl : Cond.classLink own index q.1 ∈ wg) (hin : Cond.instantiable q.1 q.2.2 ∈ wg) (hini : Cond.initialized q.1 ∈ wg) (hcells : cells + 1 ≤ R.cells) (hslots : slots + q.2.2 ≤ R.slots) (hdg : decode cc pc = .ok (.new index, 3))
    (kk : ∀ (a : Nat) (H1 : Heap), va_P D vwCl (ws ++ [(a, .inr (ci, vs))]) H1 → va_D A (ws ++ [(a, .inr (ci, vs))]) → va_S A s.heap H1 locs → W p l e R s m args below meth c H1 locs (cells + 1) (slots + q.2.2) Q (F0 m (pc + 3) ls (.ref a :: rest))) : W p l e R s m args below meth c H locs cells slots Q (F0 m pc ls rest) := by
  have hts := X.2.2.2.2.1
  exact va_new (D := D) (ci := ci) (fs := vs) (C := q.1) (T := q.2.1) (N := q.2.2) X.1 X.2.1 hts hok.1 ty hty X.2.2.2.1 (hts _ hcl) (hts _ hin) (hts _ hini) X.2.2.2.2.2.2.2.2.1.1 hP hD hS hA hc hfs hcells hslots hdg kk
/-- a final reference field of the object under way -/
theorem kPut (X : Fc p s m args meth c cc nL own D ac ar z) (hP : va_P D vwCl ((h0, .inr (ci, vs)) :: ws) H) (hD : va_D A ((h0, .inr (ci, vs)) :: ws)) (hS : va_S A s.heap H locs) (hF : FL own index ci j) {q : vw_C} (hc : vwCl[ci]? = some q) {ty : FieldType} {a : Nat} (hpt : parseFieldDescriptor (q.2.1 j).2.2.1 = some ty) (hfin : (q.2.1 j).2.2.2 = true) (hdecl : (q.2.1 j).1 = own) (hn : narrow ty (.ref a) = .ref a) (hfit : fits ty (.ref a) = true) (hl : j < vs.length) (hdg : decode cc pc = .ok (.putfield index, 3))
    (kk : ∀ (H1 : Heap) (locs1 : List Loc), va_P D vwCl ((h0, .inr (ci, vs.set j (.ref a))) :: ws) H1 → va_D A ((h0, .inr (ci, vs.set j (.ref a))) :: ws) → va_S A s.heap H1 locs1 → W p l e R s m args below meth c H1 locs1 cells slots Q (F0 m (pc + 3) ls rest)) : W p l e R s m args below meth c H locs cells slots Q (F0 m pc ls (.ref a :: .ref h0 :: rest)) := by
  obtain ⟨hx, hb, hml, hown, hts, hr, hlk, hin, hK⟩ := X
  obtain ⟨q', hq, hcl, hjN, hlink, hdc⟩ := hF
  cases hq.symm.trans hc
  obtain ⟨h1, ⟨ty0, h2⟩, h3⟩ := hcl
  exact va_putF (D := D) (ci := ci) (v := .ref a) (ty := ty) (C := q.1) (T := q.2.1) (N := q.2.2) hx hb hts h1 ty0 h2 h3 hown hK.1.1 hP hD hS 0 rfl hc j hjN (hts _ hlink) (fun x hxx => by rw [hdc] at hxx; exact hxx) hfin hin hdecl hpt hn hfit hl hdg kk
/-- a reference field that isn't final -/
theorem kPutW (X : Fc p s m args meth c cc nL own D ac ar z) (hP : va_P D vwCl ((h0, .inr (ci, vs)) :: ws) H) (hD : va_D A ((h0, .inr (ci, vs)) :: ws)) (hS : va_S A s.heap H locs) (hF : FL own index ci j) {ty : FieldType} (hW : FW ci j ty) {a : Nat} (hn : narrow ty (.ref a) = .ref a) (hfit : fits ty (.ref a) = true) (hl : j < vs.length) (hdg : decode cc pc = .ok (.putfield index, 3))
    (kk : ∀ (H1 : Heap) (locs1 : List Loc), va_P D vwCl ((h0, .inr (ci, vs.set j (.ref a))) :: ws) H1 → va_D A ((h0, .inr (ci, vs.set j (.ref a))) :: ws) → va_S A s.heap H1 locs1 → W p l e R s m args below meth c H1 locs1 cells slots Q (F0 m (pc + 3) ls rest)) : W p l e R s m args below meth c H locs cells slots Q (F0 m pc ls (.ref a :: .ref h0 :: rest)) := by
  obtain ⟨hx, hb, hml, hown, hts, hr, hlk, hin, hK⟩ := X
  obtain ⟨q, hq, hcl, hjN, hlink, hdc⟩ := hF
  obtain ⟨q', hq', hpt, hfin⟩ := hW
  cases hq.symm.trans hq'
  obtain ⟨h1, ⟨ty0, h2⟩, h3⟩ := hcl
  exact va_put (D := D) (ci := ci) (v := .ref a) (ty := ty) (C := q.1) (T := q.2.1) (N := q.2.2) hx hb hts h1 ty0 h2 h3 hown hK.1.1 hP hD hS 0 rfl hq j hjN (hts _ hlink) (fun x hxx => by rw [hdc] at hxx; exact hxx) hfin hpt hn hfit hl hdg kk
/-- Object's own constructor -/
theorem kObj (X : Fc p s m args meth c cc nL own D ac ar z) (hl : Cond.methodLink own index objectInit ∈ wg) (hi : Cond.instanceMethod objectInit ∈ wg) (hcd : Cond.code objectInit ⟨#[0xb1]⟩ 1 none ∈ wg) (hls : ls.size = nL) {a : Nat} (hfr : 1 ≤ R.frames) (hlo : 20 ≤ R.locals) (hdg : decode cc pc = .ok (.invokespecial index, 3))
    (kk : W p l e R s m args below meth c H locs cells slots Q (F0 m (pc + 3) ls [])) : W p l e R s m args below meth c H locs cells slots Q (F0 m pc ls [.ref a]) := by
  have hts := X.2.2.2.2.1
  refine W.objInit X.1 X.2.1 X.2.2.2.1 (hts _ hl) (hts _ hi) (hts _ hcd) rfl (by rw [X.2.2.1]; exact hls) rfl hdg hfr ?_ kk
  have := lv_room (m := m) (pc := pc) (ls := ls) (rest := [.ref a]) (st := []) (Nat.zero_le 8)
  exact Nat.le_trans (Nat.add_le_add_right this 12) hlo
/-- behind a constructor's call: its cells beside all others -/
theorem kGo {ci1 : Nat} {vs1 : List Value} {q mc ms : Nat} {st : List Value} {LS : List CD} {A1 : Array Value} (hP : va_P D vwCl (ws ++ [(q, .inr (ci1, vs1))]) H) (hD : va_D A (ws ++ [(q, .inr (ci1, vs1))])) (hS : va_S A s.heap H locs) (hA : ∀ q, s.heap.size ≤ q → A q)
    (hr : va_Run p l e R s m args below meth c H locs cells slots mc ms (F0 m pc ls st) rest (QC D ac ar LS q H.size A1) (Ah q H.size))
    (kk : ∀ (g : Nat → Nat) (H1 : Heap) (locs1 : List Loc), va_P D vwCl (ws ++ wd (mkAd ar (cAd q g)) ac LS Zm) H1 → va_D A (ws ++ wd (mkAd ar (cAd q g)) ac LS Zm) → va_S A s.heap H1 locs1 → W p l e R s m args below meth c H1 locs1 (cells + mc) (slots + ms) Q (F0 m (pc + 3) ls rest)) : W p l e R s m args below meth c H locs cells slots Q (F0 m pc ls st) := by
  have hq0 : (ws ++ [(q, (.inr (ci1, vs1) : va_E))])[ws.length]? = some (q, .inr (ci1, vs1)) := by
    rw [List.getElem?_append_right (Nat.le_refl _), Nat.sub_self]; rfl
  have hin : ∀ (k : Nat) (x : Nat × va_E), ws[k]? = some x → (ws ++ [(q, (.inr (ci1, vs1) : va_E))])[k]? = some x := fun k x hx => by
    rw [List.getElem?_append_left (List.getElem?_eq_some_iff.mp hx).1]; exact hx
  have hap : ∀ (k : Nat) (x : Nat × va_E), ws[k]? = some x → ¬ Ah q H.size x.1 := fun k x hx h => by
    rcases h with h | h
    · have := hD.1 k ws.length x _ (hin k x hx) hq0 h
      have := (List.getElem?_eq_some_iff.mp hx).1
      omega
    · have := (hP k x (hin k x hx)).lt
      omega
  have hAq : ∀ a, Ah q H.size a → A a := fun a h => by
    rcases h with h | h
    · rw [h]; exact hD.2 _ _ hq0
    · exact hA a (Nat.le_trans hS.1 h)
  intro T hT X1
  obtain ⟨v, st₀, t, T', L1, e0, X', hL, e1, e2, ⟨hv, ⟨g, hp, hd⟩, hz, hk⟩, stp⟩ := hr T hT X1
  cases hv
  rw [e0] at hz hk
  have k1 : va_P D vwCl (ws ++ wd (mkAd ar (cAd q g)) ac LS Zm) T'.heap := by
    refine va_P.app (fun k x hx => ?_) (by rw [e1]; exact hp)
    exact (hP k x (hin k x hx)).kept (by rw [e1]; exact hk x.1 ((hP k x (hin k x hx)).lt) (hap k x hx))
  have k2 : va_D A (ws ++ wd (mkAd ar (cAd q g)) ac LS Zm) := by
    refine va_D.app ⟨fun i j x y hi hj hxy => hD.1 i j x y (hin i x hi) (hin j y hj) hxy, fun k x hx => hD.2 k x (hin k x hx)⟩ (hd.weaken (fun _ _ _ h => hAq _ h)) (fun i j x y hx hy hxy => ?_)
    exact hap i x hx (by rw [hxy]; exact hd.2 j y hy)
  have k3 : va_S A s.heap T'.heap (locs ++ L1) := by
    refine ⟨Nat.le_trans hS.1 (by rw [e1]; exact hz), fun a h1 h2 => ?_, fun a ha => ?_⟩
    · rw [e1, hk a (Nat.lt_of_lt_of_le h1 hS.1) (fun h => h2 (hAq a h))]
      exact hS.2.1 a h1 h2
    · rcases List.mem_append.mp ha with h | h
      · exact hS.2.2 a h
      · exact hAq _ (hL a h)
  obtain ⟨t2, a1, b1⟩ := kk g T'.heap (locs ++ L1) k1 k2 k3 T' rfl X'
  exact ⟨t2, stp t2 a1, b1⟩
theorem PC.blind {h0 sz : Nat} {As : List Value} : FrameBlind (va_Pc As (PC D ac ar z ci vs h0 sz)) := by
  intro a U g mk hq
  obtain ⟨h0, h1, h2, h3, h4, h5⟩ := hq
  exact ⟨h0, h1, h2, h3, h4, h5.call⟩
theorem PC.ready (X : Fc p s m args meth c cc nL own D ac ar z) {q : Nat} (hP : va_P D vwCl (ws ++ [(q, .inr (ci, vs))]) H) (hD : va_D A (ws ++ [(q, .inr (ci, vs))])) (hS : va_S A s.heap H locs) (hAz : ∀ a, A a → z ≤ a) (hz : z ≤ s.heap.size) {U : State} (hU : U.heap = H) (hW : s.WarmedH U.vm) : PC D ac ar z ci vs q H.size U := by
  have hq0 : (ws ++ [(q, (.inr (ci, vs) : va_E))])[ws.length]? = some (q, .inr (ci, vs)) := by
    rw [List.getElem?_append_right (Nat.le_refl _), Nat.sub_self]; rfl
  refine ⟨by rw [hU], hAz q (hD.2 _ _ hq0), Nat.le_trans hz hS.1, fun k x hx => ?_, ?_⟩
  · have h1 : k < 1 := (List.getElem?_eq_some_iff.mp hx).1
    rw [show k = 0 by omega] at hx
    cases hx
    rw [hU]
    exact hP ws.length _ hq0
  · rw [hU]
    have h6 := KX.warm hW X.2.2.2.2.2.2.2.2
    exact ⟨h6.1, h6.2.1, h6.2.2.1, h6.2.2.2.1, h6.2.2.2.2.1, h6.2.2.2.2.2.kept (fun a h1 h2 => hS.2.1 a h1 (fun h => h2 (hAz a h)))⟩
/-- a nest mate's constructor -/
theorem kCallN {y : MethodName} {cc1 : ByteArray} {nL1 d1 mc ms q : Nat} {As st : List Value} {ci1 : Nat} {vs1 : List Value} {LS : List CD} (X : Fc p s m args meth c cc nL own D ac ar z) (hP : va_P D vwCl (ws ++ [(q, .inr (ci1, vs1))]) H) (hD : va_D A (ws ++ [(q, .inr (ci1, vs1))])) (hS : va_S A s.heap H locs) (hA : ∀ q, s.heap.size ≤ q → A q) (hAz : ∀ a, A a → z ≤ a) (hz : z ≤ s.heap.size)
    (hM : MtC l D ac ar z y cc1 nL1 d1 As ci1 vs1 LS mc ms) (hcode : Cond.code y cc1 nL1 none ∈ wg) (hini : Cond.initialized y.cls ∈ wg) (hin : Cond.instanceMethod y ∈ wg) (hy : y.cls ≠ "java/lang/invoke/MethodHandle" ∧ y.cls ≠ "java/lang/invoke/VarHandle") (hyn : y.name = "<init>") (hlen : (parseMethodDescriptor y.desc).map (fun d => d.parameters.length) = some As.length) (hnest : va_Nw (.methodLinkNest own index y "StationPasses") s) (hfr : d1 + 1 ≤ R.frames) (hlo : 8 + (nL1 + 11) + 40 * d1 ≤ R.locals) (hls : ls.size = nL) (hst : st = As.reverse ++ .ref q :: rest) (hW : (rest.map fun v => v.category).sum ≤ 8) (hcells : cells + mc ≤ R.cells) (hslots : slots + ms ≤ R.slots) (hdg : decode cc pc = .ok (.invokespecial index, 3))
    (kk : ∀ (g : Nat → Nat) (H1 : Heap) (locs1 : List Loc), va_P D vwCl (ws ++ wd (mkAd ar (cAd q g)) ac LS Zm) H1 → va_D A (ws ++ wd (mkAd ar (cAd q g)) ac LS Zm) → va_S A s.heap H1 locs1 → W p l e R s m args below meth c H1 locs1 (cells + mc) (slots + ms) Q (F0 m (pc + 3) ls rest)) : W p l e R s m args below meth c H locs cells slots Q (F0 m pc ls st) := by
  have hts := X.2.2.2.2.1
  refine kGo hP hD hS hA (va_runIN (host := "StationPasses") (As := As) (rest := rest) ⟨X.1, X.2.1, X.2.2.1, X.2.2.2.1, hts⟩ (hM q H.size) ⟨⟨⟨rfl, rfl, hfr, hlo, fun w hw => ?_, List.mem_cons_self⟩, hts _ hcode, hts _ hini, hy, fun sig hs => ?_, va_Nw.use rfl hnest⟩, hyn, hts _ hin⟩ ⟨PC.blind, fun U hU hWm => ⟨rfl, PC.ready X hP hD hS hAz hz hU hWm⟩⟩ rfl rfl hls hst (lv_room hW) hdg ⟨hcells, hslots⟩) kk
  · rcases List.mem_cons.mp hw with rfl | hw
    · exact wg_pay hts _ hcode
    · exact wg_pay hts _ hw
  · rw [hs] at hlen
    exact (Option.some.inj hlen).symm
/-- a constructor that all may see -/
theorem kCallO {y : MethodName} {cc1 : ByteArray} {nL1 d1 mc ms q : Nat} {As st : List Value} {ci1 : Nat} {vs1 : List Value} {LS : List CD} (X : Fc p s m args meth c cc nL own D ac ar z) (hP : va_P D vwCl (ws ++ [(q, .inr (ci1, vs1))]) H) (hD : va_D A (ws ++ [(q, .inr (ci1, vs1))])) (hS : va_S A s.heap H locs) (hA : ∀ q, s.heap.size ≤ q → A q) (hAz : ∀ a, A a → z ≤ a) (hz : z ≤ s.heap.size)
    (hM : MtC l D ac ar z y cc1 nL1 d1 As ci1 vs1 LS mc ms) (hcode : Cond.code y cc1 nL1 none ∈ wg) (hini : Cond.initialized y.cls ∈ wg) (hin : Cond.instanceMethod y ∈ wg) (hy : y.cls ≠ "java/lang/invoke/MethodHandle" ∧ y.cls ≠ "java/lang/invoke/VarHandle") (hyn : y.name = "<init>") (hlen : (parseMethodDescriptor y.desc).map (fun d => d.parameters.length) = some As.length) (hlink : Cond.methodLink own index y ∈ wg) (hfr : d1 + 1 ≤ R.frames) (hlo : 8 + (nL1 + 11) + 40 * d1 ≤ R.locals) (hls : ls.size = nL) (hst : st = As.reverse ++ .ref q :: rest) (hW : (rest.map fun v => v.category).sum ≤ 8) (hcells : cells + mc ≤ R.cells) (hslots : slots + ms ≤ R.slots) (hdg : decode cc pc = .ok (.invokespecial index, 3))
    (kk : ∀ (g : Nat → Nat) (H1 : Heap) (locs1 : List Loc), va_P D vwCl (ws ++ wd (mkAd ar (cAd q g)) ac LS Zm) H1 → va_D A (ws ++ wd (mkAd ar (cAd q g)) ac LS Zm) → va_S A s.heap H1 locs1 → W p l e R s m args below meth c H1 locs1 (cells + mc) (slots + ms) Q (F0 m (pc + 3) ls rest)) : W p l e R s m args below meth c H locs cells slots Q (F0 m pc ls st) := by
  have hts := X.2.2.2.2.1
  refine kGo hP hD hS hA (va_runI (As := As) (rest := rest) ⟨X.1, X.2.1, X.2.2.1, X.2.2.2.1, hts⟩ (hM q H.size) ⟨⟨rfl, rfl, hfr, hlo, fun w hw => ?_, List.mem_cons_self, hts _ hcode, hts _ hini, hy, fun sig hs => ?_, hts _ hlink⟩, hyn, hts _ hin⟩ ⟨PC.blind, fun U hU hWm => ⟨rfl, PC.ready X hP hD hS hAz hz hU hWm⟩⟩ rfl rfl hls hst (lv_room hW) hdg ⟨hcells, hslots⟩) kk
  · rcases List.mem_cons.mp hw with rfl | hw
    · exact wg_pay hts _ hcode
    · exact wg_pay hts _ hw
  · rw [hs] at hlen
    exact (Option.some.inj hlen).symm
/-- the end -/
theorem kRet {LS : List CD} (X : Fc p s m args meth c cc nL own D ac ar z) (g : Nat → Nat) (hw : ws = wd (mkAd ar (cAd h0 g)) ac LS Zm) (hP : va_P D vwCl ws H) (hD : va_D (Ah h0 s.heap.size) ws) (hS : va_S (Ah h0 s.heap.size) s.heap H locs) (hdg : decode cc pc = .ok (.return_, 1)) : W p l e R s m args below meth c H locs cells slots (MQ below (QC D ac ar LS h0 s.heap.size) args s cells slots (Ah h0 s.heap.size)) (F0 m pc ls []) := by
  subst hw
  exact W.vret X.1 X.2.1 X.2.2.2.2.2.1 (fun t ht hW => ⟨rfl, ⟨g, by rw [ht]; exact hP, hD⟩, hS.F ht⟩) hS.2.2 hdg X.2.2.2.2.2.2.1
end CROWS
theorem oi_inst : Cond.instanceMethod objectInit ∈ wg := wg_m1 27 (by decide +kernel) rfl
theorem oi_code : Cond.code objectInit ⟨#[0xb1]⟩ 1 none ∈ wg := wg_m1 28 (by decide +kernel) rfl
