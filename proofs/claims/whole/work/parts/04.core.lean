/-! THE FLAT WORLD: the cells of a system whose shape stands still: cell k lies at ad k; an object's int fields and an array's places are h k j; references are fixed by the layout L. -/
abbrev Mm : Type := Nat → Nat → Int32
def wr (h : Mm) (k i : Nat) (x : Int32) : Mm := va_up h k (upd (h k) i x)
/-- a cell's shape: an array of ints or chars (kind, length); an object (its class's number, its fields: a cell or an int); an array of references -/
abbrev CD : Type := (Nat × Nat) ⊕ ((Nat × List (Option Nat)) ⊕ (Nat × List Nat))
def cF (ad : Nat → Nat) (r : Nat → Int32) (j : Nat) (o : Option Nat) : Value := match o with
  | some k => .ref (ad k)
  | none => .int (r j)
def cFl (ad : Nat → Nat) (r : Nat → Int32) : Nat → List (Option Nat) → List Value
  | _, [] => []
  | j, o :: t => cF ad r j o :: cFl ad r (j + 1) t
theorem cFl_get {ad : Nat → Nat} {r : Nat → Int32} : ∀ (fs : List (Option Nat)) (j i : Nat), (cFl ad r j fs)[i]? = (fs[i]?).map (cF ad r (j + i))
  | [], j, i => by simp [cFl]
  | o :: t, j, 0 => by simp [cFl]
  | o :: t, j, i + 1 => by
    rw [cFl, List.getElem?_cons_succ, List.getElem?_cons_succ, cFl_get t (j + 1) i, show j + 1 + i = j + (i + 1) by omega]
theorem cFl_len {ad : Nat → Nat} {r : Nat → Int32} : ∀ (fs : List (Option Nat)) (j : Nat), (cFl ad r j fs).length = fs.length
  | [], j => rfl
  | o :: t, j => by rw [cFl, List.length_cons, List.length_cons, cFl_len t (j + 1)]
def cE (ad : Nat → Nat) (ac : Nat → ClassId) (r : Nat → Int32) (d : CD) : va_E := match d with
  | .inl q => .inl (ac q.1, q.2, .inl r)
  | .inr (.inl q) => .inr (q.1, cFl ad r 0 q.2)
  | .inr (.inr q) => .inl (ac q.1, q.2.length, .inr (.inr (.inr (.inr (fun j => (q.2.map ad)[j]?)))))
def wdF (ad : Nat → Nat) (ac : Nat → ClassId) (h : Mm) : Nat → List CD → va_W
  | _, [] => []
  | k, d :: t => (ad k, cE ad ac (h k) d) :: wdF ad ac h (k + 1) t
theorem wdF_get {ad : Nat → Nat} {ac : Nat → ClassId} {h : Mm} : ∀ (L : List CD) (k i : Nat), (wdF ad ac h k L)[i]? = (L[i]?).map (fun d => (ad (k + i), cE ad ac (h (k + i)) d))
  | [], k, i => by simp [wdF]
  | o :: t, k, 0 => by simp [wdF]
  | o :: t, k, i + 1 => by
    rw [wdF, List.getElem?_cons_succ, List.getElem?_cons_succ, wdF_get t (k + 1) i, show k + 1 + i = k + (i + 1) by omega]
theorem wdF_len {ad : Nat → Nat} {ac : Nat → ClassId} {h : Mm} : ∀ (L : List CD) (k : Nat), (wdF ad ac h k L).length = L.length
  | [], k => rfl
  | o :: t, k => by rw [wdF, List.length_cons, List.length_cons, wdF_len t (k + 1)]
def wd (ad : Nat → Nat) (ac : Nat → ClassId) (L : List CD) (h : Mm) : va_W := wdF ad ac h 0 L
theorem wd_get {ad : Nat → Nat} {ac : Nat → ClassId} {h : Mm} (L : List CD) (i : Nat) : (wd ad ac L h)[i]? = (L[i]?).map (fun d => (ad i, cE ad ac (h i) d)) := by
  rw [wd, wdF_get, Nat.zero_add]
theorem wd_len {ad : Nat → Nat} {ac : Nat → ClassId} {h : Mm} (L : List CD) : (wd ad ac L h).length = L.length := wdF_len L 0
theorem cF0_get {ad : Nat → Nat} {r : Nat → Int32} (fs : List (Option Nat)) (i : Nat) : (cFl ad r 0 fs)[i]? = (fs[i]?).map (cF ad r i) := by
  rw [cFl_get, Nat.zero_add]
def Aa (ad : Nat → Nat) (n sz : Nat) : Nat → Prop := fun q => (∃ k, k < n ∧ ad k = q) ∨ sz ≤ q
def Inj (ad : Nat → Nat) (n : Nat) : Prop := ∀ i j, i < n → j < n → ad i = ad j → i = j
section WD
variable {ad : Nat → Nat} {ac : Nat → ClassId} {L : List CD} {h h' : Mm} {k j : Nat} {d : CD}
theorem wd_at (hk : L[k]? = some d) : (wd ad ac L h)[k]? = some (ad k, cE ad ac (h k) d) := by
  rw [wd_get, hk]; rfl
theorem wd_inv {p : Nat × va_E} (hp : (wd ad ac L h)[k]? = some p) : ∃ d, L[k]? = some d ∧ p = (ad k, cE ad ac (h k) d) := by
  rw [wd_get] at hp
  cases hd : L[k]? with
  | none => rw [hd] at hp; cases hp
  | some d => rw [hd] at hp; exact ⟨d, rfl, (Option.some.inj hp).symm⟩
theorem wd_set (hk : L[k]? = some d) (g : Nat → Int32) : (wd ad ac L h).set k (ad k, cE ad ac g d) = wd ad ac L (va_up h k g) := by
  apply List.ext_getElem?
  intro i
  by_cases hi : i = k
  · subst hi
    rw [List.getElem?_set_self (by rw [wd_len]; exact (List.getElem?_eq_some_iff.mp hk).1), wd_at hk, va_up_self]
  · rw [List.getElem?_set_ne (Ne.symm hi)]
    rw [wd_get, wd_get, va_up_ne _ _ hi]
theorem wd_D {sz : Nat} (hI : Inj ad L.length) : va_D (Aa ad L.length sz) (wd ad ac L h) := by
  refine ⟨fun i j p q hi hj e => ?_, fun k q hk => ?_⟩
  · obtain ⟨d1, h1, rfl⟩ := wd_inv hi
    obtain ⟨d2, h2, rfl⟩ := wd_inv hj
    exact hI i j (List.getElem?_eq_some_iff.mp h1).1 (List.getElem?_eq_some_iff.mp h2).1 e
  · obtain ⟨d1, h1, rfl⟩ := wd_inv hk
    exact Or.inl ⟨k, (List.getElem?_eq_some_iff.mp h1).1, rfl⟩
theorem cF_set {fs : List (Option Nat)} {r : Nat → Int32} {x : Int32} (hj : fs[j]? = some none) : (cFl ad r 0 fs).set j (.int x) = cFl ad (upd r j x) 0 fs := by
  apply List.ext_getElem?
  intro i
  by_cases hi : i = j
  · subst hi
    rw [List.getElem?_set_self (by rw [cFl_len]; exact (List.getElem?_eq_some_iff.mp hj).1), cF0_get, hj]
    simp [cF, upd]
  · rw [List.getElem?_set_ne (Ne.symm hi), cF0_get, cF0_get]
    cases fs[i]? with
    | none => rfl
    | some o => cases o <;> simp [cF, upd, hi]
end WD
/-- the words that stay words: those of the tables that a call carries -/
def wg : List Cond := lw_tbl.filter goodWord
theorem wg_mem {w : Cond} (i : Nat) (h : tables_1[i]? = some w) (hg : goodWord w = true) : w ∈ wg := List.mem_filter.mpr ⟨List.mem_append_right _ (List.mem_of_getElem? h), hg⟩
theorem wg_sel {w : Cond} (i : Nat) (h : (k2_sels lw_privs)[i]? = some w) (hg : goodWord w = true) : w ∈ wg := List.mem_filter.mpr ⟨List.mem_append_left _ (List.mem_of_getElem? h), hg⟩
theorem wg_pay {args : Array Value} {s : State} (hts : ∀ w ∈ wg, w.before args s = true) : ∀ w ∈ wg, ∀ (a' : Array Value) (U : State), s.WarmedH U.vm → w.before a' U = true := fun w hw a' U hW => word_at hW (good_of_word (List.mem_filter.mp hw).2) (hts w hw)
abbrev tysL (ac : Nat → ClassId) : List (ClassId × FieldType) := [(ac 0, .int), (ac 1, .char), (ac 2, .object "StationPasses$State"), (ac 3, .array .int)]
def nestW : Cond := .fieldLinkNest "StationPasses$Setting" 70 "StationPasses$Items" "numbers" "[[I" "StationPasses"
def Cx (D : va_G) (ac : Nat → ClassId) (U : State) : Prop := va_K D vwCl (tysL ac) U ∧ va_Nw nestW U
theorem Cx.warm {D : va_G} {ac : Nat → ClassId} {s U : State} (hW : s.WarmedH U.vm) (h : Cx D ac s) : Cx D ac U := ⟨va_K.moved hW.alike h.1, va_Nw.warmF hW h.2⟩
theorem Cx.call {D : va_G} {ac : Nat → ClassId} {U : State} {g : JFrame} {mk : MethodId} {a : Array Value} (h : Cx D ac U) : Cx D ac (U.calling g mk a) := ⟨va_K.moved (u := U) (U := U.calling g mk a) (Vm.Alike.refl U.vm) h.1, va_Nw.same rfl (u := U) (U := U.calling g mk a) rfl h.2⟩
/-- the static arrays, which nobody writes: number, length, contents -/
abbrev RomL : Type := List (Nat × Nat × (Nat → Int32))
def RoP (ad : Nat → Nat) (rl : RomL) (A : Nat → Prop) (U : State) (H : Heap) : Prop := ∀ q ∈ rl, va_T .int (ad q.1) q.2.1 (fun j => .int (q.2.2 j)) A U H
def rmD (d : Nat) : Room := { frames := d, cells := 0, slots := 0, locals := 40 * d }
/-- what stands in a method's whole walk -/
def Fx (p : Program) (s : State) (m : MethodId) (args : Array Value) (meth : Method) (c : Code) (cc : ByteArray) (nL : Nat) (own : String) (ret : Option FieldType) (D : va_G) (ad : Nat → Nat) (ac : Nat → ClassId) (L : List CD) (rl : RomL) : Prop :=
  p.tables.exec = Jvm.exec ∧ c.code = cc ∧ c.maxLocals = nL ∧ s.vm.findClass own = some m.cls ∧ (∀ w ∈ wg, w.before args s = true) ∧ meth.sig.returnType = ret ∧ meth.locks = false ∧ Cx D ac s ∧ Inj ad L.length ∧ RoP ad rl (Aa ad L.length s.heap.size) s s.heap
/-- the heap at a place of the walk: it holds h; nothing else has changed -/
def Hp (D : va_G) (ad : Nat → Nat) (ac : Nat → ClassId) (L : List CD) (h : Mm) (s : State) (H : Heap) (locs : List Loc) : Prop := va_P D vwCl (wd ad ac L h) H ∧ va_S (Aa ad L.length s.heap.size) s.heap H locs
def PU (D : va_G) (ad : Nat → Nat) (ac : Nat → ClassId) (L : List CD) (rl : RomL) (sz : Nat) (h : Mm) (U : State) : Prop := U.heap.size = sz ∧ va_P D vwCl (wd ad ac L h) U.heap ∧ Cx D ac U ∧ Inj ad L.length ∧ RoP ad rl (Aa ad L.length sz) U U.heap
def QU (D : va_G) (ad : Nat → Nat) (ac : Nat → ClassId) (L : List CD) (r : Option Value) (h' : Mm) (sz : Nat) : Array Value → State → Outcome → State → Prop := fun _ st oc t => oc = .returned r ∧ va_P D vwCl (wd ad ac L h') t.heap ∧ va_F (Aa ad L.length sz) st t
def wsy (y : MethodName) (cc : ByteArray) (nL : Nat) (ret : Option FieldType) : List Cond := Cond.code y cc nL ret :: wg
/-- a method's contract over the flat world: from h it comes to h' and answers r -/
def Mt (l : Launch) (D : va_G) (ad : Nat → Nat) (ac : Nat → ClassId) (L : List CD) (rl : RomL) (y : MethodName) (cc : ByteArray) (nL : Nat) (ret : Option FieldType) (d : Nat) (As : List Value) (h : Mm) (r : Option Value) (h' : Mm) : Prop :=
  ∀ sz : Nat, Met l y (wsy y cc nL ret) (rmD d) (va_Pc As (PU D ad ac L rl sz h)) (QU D ad ac L r h' sz) 0 0 (Aa ad L.length sz)
theorem Mt.of {l : Launch} {D : va_G} {ad : Nat → Nat} {ac : Nat → ClassId} {L : List CD} {rl : RomL} {y : MethodName} {cc : ByteArray} {nL : Nat} {ret : Option FieldType} {d : Nat} {As : List Value} {h : Mm} {r : Option Value} {h' : Mm} {own : String}
    (hy : plainName y.cls = true) (hcl : y.cls = own) (hlen : (lg_sl As).length ≤ nL)
    (body : ∀ (p : Program) (e : Env) (s : State) (m : MethodId) (below : List Frame) (meth : Method) (c : Code) (ls : Array Slot), Fx p s m As.toArray meth c cc nL own ret D ad ac L rl → Hp D ad ac L h s s.heap [] → lv_has ls nL (lv_args 0 As) →
      W p l e (rmD d) s m As.toArray below meth c s.heap [] 0 0 (MQ below (QU D ad ac L r h' s.heap.size) As.toArray s 0 0 (Aa ad L.length s.heap.size)) (F0 m 0 ls [])) : Mt l D ad ac L rl y cc nL ret d As h r h' := by
  intro sz
  refine Met.ofW (cc := cc) (maxL := nL) (ret := ret) hy rfl ?_
  intro p e s m args below meth c s₁ B hml hv
  obtain ⟨rfl, rfl, hP, hC, hI, hR⟩ := hv
  have hts := atoms_spec (ws := wsy y cc nL ret) B.pre
  have hown : s.vm.findClass own = some m.cls := hcl ▸ findClass_of_methodNamed B.named
  have hl := lv_entry As (n := nL) hlen
  rw [lg_entry_eq]
  exact body p e s m below meth c _ ⟨B.exec, B.bytes, hml, hown, fun w hw => hts w (List.mem_cons_of_mem _ hw), B.returns, B.notSynchronized, hC, hI, hR⟩ ⟨hP, va_S.rf⟩ hl
/-- what the tables say of a class -/
def clOk (q : vw_C) : Prop := (∀ w ∈ u_ws q.1 q.2.1 q.2.2, w ∈ wg) ∧ (∃ ty : Nat → FieldType, ∀ k, k < q.2.2 → parseFieldDescriptor (q.2.1 k).2.2.1 = some (ty k)) ∧ (∀ a, a < q.2.2 → ∀ b, b < q.2.2 → a ≠ b → (q.2.1 a).2.1 ≠ (q.2.1 b).2.1)
/-- a field's link: class ci's field j, by the pool's entry 'index' of the class 'own' -/
def FL (own : String) (index ci j : Nat) : Prop := ∃ q : vw_C, vwCl[ci]? = some q ∧ clOk q ∧ j < q.2.2 ∧ Cond.fieldLink own index q.1 (q.2.1 j).2.1 (q.2.1 j).2.2.1 ∈ wg ∧ (q.2.1 j).1 = q.1
/-- a field that may be written: of type ty -/
def FW (ci j : Nat) (ty : FieldType) : Prop := ∃ q : vw_C, vwCl[ci]? = some q ∧ parseFieldDescriptor (q.2.1 j).2.2.1 = some ty ∧ (q.2.1 j).2.2.2 = false
section ROWS
variable {p : Program} {l : Launch} {e : Env} {R : Room} {s : State} {m : MethodId} {args : Array Value} {below : List Frame} {meth : Method} {c : Code} {H : Heap} {locs : List Loc} {cells slots : Nat} {Q : State → Prop}
variable {cc : ByteArray} {nL : Nat} {own : String} {ret : Option FieldType} {D : va_G} {ad : Nat → Nat} {ac : Nat → ClassId} {L : List CD} {rl : RomL} {h h' : Mm} {pc : Nat} {ls : Array Slot} {rest : List Value} {k j ci index n : Nat} {fs : List (Option Nat)}
theorem hpD (X : Fx p s m args meth c cc nL own ret D ad ac L rl) : va_D (Aa ad L.length s.heap.size) (wd ad ac L h) := wd_D X.2.2.2.2.2.2.2.2.1
theorem hpPut (X : Fx p s m args meth c cc nL own ret D ad ac L rl) {d : CD} (hk : L[k]? = some d) {H1 : Heap} {locs1 : List Loc} {w : va_W} {g : Nat → Int32} (hw : w = (wd ad ac L h).set k (ad k, cE ad ac g d)) (hP : va_P D vwCl w H1) (hS : va_S (Aa ad L.length s.heap.size) s.heap H1 locs1) : Hp D ad ac L (va_up h k g) s H1 locs1 := by
  rw [hw, wd_set hk] at hP
  exact ⟨hP, hS⟩
/-- getfield -/
theorem gF (X : Fx p s m args meth c cc nL own ret D ad ac L rl) (hH : Hp D ad ac L h s H locs) (hF : FL own index ci j) (hk : L[k]? = some (.inr (.inl (ci, fs)))) {o : Option Nat} (hj : fs[j]? = some o) (hdg : decode cc pc = .ok (.getfield index, 3))
    (kk : W p l e R s m args below meth c H locs cells slots Q (F0 m (pc + 3) ls (cF ad (h k) j o :: rest))) : W p l e R s m args below meth c H locs cells slots Q (F0 m pc ls (.ref (ad k) :: rest)) := by
  obtain ⟨hx, hb, hml, hown, hts, hr, hlk, hC, hI, hR⟩ := X
  obtain ⟨q, hq, hcl, hjN, hlink, hdecl⟩ := hF
  exact va_get (D := D) (ci := ci) (v := cF ad (h k) j o) (C := q.1) (T := q.2.1) (N := q.2.2) hx hb hts hcl.1 hown hC.1 hH.1 k (wd_at hk) hq j hjN (hts _ hlink) (fun x hxx => by rw [hdecl] at hxx; exact hxx) (by rw [cF0_get, hj]; rfl) hdg kk
theorem gI (X : Fx p s m args meth c cc nL own ret D ad ac L rl) (hH : Hp D ad ac L h s H locs) (hF : FL own index ci j) (hk : L[k]? = some (.inr (.inl (ci, fs)))) (hj : fs[j]? = some none) (hdg : decode cc pc = .ok (.getfield index, 3))
    (kk : W p l e R s m args below meth c H locs cells slots Q (F0 m (pc + 3) ls (.int (h k j) :: rest))) : W p l e R s m args below meth c H locs cells slots Q (F0 m pc ls (.ref (ad k) :: rest)) := gF X hH hF hk hj hdg kk
theorem gR (X : Fx p s m args meth c cc nL own ret D ad ac L rl) (hH : Hp D ad ac L h s H locs) (hF : FL own index ci j) (hk : L[k]? = some (.inr (.inl (ci, fs)))) {k1 : Nat} (hj : fs[j]? = some (some k1)) (hdg : decode cc pc = .ok (.getfield index, 3))
    (kk : W p l e R s m args below meth c H locs cells slots Q (F0 m (pc + 3) ls (.ref (ad k1) :: rest))) : W p l e R s m args below meth c H locs cells slots Q (F0 m pc ls (.ref (ad k) :: rest)) := gF X hH hF hk hj hdg kk
/-- getfield of a nest mate's private field: there is one, Items.numbers out of Setting -/
theorem gN (X : Fx p s m args meth c cc nL "StationPasses$Setting" ret D ad ac L rl) (hH : Hp D ad ac L h s H locs) (hF : ∃ q : vw_C, vwCl[ci]? = some q ∧ clOk q ∧ j < q.2.2 ∧ q.1 = "StationPasses$Items" ∧ (q.2.1 j).2.1 = "numbers" ∧ (q.2.1 j).2.2.1 = "[[I" ∧ (q.2.1 j).1 = q.1) (hk : L[k]? = some (.inr (.inl (ci, fs)))) {k1 : Nat} (hj : fs[j]? = some (some k1)) (hdg : decode cc pc = .ok (.getfield 70, 3))
    (kk : W p l e R s m args below meth c H locs cells slots Q (F0 m (pc + 3) ls (.ref (ad k1) :: rest))) : W p l e R s m args below meth c H locs cells slots Q (F0 m pc ls (.ref (ad k) :: rest)) := by
  obtain ⟨hx, hb, hml, hown, hts, hr, hlk, hC, hI, hR⟩ := X
  obtain ⟨q, hq, hcl, hjN, h1, h2, h3, hdecl⟩ := hF
  have hn : (Cond.fieldLinkNest "StationPasses$Setting" 70 q.1 (q.2.1 j).2.1 (q.2.1 j).2.2.1 "StationPasses").before args s = true := by
    rw [h1, h2, h3]
    exact va_Nw.use rfl hC.2
  exact va_getN (D := D) (ci := ci) (v := .ref (ad k1)) (C := q.1) (T := q.2.1) (N := q.2.2) hx hb hts hcl.1 hown hC.1 hH.1 k (wd_at hk) hq j hjN hn (fun x hxx => by rw [hdecl] at hxx; exact hxx) (by rw [cF0_get, hj]; rfl) hdg kk
/-- putfield of an int (or of a boolean, 0 or 1) -/
theorem pF (X : Fx p s m args meth c cc nL own ret D ad ac L rl) (hH : Hp D ad ac L h s H locs) (hF : FL own index ci j) {ty : FieldType} (hW : FW ci j ty) (hk : L[k]? = some (.inr (.inl (ci, fs)))) (hj : fs[j]? = some none) {x : Int32} (hn : narrow ty (.int x) = .int x) (hfit : fits ty (.int x) = true) (hdg : decode cc pc = .ok (.putfield index, 3))
    (kk : ∀ (H1 : Heap) (locs1 : List Loc), Hp D ad ac L (wr h k j x) s H1 locs1 → W p l e R s m args below meth c H1 locs1 cells slots Q (F0 m (pc + 3) ls rest)) : W p l e R s m args below meth c H locs cells slots Q (F0 m pc ls (.int x :: .ref (ad k) :: rest)) := by
  have X' := X
  obtain ⟨hx, hb, hml, hown, hts, hr, hlk, hC, hI, hR⟩ := X
  obtain ⟨q, hq, hcl, hjN, hlink, hdecl⟩ := hF
  obtain ⟨q', hq', hpt, hfin⟩ := hW
  cases hq.symm.trans hq'
  obtain ⟨h1, ⟨ty0, h2⟩, h3⟩ := hcl
  have hlen : j < (cFl ad (h k) 0 fs).length := by rw [cFl_len]; exact (List.getElem?_eq_some_iff.mp hj).1
  refine va_put (D := D) (ci := ci) (v := .int x) (ty := ty) (C := q.1) (T := q.2.1) (N := q.2.2) hx hb hts h1 ty0 h2 h3 hown hC.1 hH.1 (hpD X') hH.2 k (wd_at hk) hq j hjN (hts _ hlink) (fun x hxx => by rw [hdecl] at hxx; exact hxx) hfin hpt hn hfit hlen hdg (fun H1 locs1 hP hD hS => ?_)
  refine kk H1 locs1 (hpPut X' hk (g := upd (h k) j x) ?_ hP hS)
  rw [cF_set hj]
  rfl
theorem pI (X : Fx p s m args meth c cc nL own ret D ad ac L rl) (hH : Hp D ad ac L h s H locs) (hF : FL own index ci j) (hW : FW ci j .int) (hk : L[k]? = some (.inr (.inl (ci, fs)))) (hj : fs[j]? = some none) {x : Int32} (hdg : decode cc pc = .ok (.putfield index, 3))
    (kk : ∀ (H1 : Heap) (locs1 : List Loc), Hp D ad ac L (wr h k j x) s H1 locs1 → W p l e R s m args below meth c H1 locs1 cells slots Q (F0 m (pc + 3) ls rest)) : W p l e R s m args below meth c H locs cells slots Q (F0 m pc ls (.int x :: .ref (ad k) :: rest)) := pF X hH hF hW hk hj rfl rfl hdg kk
/-- iaload, caload, arraylength, aaload -/
theorem ild (X : Fx p s m args meth c cc nL own ret D ad ac L rl) (hH : Hp D ad ac L h s H locs) (hk : L[k]? = some (.inl (0, n))) {i : Int32} (hin : vp_in i n) (hdg : decode cc pc = .ok (.iaload, 1))
    (kk : W p l e R s m args below meth c H locs cells slots Q (F0 m (pc + 1) ls (.int (h k i.toNatClampNeg) :: rest))) : W p l e R s m args below meth c H locs cells slots Q (F0 m pc ls (.int i :: .ref (ad k) :: rest)) :=
  va_iald (D := D) X.1 X.2.1 X.2.2.2.2.2.2.2.1.1 hH.1 k 0 (wd_at hk) rfl hin hdg kk
theorem cld (X : Fx p s m args meth c cc nL own ret D ad ac L rl) (hH : Hp D ad ac L h s H locs) (hk : L[k]? = some (.inl (1, n))) {i : Int32} (hin : vp_in i n) (hdg : decode cc pc = .ok (.caload, 1))
    (kk : W p l e R s m args below meth c H locs cells slots Q (F0 m (pc + 1) ls (.int (h k i.toNatClampNeg) :: rest))) : W p l e R s m args below meth c H locs cells slots Q (F0 m pc ls (.int i :: .ref (ad k) :: rest)) :=
  va_cald (D := D) X.1 X.2.1 X.2.2.2.2.2.2.2.1.1 hH.1 k 1 (wd_at hk) rfl hin hdg kk
theorem aln (X : Fx p s m args meth c cc nL own ret D ad ac L rl) (hH : Hp D ad ac L h s H locs) {t : Nat} (hk : L[k]? = some (.inl (t, n))) (ht : t < 2) (hdg : decode cc pc = .ok (.arraylength, 1))
    (kk : W p l e R s m args below meth c H locs cells slots Q (F0 m (pc + 1) ls (.int (nI n) :: rest))) : W p l e R s m args below meth c H locs cells slots Q (F0 m pc ls (.ref (ad k) :: rest)) := by
  rcases (show t = 0 ∨ t = 1 by omega) with rfl | rfl
  · exact va_alen (D := D) X.1 X.2.1 X.2.2.2.2.2.2.2.1.1 hH.1 k 0 (wd_at hk) rfl rfl hdg kk
  · exact va_alen (D := D) X.1 X.2.1 X.2.2.2.2.2.2.2.1.1 hH.1 k 1 (wd_at hk) rfl rfl hdg kk
theorem alnR (X : Fx p s m args meth c cc nL own ret D ad ac L rl) (hH : Hp D ad ac L h s H locs) {t : Nat} {ks : List Nat} (hk : L[k]? = some (.inr (.inr (t, ks)))) (ht : t = 2 ∨ t = 3) (hn : ks.length = n) (hdg : decode cc pc = .ok (.arraylength, 1))
    (kk : W p l e R s m args below meth c H locs cells slots Q (F0 m (pc + 1) ls (.int (nI n) :: rest))) : W p l e R s m args below meth c H locs cells slots Q (F0 m pc ls (.ref (ad k) :: rest)) := by
  subst hn
  rcases ht with rfl | rfl
  · exact va_alen (D := D) X.1 X.2.1 X.2.2.2.2.2.2.2.1.1 hH.1 k 2 (wd_at hk) rfl rfl hdg kk
  · exact va_alen (D := D) X.1 X.2.1 X.2.2.2.2.2.2.2.1.1 hH.1 k 3 (wd_at hk) rfl rfl hdg kk
theorem ald (X : Fx p s m args meth c cc nL own ret D ad ac L rl) (hH : Hp D ad ac L h s H locs) {t : Nat} {ks : List Nat} (hk : L[k]? = some (.inr (.inr (t, ks)))) (ht : t = 2 ∨ t = 3) {i : Int32} {k1 : Nat} (hi : ¬ i < 0) (hk1 : ks[i.toNatClampNeg]? = some k1) (hdg : decode cc pc = .ok (.aaload, 1))
    (kk : W p l e R s m args below meth c H locs cells slots Q (F0 m (pc + 1) ls (.ref (ad k1) :: rest))) : W p l e R s m args below meth c H locs cells slots Q (F0 m pc ls (.int i :: .ref (ad k) :: rest)) := by
  have hlt : i.toNatClampNeg < ks.length := (List.getElem?_eq_some_iff.mp hk1).1
  have hin : vp_in i ks.length := fun q => by
    rcases q with q | q
    · exact hi q
    · omega
  have hc := hH.1 k _ (wd_at hk)
  have hv : (arrV (ac t) ks.length (fun j => va_rf ((ks.map ad)[j]?))).slots[i.toNatClampNeg]? = some (.ref (ad k1)) := by
    rw [arrV_read _ _ hlt, List.getElem?_map, hk1]
    rfl
  have hsz : ¬ (i < 0 ∨ (arrV (ac t) ks.length (fun j => va_rf ((ks.map ad)[j]?))).slots.size ≤ i.toNatClampNeg) := by
    rw [arrV_size]
    exact hin
  rcases ht with rfl | rfl
  · exact W.aald (v := .ref (ad k1)) (ty := .object "StationPasses$State") X.1 X.2.1 hc ((X.2.2.2.2.2.2.2.1.1.2 2 _ rfl).1 ks.length (fun j => va_rf ((ks.map ad)[j]?))) rfl (fun q => by cases q) hsz hv rfl rfl hdg kk
  · exact W.aald (v := .ref (ad k1)) (ty := .array .int) X.1 X.2.1 hc ((X.2.2.2.2.2.2.2.1.1.2 3 _ rfl).1 ks.length (fun j => va_rf ((ks.map ad)[j]?))) rfl (fun q => by cases q) hsz hv rfl rfl hdg kk
/-- iaload out of a static array -/
theorem rld (X : Fx p s m args meth c cc nL own ret D ad ac L rl) (hH : Hp D ad ac L h s H locs) {f : Nat → Int32} (q0 : Nat) (hk : rl[q0]? = some (k, n, f)) {i : Int32} (hin : vp_in i n) (hdg : decode cc pc = .ok (.iaload, 1))
    (kk : W p l e R s m args below meth c H locs cells slots Q (F0 m (pc + 1) ls (.int (f i.toNatClampNeg) :: rest))) : W p l e R s m args below meth c H locs cells slots Q (F0 m pc ls (.int i :: .ref (ad k) :: rest)) := by
  obtain ⟨cell, h1, h2, h3, h4, h5, h6, h7⟩ := (X.2.2.2.2.2.2.2.2.2 _ (List.mem_of_getElem? hk)).kept hH.2.2.1
  have hlt : i.toNatClampNeg < n := Nat.not_le.mp fun q => hin (Or.inr q)
  exact W.iald (v := .int (f i.toNatClampNeg)) X.1 X.2.1 h1 h2 h3 (fun q => by
    rcases q with q | q
    · exact hin (Or.inl q)
    · exact absurd (Nat.lt_of_lt_of_le hlt h4) (Nat.not_lt.mpr q)) (h6 _ hlt) rfl rfl hdg kk
/-- iastore, castore -/
theorem ist (X : Fx p s m args meth c cc nL own ret D ad ac L rl) (hH : Hp D ad ac L h s H locs) (hk : L[k]? = some (.inl (0, n))) {i x : Int32} (hin : vp_in i n) (hdg : decode cc pc = .ok (.iastore, 1))
    (kk : ∀ (H1 : Heap) (locs1 : List Loc), Hp D ad ac L (wr h k i.toNatClampNeg x) s H1 locs1 → W p l e R s m args below meth c H1 locs1 cells slots Q (F0 m (pc + 1) ls rest)) : W p l e R s m args below meth c H locs cells slots Q (F0 m pc ls (.int x :: .int i :: .ref (ad k) :: rest)) :=
  va_iast (D := D) X.1 X.2.1 X.2.2.2.2.2.2.2.1.1 hH.1 (hpD X) hH.2 k 0 (wd_at hk) rfl hin hdg (fun H1 locs1 hP _ hS => kk H1 locs1 (hpPut X hk (g := upd (h k) i.toNatClampNeg x) rfl hP hS))
theorem cst (X : Fx p s m args meth c cc nL own ret D ad ac L rl) (hH : Hp D ad ac L h s H locs) (hk : L[k]? = some (.inl (1, n))) {i x : Int32} (hin : vp_in i n) (hdg : decode cc pc = .ok (.castore, 1))
    (kk : ∀ (H1 : Heap) (locs1 : List Loc), Hp D ad ac L (wr h k i.toNatClampNeg (vp_nar .char x)) s H1 locs1 → W p l e R s m args below meth c H1 locs1 cells slots Q (F0 m (pc + 1) ls rest)) : W p l e R s m args below meth c H locs cells slots Q (F0 m pc ls (.int x :: .int i :: .ref (ad k) :: rest)) :=
  va_cast (D := D) X.1 X.2.1 X.2.2.2.2.2.2.2.1.1 hH.1 (hpD X) hH.2 k 1 (wd_at hk) rfl hin hdg (fun H1 locs1 hP _ hS => kk H1 locs1 (hpPut X hk (g := upd (h k) i.toNatClampNeg (vp_nar .char x)) rfl hP hS))
/-- the ends -/
theorem retI (X : Fx p s m args meth c cc nL own (some .int) D ad ac L rl) (hH : Hp D ad ac L h s H locs) {v : Int32} (hdg : decode cc pc = .ok (.ireturn, 1)) : W p l e R s m args below meth c H locs 0 0 (MQ below (QU D ad ac L (some (.int v)) h s.heap.size) args s 0 0 (Aa ad L.length s.heap.size)) (F0 m pc ls [.int v]) :=
  W.iret (v := v) X.1 X.2.1 X.2.2.2.2.2.1 (fun t ht hW => ⟨rfl, by rw [ht]; exact hH.1, hH.2.F ht⟩) hH.2.2.2 hdg X.2.2.2.2.2.2.1
theorem retZ {ty : FieldType} (X : Fx p s m args meth c cc nL own (some ty) D ad ac L rl) (hH : Hp D ad ac L h s H locs) {v : Int32} (hn : narrow ty (.int v) = .int v) (hdg : decode cc pc = .ok (.ireturn, 1)) : W p l e R s m args below meth c H locs 0 0 (MQ below (QU D ad ac L (some (.int v)) h s.heap.size) args s 0 0 (Aa ad L.length s.heap.size)) (F0 m pc ls [.int v]) :=
  W.zret (v := v) X.1 X.2.1 X.2.2.2.2.2.1 hn (fun t ht hW => ⟨rfl, by rw [ht]; exact hH.1, hH.2.F ht⟩) hH.2.2.2 hdg X.2.2.2.2.2.2.1
theorem retV (X : Fx p s m args meth c cc nL own none D ad ac L rl) (hH : Hp D ad ac L h s H locs) (hdg : decode cc pc = .ok (.return_, 1)) : W p l e R s m args below meth c H locs 0 0 (MQ below (QU D ad ac L none h s.heap.size) args s 0 0 (Aa ad L.length s.heap.size)) (F0 m pc ls []) :=
  W.vret X.1 X.2.1 X.2.2.2.2.2.1 (fun t ht hW => ⟨rfl, by rw [ht]; exact hH.1, hH.2.F ht⟩) hH.2.2.2 hdg X.2.2.2.2.2.2.1
theorem retA {rt : FieldType} (X : Fx p s m args meth c cc nL own (some rt) D ad ac L rl) (hH : Hp D ad ac L h s H locs) (hrt : (∃ n, rt = .object n) ∨ ∃ t, rt = .array t) {v : Value} (hv : v = .null ∨ ∃ a, v = .ref a) (hdg : decode cc pc = .ok (.areturn, 1)) : W p l e R s m args below meth c H locs 0 0 (MQ below (QU D ad ac L (some v) h s.heap.size) args s 0 0 (Aa ad L.length s.heap.size)) (F0 m pc ls [v]) :=
  W.aret (v := v) X.1 X.2.1 X.2.2.2.2.2.1 hrt hv (fun t ht hW => ⟨rfl, by rw [ht]; exact hH.1, hH.2.F ht⟩) hH.2.2.2 hdg X.2.2.2.2.2.2.1
end ROWS
/-! calls -/
/-- what the tables say of a call of y out of the class 'own' -/
def CL (own : String) (index : Nat) (y : MethodName) (cc : ByteArray) (nL : Nat) (ret : Option FieldType) (n : Nat) : Prop :=
  Cond.code y cc nL ret ∈ wg ∧ Cond.methodLink own index y ∈ wg ∧ Cond.initialized y.cls ∈ wg ∧ (y.cls ≠ "java/lang/invoke/MethodHandle" ∧ y.cls ≠ "java/lang/invoke/VarHandle") ∧ (parseMethodDescriptor y.desc).map (fun d => d.parameters.length) = some n ∧ nL ≤ 20
def CLv (y : MethodName) : Prop := Cond.instanceMethod y ∈ wg ∧ Cond.selects y.cls y y ∈ wg
section CALLS
variable {p : Program} {l : Launch} {e : Env} {s : State} {m : MethodId} {args : Array Value} {below : List Frame} {meth : Method} {c : Code} {H : Heap} {locs : List Loc} {Q : State → Prop}
variable {cc : ByteArray} {nL : Nat} {own : String} {ret : Option FieldType} {D : va_G} {ad : Nat → Nat} {ac : Nat → ClassId} {L : List CD} {rl : RomL} {h h' : Mm} {pc : Nat} {ls : Array Slot} {rest st : List Value} {k ci index n d d1 : Nat} {fs : List (Option Nat)}
variable {y : MethodName} {cc1 : ByteArray} {nL1 : Nat} {ret1 : Option FieldType} {As : List Value} {r : Option Value}
theorem CL.B (X : Fx p s m args meth c cc nL own ret D ad ac L rl) (hC : CL own index y cc1 nL1 ret1 n) (hd : d1 + 1 ≤ d) : CallB (rmD d) s args own index y cc1 nL1 ret1 (wsy y cc1 nL1 ret1) (rmD d1) 0 0 n := by
  obtain ⟨h1, h2, h3, h4, h5, h6⟩ := hC
  have hts := X.2.2.2.2.1
  refine ⟨rfl, rfl, hd, ?_, ?_, List.mem_cons_self, hts _ h1, hts _ h3, h4, fun sig hs => ?_, hts _ h2⟩
  · show 8 + (nL1 + 11) + 40 * d1 ≤ 40 * d
    omega
  · intro w hw
    rcases List.mem_cons.mp hw with rfl | hw
    · exact wg_pay hts _ h1
    · exact wg_pay hts _ hw
  · rw [hs] at h5
    exact (Option.some.inj h5).symm
theorem PU.blind {sz : Nat} : FrameBlind (va_Pc As (PU D ad ac L rl sz h)) := by
  intro a U g mk hq
  obtain ⟨h0, h1, h2, h3, h4, h5⟩ := hq
  exact ⟨h0, h1, h2, h3.call, h4, fun q hq => va_T.moved (u := U) (U := U.calling g mk a) (Vm.Alike.refl U.vm) (h5 q hq)⟩
theorem Aa.le {n1 a b : Nat} (hab : a ≤ b) {q : Nat} (hq : Aa ad n1 b q) : Aa ad n1 a q := hq.imp id (fun h => Nat.le_trans hab h)
theorem PU.ready (X : Fx p s m args meth c cc nL own ret D ad ac L rl) (hH : Hp D ad ac L h s H locs) {U : State} (hU : U.heap = H) (hW : s.WarmedH U.vm) : PU D ad ac L rl H.size h U := by
  obtain ⟨hx, hb, hml, hown, hts, hr, hlk, hC, hI, hR⟩ := X
  refine ⟨by rw [hU], by rw [hU]; exact hH.1, hC.warm hW, hI, fun q hq => ?_⟩
  rw [hU]
  exact va_T.moved hW.alike (((hR q hq).kept hH.2.2.1).narrow (fun z hz => Aa.le hH.2.1 hz))
theorem callGo {A1 : Array Value} (X : Fx p s m args meth c cc nL own ret D ad ac L rl) (hH : Hp D ad ac L h s H locs)
    (hr : va_Run p l e (rmD d) s m args below meth c H locs 0 0 0 0 (F0 m pc ls st) rest (QU D ad ac L r h' H.size A1) (Aa ad L.length H.size))
    (kk : ∀ (H1 : Heap) (locs1 : List Loc), Hp D ad ac L h' s H1 locs1 → W p l e (rmD d) s m args below meth c H1 locs1 0 0 Q (F0 m (pc + 3) ls (r.toList ++ rest))) : W p l e (rmD d) s m args below meth c H locs 0 0 Q (F0 m pc ls st) := by
  intro T hT X1
  obtain ⟨v, st₀, t, T', L1, h0, X', hL, e1, e2, ⟨hv, hp, hz, hk⟩, stp⟩ := hr T hT X1
  cases hv
  rw [h0] at hz hk
  obtain ⟨t2, a1, b1⟩ := kk T'.heap (locs ++ L1) ⟨by rw [e1]; exact hp, Nat.le_trans hH.2.1 (by rw [e1]; exact hz), fun q h1 h2 => by
      rw [e1, hk q (Nat.lt_of_lt_of_le h1 hH.2.1) (fun z => h2 (Aa.le hH.2.1 z))]
      exact hH.2.2.1 q h1 h2, fun q hq => by
      rcases List.mem_append.mp hq with h | h
      · exact hH.2.2.2 q h
      · exact Aa.le hH.2.1 (hL q h)⟩ T' rfl X'
  exact ⟨t2, stp t2 a1, b1⟩
/-- invokevirtual -/
theorem cV (X : Fx p s m args meth c cc nL own ret D ad ac L rl) (hH : Hp D ad ac L h s H locs) (hC : CL own index y cc1 nL1 ret1 n) (hV : CLv y) (hM : Mt l D ad ac L rl y cc1 nL1 ret1 d1 (.ref (ad k) :: As) h r h') (hk : L[k]? = some (.inr (.inl (ci, fs)))) (hc : (vwCl[ci]?).map (fun q => q.1) = some y.cls) (hn : As.length = n) (hd : d1 + 1 ≤ d) (hls : ls.size = nL) (hst : st = As.reverse ++ .ref (ad k) :: rest) (hW : (rest.map fun v => v.category).sum ≤ 8) (hdg : decode cc pc = .ok (.invokevirtual index, 3))
    (kk : ∀ (H1 : Heap) (locs1 : List Loc), Hp D ad ac L h' s H1 locs1 → W p l e (rmD d) s m args below meth c H1 locs1 0 0 Q (F0 m (pc + 3) ls (r.toList ++ rest))) : W p l e (rmD d) s m args below meth c H locs 0 0 Q (F0 m pc ls st) := by
  have hq : ∃ q : vw_C, vwCl[ci]? = some q ∧ q.1 = y.cls := by
    cases hv : vwCl[ci]? with
    | none => rw [hv] at hc; cases hc
    | some q => rw [hv] at hc; exact ⟨q, rfl, Option.some.inj hc⟩
  obtain ⟨q, hq1, hq2⟩ := hq
  have hrecv := va_recv (D := D) X.2.2.2.2.2.2.2.1.1 hH.1 hq1 (wd_at hk)
  rw [hq2] at hrecv
  exact callGo X hH (va_runV (C := y.cls) (As := As) ⟨X.1, X.2.1, X.2.2.1, X.2.2.2.1, X.2.2.2.2.1⟩ (hM H.size) ⟨CL.B X hC hd, X.2.2.2.2.1 _ hV.1, X.2.2.2.2.1 _ hV.2⟩ ⟨PU.blind, hrecv, fun U hU hWm => ⟨rfl, PU.ready X hH hU hWm⟩⟩ rfl hn hls hst (lv_room hW) hdg ⟨Nat.zero_le _, Nat.zero_le _⟩) kk
/-- invokestatic -/
theorem cS (X : Fx p s m args meth c cc nL own ret D ad ac L rl) (hH : Hp D ad ac L h s H locs) (hC : CL own index y cc1 nL1 ret1 n) (hV : Cond.static y ∈ wg) (hM : Mt l D ad ac L rl y cc1 nL1 ret1 d1 As h r h') (hn : As.length = n) (hd : d1 + 1 ≤ d) (hls : ls.size = nL) (hst : st = As.reverse ++ rest) (hW : (rest.map fun v => v.category).sum ≤ 8) (hdg : decode cc pc = .ok (.invokestatic index, 3))
    (kk : ∀ (H1 : Heap) (locs1 : List Loc), Hp D ad ac L h' s H1 locs1 → W p l e (rmD d) s m args below meth c H1 locs1 0 0 Q (F0 m (pc + 3) ls (r.toList ++ rest))) : W p l e (rmD d) s m args below meth c H locs 0 0 Q (F0 m pc ls st) :=
  callGo X hH (va_runS (As := As) ⟨X.1, X.2.1, X.2.2.1, X.2.2.2.1, X.2.2.2.2.1⟩ (hM H.size) ⟨CL.B X hC hd, X.2.2.2.2.1 _ hV⟩ ⟨PU.blind, fun U hU hWm => ⟨rfl, PU.ready X hH hU hWm⟩⟩ rfl hn hls hst (lv_room hW) hdg ⟨Nat.zero_le _, Nat.zero_le _⟩) kk
end CALLS
