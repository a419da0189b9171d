/-! new int[n][k], walked here over the machine's own words: the state behind i rows, its facts, the loop, the instruction -/
def mmO (cA : ClassId) (n h i : Nat) : Cell := arrV cA n (fun j => va_rf (if j < i then some (h + 1 + j) else none))
def mmR (cC : ClassId) (K : Nat) : Cell := arrV cC K (fun _ => .int 0)
def mmS (T : State) (cA cC : ClassId) (n K : Nat) : Nat → State
  | 0 => T.pushCell (mmO cA n T.heap.size 0)
  | i + 1 => ((mmS T cA cC n K i).pushCell (mmR cC K)).setCell T.heap.size ((mmO cA n T.heap.size i).setSlot i (.ref (T.heap.size + 1 + i)))
theorem mmO_zero (cA : ClassId) (n h : Nat) : mmO cA n h 0 = arrV cA n (fun _ => .null) := congrArg (arrV cA n) (funext fun j => by rw [if_neg (Nat.not_lt_zero j)]; rfl)
theorem mmO_next (cA : ClassId) (n h i : Nat) : (mmO cA n h i).setSlot i (.ref (h + 1 + i)) = mmO cA n h (i + 1) := by
  unfold mmO
  rw [arrV_store]
  refine congrArg (arrV cA n) (funext fun j => ?_)
  unfold updV
  by_cases e : j = i
  · subst e
    rw [if_pos rfl, if_pos (Nat.lt_succ_self j)]
    rfl
  · rw [if_neg e]
    show va_rf (if j < i then some (h + 1 + j) else none) = _
    by_cases hj : j < i
    · rw [if_pos hj, if_pos (Nat.lt_succ_of_lt hj)]
    · rw [if_neg hj, if_neg (by omega)]
theorem mmS_facts (T : State) (cA cC : ClassId) (n K : Nat) : ∀ i : Nat, (mmS T cA cC n K i).heap.size = T.heap.size + 1 + i ∧ (mmS T cA cC n K i).heap[T.heap.size]? = some (mmO cA n T.heap.size i) ∧ (mmS T cA cC n K i).vm = T.vm ∧ (mmS T cA cC n K i).slotsUsed = T.slotsUsed + n + i * K ∧ (∀ a : Nat, a < T.heap.size → (mmS T cA cC n K i).heap[a]? = T.heap[a]?) ∧ ∀ j : Nat, j < i → (mmS T cA cC n K i).heap[T.heap.size + 1 + j]? = some (mmR cC K)
  | 0 => ⟨by simp [mmS], State.heap_pushCell_size _ _, rfl, by simp [mmS, mmO, arrV_size], fun a h => State.heap_pushCell_of_lt _ _ h, fun j h => absurd h (Nat.not_lt_zero j)⟩
  | i + 1 => by
    obtain ⟨h1, h2, h3, h4, h5, h6⟩ := mmS_facts T cA cC n K i
    have lt : ∀ a : Nat, a < T.heap.size + 1 + i → ((mmS T cA cC n K i).pushCell (mmR cC K)).heap[a]? = (mmS T cA cC n K i).heap[a]? := fun a h => State.heap_pushCell_of_lt _ _ (by rw [h1]; exact h)
    have top : ((mmS T cA cC n K i).pushCell (mmR cC K)).heap[T.heap.size + 1 + i]? = some (mmR cC K) := by
      rw [← h1]
      exact State.heap_pushCell_size _ _
    refine ⟨?_, ?_, h3, ?_, fun a h => ?_, fun j h => ?_⟩
    · simp [mmS, State.setCell, h1]
      omega
    · rw [← mmO_next]
      exact State.heap_setCell_self ((lt _ (by omega)).trans h2)
    · show (mmS T cA cC n K i).slotsUsed + (mmR cC K).slots.size = _
      rw [h4, show (mmR cC K).slots.size = K from arrV_size _ _ _, Nat.succ_mul, Nat.add_assoc]
    · exact (State.heap_setCell_other (Nat.ne_of_gt h)).trans ((lt a (by omega)).trans (h5 a h))
    · refine (State.heap_setCell_other (show T.heap.size ≠ T.heap.size + 1 + j by omega)).trans ?_
      by_cases e : j = i
      · rw [e]
        exact top
      · exact (lt _ (by omega)).trans (h6 j (by omega))
theorem mmS_top (T : State) (f : JFrame) (cA cC : ClassId) (n K : Nat) : ∀ i : Nat, mmS (T.setTop f) cA cC n K i = (mmS T cA cC n K i).setTop f
  | 0 => rfl
  | i + 1 => by
    show ((mmS (T.setTop f) cA cC n K i).pushCell (mmR cC K)).setCell T.heap.size _ = _
    rw [mmS_top T f cA cC n K i]
    rfl
section MMW
variable {E : CtlPost} {e : Env}
theorem mm_for {S : Nat → State} {f : Nat → PUnit → Sem (ForInStep PUnit)} {n : Nat} (hb : ∀ i : Nat, i < n → ∀ (d : Bool) (acts : List Action) (Q : ForInStep PUnit → Pre), (∀ (d' : Bool) (acts' : List Action), Q (.yield PUnit.unit) d' acts' (S (i + 1))) → wp (f i PUnit.unit) Q E e d acts (S i)) : ∀ (r i : Nat), i + r = n → ∀ (d : Bool) (acts : List Action) (Q : PUnit → Pre), (∀ (d' : Bool) (acts' : List Action), Q PUnit.unit d' acts' (S n)) → wp (forIn (List.range' i r) PUnit.unit f) Q E e d acts (S i)
  | 0, i, h, d, acts, Q, hq => by
    have hi : i = n := h
    subst hi
    simp only [List.range'_zero, List.forIn_nil, wp_pure']
    exact hq d acts
  | r + 1, i, h, d, acts, Q, hq => by
    rw [List.range'_succ]
    simp only [List.forIn_cons, wp_bind']
    exact hb i (by omega) d acts _ (fun d' acts' => mm_for hb r (i + 1) (by omega) d' acts' Q hq)
theorem mm_new {s : State} {d : Bool} {acts : List Action} {cA comp : ClassId} {k : Class} {ty : FieldType} {len : Nat} {v : Value} (hk : s.vm.classes[cA]? = some k) (hkind : k.kind = .array comp ty) (hl : ¬ len > e.platform.arrayLengthLimit) (hh : ¬ len * componentBytes ty > e.platform.maxHeapBytes) (hv : fits ty v = true) (h1 : s.heap.size < e.platform.maxCells) (h2 : s.slotsUsed + len ≤ e.platform.maxSlots) {Q : Addr → Pre} (hq : ∀ acts' : List Action, Q s.heap.size d acts' (s.pushCell (arrV cA len (fun _ => v)))) : wp (Jvm.newArray cA len v) Q E e d acts s := by
  have hf : ∀ (i : Nat) (x : Value), (Array.replicate len v)[i]? = some x → s.fitsSlot cA .none i x = true := fun i x hx => by
    rw [Array.getElem?_replicate] at hx
    by_cases hi : i < len
    · rw [if_pos hi] at hx
      cases hx
      simp [State.fitsSlot, State.slotType?, hk, hkind, hv]
    · rw [if_neg hi] at hx
      cases hx
  have hm : ¬ len > e.platform.maxSlots := by omega
  simp only [Jvm.newArray, Jvm.arrayFits, wp_bind', W.ask, W.ite, hl, hh, hm, if_false, wp_pure', W.theClass, hk, hkind, Option.some.injEq, exists_eq_left', W.alloc, Array.size_replicate]
  refine ⟨h1, h2, hf, ?_⟩
  rw [arrV_new]
  exact hq _
theorem mm_row {s : State} {d : Bool} {acts : List Action} {cC cE : ClassId} {k : Class} {y : Int32} {K : Nat} (hy : y.toNatClampNeg = K) (hy0 : ¬ y < 0) (hk : s.vm.classes[cC]? = some k) (hkind : k.kind = .array cE .int) (hl : ¬ K > e.platform.arrayLengthLimit) (hh : ¬ K * 4 > e.platform.maxHeapBytes) (h1 : s.heap.size < e.platform.maxCells) (h2 : s.slotsUsed + K ≤ e.platform.maxSlots) {Q : Addr → Pre} (hq : ∀ acts' : List Action, Q s.heap.size d acts' (s.pushCell (mmR cC K))) : wp (multianewarray.make cC [y]) Q E e d acts s := by
  subst hy
  rw [multianewarray.make]
  simp only [wp_bind', W.ite, hy0, if_false, wp_pure', W.theClass, hk, hkind, Option.some.injEq, exists_eq_left']
  exact mm_new hk hkind hl hh rfl h1 h2 hq
theorem mm_make {s : State} {d : Bool} {acts : List Action} {cA cC cE : ClassId} {kA kC : Class} {x y : Int32} {n K : Nat} (hx : x.toNatClampNeg = n) (hx0 : ¬ x < 0) (hy : y.toNatClampNeg = K) (hy0 : ¬ y < 0) (hkA : s.vm.classes[cA]? = some kA) (hkindA : kA.kind = .array cC (.array .int)) (hkC : s.vm.classes[cC]? = some kC) (hkindC : kC.kind = .array cE .int) (hl1 : ¬ n > e.platform.arrayLengthLimit) (hh1 : ¬ n * 4 > e.platform.maxHeapBytes) (hl2 : ¬ K > e.platform.arrayLengthLimit) (hh2 : ¬ K * 4 > e.platform.maxHeapBytes) (h1 : s.heap.size + (1 + n) ≤ e.platform.maxCells) (h2 : s.slotsUsed + (n + n * K) ≤ e.platform.maxSlots) {Q : Addr → Pre} (hq : ∀ (d' : Bool) (acts' : List Action), Q s.heap.size d' acts' (mmS s cA cC n K n)) : wp (multianewarray.make cA [x, y]) Q E e d acts s := by
  subst hx
  have hneg : ([y].find? (· < 0)) = none := by simp [hy0]
  rw [multianewarray.make]
  simp only [wp_bind', W.ite, hx0, if_false, wp_pure', W.theClass, hkA, hkindA, Option.some.injEq, exists_eq_left']
  refine mm_new hkA hkindA hl1 hh1 rfl (by omega) (by have := Nat.zero_le (x.toNatClampNeg * K); omega) (fun acts' => ?_)
  rw [← mmO_zero cA x.toNatClampNeg s.heap.size]
  simp only [hneg]
  rw [ite_self, wp_bind', Std.Legacy.Range.forIn_eq_forIn_range', show ([:x.toNatClampNeg] : Std.Legacy.Range).size = x.toNatClampNeg by simp [Std.Legacy.Range.size]]
  refine mm_for (S := mmS s cA cC x.toNatClampNeg K) (fun i hi d1 acts1 Q1 hQ1 => ?_) x.toNatClampNeg 0 (Nat.zero_add _) _ _ _ (fun d' acts1 => ?_)
  · obtain ⟨f1, f2, f3, f4, -, -⟩ := mmS_facts s cA cC x.toNatClampNeg K i
    have hm : (i + 1) * K ≤ x.toNatClampNeg * K := Nat.mul_le_mul_right K hi
    rw [Nat.succ_mul] at hm
    simp only [wp_bind']
    refine mm_row hy hy0 (by rw [f3]; exact hkC) hkindC hl2 hh2 (by rw [f1]; omega) (by rw [f4]; omega) (fun acts2 => ?_)
    simp only [wp_bind', W.writeLoc, wp_pure']
    have hlt : s.heap.size < (mmS s cA cC x.toNatClampNeg K i).heap.size := by
      rw [f1]
      omega
    refine ⟨mmO cA x.toNatClampNeg s.heap.size i, (State.heap_pushCell_of_lt _ _ hlt).trans f2, by simp [mmO, arrV], by rw [show (mmO cA x.toNatClampNeg s.heap.size i).slots.size = x.toNatClampNeg from arrV_size _ _ _]; exact hi, ?_, ?_⟩
    · simp [mmO, arrV, State.fitsSlot, State.slotType?, f3, hkA, hkindA, fits]
    · rw [f1]
      exact hQ1 _ _
  · simp only [wp_pure']
    exact hq _ _
end MMW
section MMX
variable {p : Program} {l : Launch} {e : Env} {R : Room} {s : State} {m : MethodId} {args : Array Value} {below : List Frame} {meth : Method} {c : Code} {T : State} {locs : List Loc} {cells slots : Nat}
theorem mm_stand (X : Stand p l e R s m args below meth c T locs cells slots) (cA cC : ClassId) (n K : Nat) : ∀ i : Nat, Stand p l e R s m args below meth c (mmS T cA cC n K i) locs (cells + (1 + i)) (slots + (n + i * K))
  | 0 => by
    have h := X.pushed (mmO cA n T.heap.size 0)
    rw [show (mmO cA n T.heap.size 0).slots.size = n from arrV_size _ _ _] at h
    rw [Nat.zero_mul]
    exact h
  | i + 1 => by
    have Xi := (mm_stand X cA cC n K i).pushed (mmR cC K)
    obtain ⟨f1, f2, -⟩ := mmS_facts T cA cC n K i
    have hlt : T.heap.size < (mmS T cA cC n K i).heap.size := by
      rw [f1]
      omega
    have h := Xi.stored ((State.heap_pushCell_of_lt _ _ hlt).trans f2) i (.ref (T.heap.size + 1 + i))
    have h' := h.dropFresh (fun x hx => by rw [List.mem_singleton.mp hx]; exact X.heapGrown)
    rw [show (mmR cC K).slots.size = K from arrV_size _ _ _] at h'
    rw [show cells + (1 + (i + 1)) = cells + (1 + i) + 1 by omega, show slots + (n + (i + 1) * K) = slots + (n + i * K) + K by rw [Nat.succ_mul]; omega]
    exact h'
theorem mm_multi {own : String} {index n K : Nat} {cA cC : ClassId} {x y : Int32} {rest : List Value} {g : JFrame} (X : Stand p l e R s m args below meth c T locs cells slots) (hexec : p.tables.exec = Jvm.exec) (hown : s.vm.findClass own = some m.cls) (hclink : (Cond.classLink own index ("[" ++ (FieldType.array .int).toString)).before args s = true) (hover : va_Nw aoI s) (harr : (Cond.arrayClass .int).before args s = true) (fA : s.vm.findClass ("[" ++ (FieldType.array .int).toString) = some cA) (fC : s.vm.findClass (FieldType.array .int).toString = some cC) (hg : g.method = m) (hdg : decode c.code g.pc = .ok (.multianewarray index 2, 4)) (hstack : g.stack = .int y :: .int x :: rest) (hx : x.toNatClampNeg = n) (hx0 : ¬ x < 0) (hy : y.toNatClampNeg = K) (hy0 : ¬ y < 0) (hn : n ≤ 1000) (hK : K ≤ 1000) (hcells : cells + (1 + n) ≤ R.cells) (hslots : slots + (n + n * K) ≤ R.slots) :
    ∃ F : State, Stand p l e R s m args below meth c F locs (cells + (1 + n)) (slots + (n + n * K)) ∧ F.heap.size = T.heap.size + 1 + n ∧ (∀ a : Nat, a < T.heap.size → F.heap[a]? = T.heap[a]?) ∧ F.heap[T.heap.size]? = some (arrV cA n (fun j => va_rf (if j < n then some (T.heap.size + 1 + j) else none))) ∧ (∀ j : Nat, j < n → F.heap[T.heap.size + 1 + j]? = some (arrV cC K (fun _ => .int 0))) ∧
      ∀ t : State, Steps p.tables e below (F.setTop { g with pc := g.pc + 4, stack := .ref T.heap.size :: rest }) t → Steps p.tables e below (T.setTop g) t := by
  subst hg
  obtain ⟨comp, cA', kA, hcomp, -, hkA, hkindA, hnameA⟩ := aoI_full hover
  obtain ⟨cC', kC, cE, hnameC, hkC, hkindC⟩ := Cond.arrayClass_spec harr
  cases Option.some.inj (hnameA.symm.trans fA)
  cases Option.some.inj (hcomp.symm.trans fC)
  cases Option.some.inj (hnameC.symm.trans fC)
  obtain ⟨c0, hf0, hcl⟩ := Cond.classLink_spec hown hclink e.platform (by rw [X.admits.platform])
  cases Option.some.inj (hf0.symm.trans fA)
  obtain ⟨hgv, hwarm, -⟩ := State.classEntry (e := e) X.warmed hcl
  generalize T.vm.noted g.method.cls index (.cls cA) = v1 at hgv hwarm
  obtain ⟨kA1, hkA1, heA⟩ := hwarm.alike.2.2 _ _ hkA
  obtain ⟨kC1, hkC1, heC⟩ := hwarm.alike.2.2 _ _ hkC
  have XF := mm_stand (X.noted hwarm) cA cC n K n
  obtain ⟨f1, f2, -, -, f5, f6⟩ := mmS_facts (T.setVm v1) cA cC n K n
  refine ⟨mmS (T.setVm v1) cA cC n K n, XF, f1, f5, f2, f6, fun t ht => ?_⟩
  obtain ⟨hr1, hr2⟩ := X.roomAbove hcells hslots
  have hlim : ∀ q : Nat, q ≤ 1000 → ¬ q > e.platform.arrayLengthLimit ∧ ¬ q * 4 > e.platform.maxHeapBytes := fun q hq => ⟨by rw [Launch.admits_arrayLengthLimit X.admits]; omega, by rw [Launch.admits_maxHeapBytes X.admits]; omega⟩
  jvm_step X.here [hexec, hdg]
  simp only [multianewarray.sem, wp_bind', W.resolveClassAt_links (State.method?_setTop g X.here.top) hgv]
  rw [W.popN, if_neg (by decide)]
  refine ⟨g, State.topJava?_setTop' (s := T.setVm v1) g X.here.top, [.int x, .int y], rest, rfl, hstack, ?_⟩
  simp only [List.mapM_cons, List.mapM_nil, wp_bind', wp_pure']
  refine mm_make (s := ((T.setTop g).setVm v1).setTop { g with stack := rest }) hx hx0 hy hy0 (kA := kA1) (kC := kC1) (cE := cE) hkA1 (by rw [heA]; exact hkindA) hkC1 (by rw [heC]; exact hkindC) (hlim n hn).1 (hlim n hn).2 (hlim K hK).1 (hlim K hK).2 hr1 hr2 (fun d' acts' => ?_)
  have e1 : ((T.setTop g).setVm v1).setTop { g with stack := rest } = (T.setVm v1).setTop { g with stack := rest } := State.setTop_setTop (s := T.setVm v1) ..
  rw [e1, mmS_top]
  simp only [wp_bind', W.mark, W.pushRef, State.topJava?_setTop' _ XF.here.top, Option.some.injEq, exists_eq_left', State.setTop_setTop, State.heap_setTop]
  intro acts1
  simp [jvm, XF.here.top]
  exact ht
end MMX
