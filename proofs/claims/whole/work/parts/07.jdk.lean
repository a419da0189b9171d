theorem Mt.ofF {l : Launch} {D : va_G} {ad : Nat → Nat} {ac : Nat → ClassId} {L : List CD} {rl : RomL} {y : MethodName} {cc : ByteArray} {nL : Nat} {ret : Option FieldType} {d : Nat} {As : List Value} {h : Mm} {r : Option Value} {h' : Mm} {own : String}
    (hy : plainFor y = true) (hcl : y.cls = own) (hlen : (lg_sl As).length ≤ nL)
    (body : ∀ (p : Program) (e : Env) (s : State) (m : MethodId) (below : List Frame) (meth : Method) (c : Code) (ls : Array Slot), Fx p s m As.toArray meth c cc nL own ret D ad ac L rl → Hp D ad ac L h s s.heap [] → lv_has ls nL (lv_args 0 As) →
      W p l e (rmD d) s m As.toArray below meth c s.heap [] 0 0 (MQ below (QU D ad ac L r h' s.heap.size) As.toArray s 0 0 (Aa ad L.length s.heap.size)) (F0 m 0 ls [])) : Mt l D ad ac L rl y cc nL ret d As h r h' := by
  intro sz
  refine va_MetF (cc := cc) (maxL := nL) (ret := ret) hy rfl ?_
  intro p e s m args below meth c s₁ B hml hv
  obtain ⟨rfl, rfl, hP, hC, hI, hR⟩ := hv
  have hts := atoms_spec (ws := wsy y cc nL ret) B.pre
  have hown : s.vm.findClass own = some m.cls := hcl ▸ findClass_of_methodNamed B.named
  have hl := lv_entry As (n := nL) hlen
  rw [lg_entry_eq]
  exact body p e s m below meth c _ ⟨B.exec, B.bytes, hml, hown, fun w hw => hts w (List.mem_cons_of_mem _ hw), B.returns, B.notSynchronized, hC, hI, hR⟩ ⟨hP, va_S.rf⟩ hl
theorem pf_J9_min_7cf53 : plainFor yJ9_min_7cf53 = true := by decide +kernel
theorem pf_J9_max_7cf53 : plainFor yJ9_max_7cf53 = true := by decide +kernel
theorem pf_J9_floorMod_7cf53 : plainFor yJ9_floorMod_7cf53 = true := by decide +kernel
