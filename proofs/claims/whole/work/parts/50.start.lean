theorem in_X10 : Cond.instantiable RX10 7 ∈ wg := (wg_m1 22 (by decide +kernel) rfl)
theorem in_X11 : Cond.instantiable RX11 28 ∈ wg := (wg_m4 103 (by decide +kernel) rfl)
theorem inst_all : ∀ (ci : Nat) (r : vw_C), vwCl[ci]? = some r → Cond.instantiable r.1 r.2.2 ∈ wg ∧ clOk r := by
  intro ci r h
  have hk : ci < 12 := (List.getElem?_eq_some_iff.mp h).1
  match ci, hk with
  | 0, _ => cases h; exact ⟨in_X0, cok0⟩
  | 1, _ => cases h; exact ⟨in_X1, cok1⟩
  | 2, _ => cases h; exact ⟨in_X2, cok2⟩
  | 3, _ => cases h; exact ⟨in_X3, cok3⟩
  | 4, _ => cases h; exact ⟨in_X4, cok4⟩
  | 5, _ => cases h; exact ⟨in_X5, cok5⟩
  | 6, _ => cases h; exact ⟨in_X6, cok6⟩
  | 7, _ => cases h; exact ⟨in_X7, cok7⟩
  | 8, _ => cases h; exact ⟨in_X8, cok8⟩
  | 9, _ => cases h; exact ⟨in_X9, cok9⟩
  | 10, _ => cases h; exact ⟨in_X10, cok10⟩
  | 11, _ => cases h; exact ⟨in_X11, cok11⟩
  | q + 12, h => exact absurd h (by omega)
theorem start_D {args : Array Value} {s : State} (hts : ∀ w ∈ wg, w.before args s = true) : ∃ D : va_G, ∀ (c : Nat) (q : vw_C), vwCl[c]? = some q → u_Kn s q.1 q.2.1 q.2.2 (D.1 c) (D.2 c) := by
  have h : ∀ c : Nat, ∃ d : ClassId × (Nat → Nat), ∀ q : vw_C, vwCl[c]? = some q → u_Kn s q.1 q.2.1 q.2.2 d.1 d.2 := by
    intro c
    cases hq : vwCl[c]? with
    | none => exact ⟨(0, fun _ => 0), fun q h => by cases h⟩
    | some q =>
      obtain ⟨cC, iS, hk⟩ := u_known hts (inst_all c q hq).2.1 (hts _ (inst_all c q hq).1)
      exact ⟨(cC, iS), fun q' h => by cases h; exact hk⟩
  obtain ⟨f, hf⟩ := Classical.axiomOfChoice h
  exact ⟨(fun c => (f c).1, fun c => (f c).2), fun c q hq => hf c q hq⟩
theorem aoI_spec {s : State} (h : va_Nw aoI s) : ∃ (c : ClassId) (k : Class) (comp : ClassId), s.vm.findClass ("[" ++ (FieldType.array .int).toString) = some c ∧ s.vm.classes[c]? = some k ∧ k.kind = .array comp (.array .int) := by
  obtain ⟨comp, c, k, h1, h2, h3, h4, h5⟩ := aoI_full h
  exact ⟨c, k, comp, h5, h3, h4⟩
theorem start_ac {args : Array Value} {s : State} (hts : ∀ w ∈ wg, w.before args s = true) (hS : va_AO "StationPasses$State" s) (hA : va_Nw aoI s) : ∃ ac : Nat → ClassId, ∀ (k : Nat) (q : ClassId × FieldType), (tysL ac)[k]? = some q → ArrOfT s q.1 q.2 ∧ va_RA s q.1 q.2 := by
  obtain ⟨cI, kI, pI, i1, i2, i3⟩ := Cond.arrayClass_spec (hts _ awI)
  obtain ⟨cC, kC, pC, c1, c2, c3⟩ := Cond.arrayClass_spec (hts _ awC)
  obtain ⟨pS, cS, kS, s1, s2, s3, s4, s5⟩ := Cond.arrayOver_spec hS
  obtain ⟨cA, kA, pA, a1, a2, a3⟩ := aoI_spec hA
  refine ⟨fun t => match t with | 0 => cI | 1 => cC | 2 => cS | _ => cA, fun k q hk => ?_⟩
  have hk4 : k < 4 := (List.getElem?_eq_some_iff.mp hk).1
  match k, hk4 with
  | 0, _ => cases hk; exact ⟨fun n z => ⟨fun k h => (by cases h), kI, i2, pI, i3⟩, i1⟩
  | 1, _ => cases hk; exact ⟨fun n z => ⟨fun k h => (by cases h), kC, c2, pC, c3⟩, c1⟩
  | 2, _ => cases hk; exact ⟨fun n z => ⟨fun k h => (by cases h), kS, s3, pS, s4⟩, kS, pS, s3, s4, s1, s5⟩
  | 3, _ => cases hk; exact ⟨fun n z => ⟨fun k h => (by cases h), kA, a2, pA, a3⟩, a1⟩
section ATSTART
variable {b : Nat} {s : State}
set_option maxRecDepth 8000 in
theorem old_0 (hts : ∀ w ∈ lw_tbl, w.before #[Value.ref b] s = true) (hgv : (Jvm.Cond.and given_1 narrow_1).before #[Value.ref b] s = true) : ∃ t : Nat, va_Z "StationPasses" "SAT_LOWS" "[I" (.ref t) (fun a => s.heap.size ≤ a) s s.heap ∧ va_T .int t 5 (fun j => .int (rom0 j)) (fun a => s.heap.size ≤ a) s s.heap := by
  have hs := flat_of_before _ hgv
  have hA : ∀ a : Nat, a < s.heap.size → ¬ s.heap.size ≤ a := fun a h => by omega
  have hel : ∀ j : Nat, j < 5 → (Term.elem (.static "StationPasses" "SAT_LOWS" "[I") (.int (Int32.ofNat j))).eval #[Value.ref b] s none [] s = some (.int (rom0 j)) := by
    intro j hj
    match j, hj with
    | 0, _ => exact va_eqt (hs (.eq (.elem (.static "StationPasses" "SAT_LOWS" "[I") (.int 0)) (.int 0)) (by decide +kernel))
    | 1, _ => exact va_eqt (hs (.eq (.elem (.static "StationPasses" "SAT_LOWS" "[I") (.int 1)) (.int 6)) (by decide +kernel))
    | 2, _ => exact va_eqt (hs (.eq (.elem (.static "StationPasses" "SAT_LOWS" "[I") (.int 2)) (.int 0)) (by decide +kernel))
    | 3, _ => exact va_eqt (hs (.eq (.elem (.static "StationPasses" "SAT_LOWS" "[I") (.int 3)) (.int 1)) (by decide +kernel))
    | 4, _ => exact va_eqt (hs (.eq (.elem (.static "StationPasses" "SAT_LOWS" "[I") (.int 4)) (.int 0)) (by decide +kernel))
    | q + 5, h => exact absurd h (by omega)
  obtain ⟨t, ht, hT⟩ := va_Tof (f := fun j => .int (rom0 j)) (A := fun a => s.heap.size ≤ a) (tm := (.static "StationPasses" "SAT_LOWS" "[I")) (ty := .int) (N := 5) (by decide) (hs (.arrayOf (.static "StationPasses" "SAT_LOWS" "[I") .int) (by decide +kernel)) (va_eqt (hs (.eq (.length (.static "StationPasses" "SAT_LOWS" "[I")) (.int 5)) (by decide +kernel))) hel hA
  exact ⟨t, va_Zof (hts (.laysStatic "StationPasses" "SAT_LOWS" "[I") (List.mem_append_right _ (show _ ∈ tables_1 from (List.mem_append_left _ (List.mem_of_getElem? (i := 60) (by decide +kernel)))))) (hts (.initialized "StationPasses") (List.mem_append_right _ (show _ ∈ tables_1 from (List.mem_append_left _ (List.mem_of_getElem? (i := 1) (by decide +kernel)))))) ht hA, hT⟩
set_option maxRecDepth 8000 in
theorem old_1 (hts : ∀ w ∈ lw_tbl, w.before #[Value.ref b] s = true) (hgv : (Jvm.Cond.and given_1 narrow_1).before #[Value.ref b] s = true) : ∃ t : Nat, va_Z "StationPasses" "SAT_HIGHS" "[I" (.ref t) (fun a => s.heap.size ≤ a) s s.heap ∧ va_T .int t 5 (fun j => .int (rom1 j)) (fun a => s.heap.size ≤ a) s s.heap := by
  have hs := flat_of_before _ hgv
  have hA : ∀ a : Nat, a < s.heap.size → ¬ s.heap.size ≤ a := fun a h => by omega
  have hel : ∀ j : Nat, j < 5 → (Term.elem (.static "StationPasses" "SAT_HIGHS" "[I") (.int (Int32.ofNat j))).eval #[Value.ref b] s none [] s = some (.int (rom1 j)) := by
    intro j hj
    match j, hj with
    | 0, _ => exact va_eqt (hs (.eq (.elem (.static "StationPasses" "SAT_HIGHS" "[I") (.int 0)) (.int 59)) (by decide +kernel))
    | 1, _ => exact va_eqt (hs (.eq (.elem (.static "StationPasses" "SAT_HIGHS" "[I") (.int 1)) (.int 60)) (by decide +kernel))
    | 2, _ => exact va_eqt (hs (.eq (.elem (.static "StationPasses" "SAT_HIGHS" "[I") (.int 2)) (.int 1)) (by decide +kernel))
    | 3, _ => exact va_eqt (hs (.eq (.elem (.static "StationPasses" "SAT_HIGHS" "[I") (.int 3)) (.int 99)) (by decide +kernel))
    | 4, _ => exact va_eqt (hs (.eq (.elem (.static "StationPasses" "SAT_HIGHS" "[I") (.int 4)) (.int 9)) (by decide +kernel))
    | q + 5, h => exact absurd h (by omega)
  obtain ⟨t, ht, hT⟩ := va_Tof (f := fun j => .int (rom1 j)) (A := fun a => s.heap.size ≤ a) (tm := (.static "StationPasses" "SAT_HIGHS" "[I")) (ty := .int) (N := 5) (by decide) (hs (.arrayOf (.static "StationPasses" "SAT_HIGHS" "[I") .int) (by decide +kernel)) (va_eqt (hs (.eq (.length (.static "StationPasses" "SAT_HIGHS" "[I")) (.int 5)) (by decide +kernel))) hel hA
  exact ⟨t, va_Zof (hts (.laysStatic "StationPasses" "SAT_HIGHS" "[I") (List.mem_append_right _ (show _ ∈ tables_1 from (List.mem_append_left _ (List.mem_of_getElem? (i := 62) (by decide +kernel)))))) (hts (.initialized "StationPasses") (List.mem_append_right _ (show _ ∈ tables_1 from (List.mem_append_left _ (List.mem_of_getElem? (i := 1) (by decide +kernel)))))) ht hA, hT⟩
set_option maxRecDepth 8000 in
theorem old_2 (hts : ∀ w ∈ lw_tbl, w.before #[Value.ref b] s = true) (hgv : (Jvm.Cond.and given_1 narrow_1).before #[Value.ref b] s = true) : ∃ t : Nat, va_Z "StationPasses" "STATION_LOWS" "[I" (.ref t) (fun a => s.heap.size ≤ a) s s.heap ∧ va_T .int t 2 (fun j => .int (rom2 j)) (fun a => s.heap.size ≤ a) s s.heap := by
  have hs := flat_of_before _ hgv
  have hA : ∀ a : Nat, a < s.heap.size → ¬ s.heap.size ≤ a := fun a h => by omega
  have hel : ∀ j : Nat, j < 2 → (Term.elem (.static "StationPasses" "STATION_LOWS" "[I") (.int (Int32.ofNat j))).eval #[Value.ref b] s none [] s = some (.int (rom2 j)) := by
    intro j hj
    match j, hj with
    | 0, _ => exact va_eqt (hs (.eq (.elem (.static "StationPasses" "STATION_LOWS" "[I") (.int 0)) (.int 0)) (by decide +kernel))
    | 1, _ => exact va_eqt (hs (.eq (.elem (.static "StationPasses" "STATION_LOWS" "[I") (.int 1)) (.int 1)) (by decide +kernel))
    | q + 2, h => exact absurd h (by omega)
  obtain ⟨t, ht, hT⟩ := va_Tof (f := fun j => .int (rom2 j)) (A := fun a => s.heap.size ≤ a) (tm := (.static "StationPasses" "STATION_LOWS" "[I")) (ty := .int) (N := 2) (by decide) (hs (.arrayOf (.static "StationPasses" "STATION_LOWS" "[I") .int) (by decide +kernel)) (va_eqt (hs (.eq (.length (.static "StationPasses" "STATION_LOWS" "[I")) (.int 2)) (by decide +kernel))) hel hA
  exact ⟨t, va_Zof (hts (.laysStatic "StationPasses" "STATION_LOWS" "[I") (List.mem_append_right _ (show _ ∈ tables_1 from (List.mem_append_left _ (List.mem_of_getElem? (i := 91) (by decide +kernel)))))) (hts (.initialized "StationPasses") (List.mem_append_right _ (show _ ∈ tables_1 from (List.mem_append_left _ (List.mem_of_getElem? (i := 1) (by decide +kernel)))))) ht hA, hT⟩
set_option maxRecDepth 8000 in
theorem old_3 (hts : ∀ w ∈ lw_tbl, w.before #[Value.ref b] s = true) (hgv : (Jvm.Cond.and given_1 narrow_1).before #[Value.ref b] s = true) : ∃ t : Nat, va_Z "StationPasses" "STATION_HIGHS" "[I" (.ref t) (fun a => s.heap.size ≤ a) s s.heap ∧ va_T .int t 2 (fun j => .int (rom3 j)) (fun a => s.heap.size ≤ a) s s.heap := by
  have hs := flat_of_before _ hgv
  have hA : ∀ a : Nat, a < s.heap.size → ¬ s.heap.size ≤ a := fun a h => by omega
  have hel : ∀ j : Nat, j < 2 → (Term.elem (.static "StationPasses" "STATION_HIGHS" "[I") (.int (Int32.ofNat j))).eval #[Value.ref b] s none [] s = some (.int (rom3 j)) := by
    intro j hj
    match j, hj with
    | 0, _ => exact va_eqt (hs (.eq (.elem (.static "StationPasses" "STATION_HIGHS" "[I") (.int 0)) (.int 59)) (by decide +kernel))
    | 1, _ => exact va_eqt (hs (.eq (.elem (.static "StationPasses" "STATION_HIGHS" "[I") (.int 1)) (.int 9)) (by decide +kernel))
    | q + 2, h => exact absurd h (by omega)
  obtain ⟨t, ht, hT⟩ := va_Tof (f := fun j => .int (rom3 j)) (A := fun a => s.heap.size ≤ a) (tm := (.static "StationPasses" "STATION_HIGHS" "[I")) (ty := .int) (N := 2) (by decide) (hs (.arrayOf (.static "StationPasses" "STATION_HIGHS" "[I") .int) (by decide +kernel)) (va_eqt (hs (.eq (.length (.static "StationPasses" "STATION_HIGHS" "[I")) (.int 2)) (by decide +kernel))) hel hA
  exact ⟨t, va_Zof (hts (.laysStatic "StationPasses" "STATION_HIGHS" "[I") (List.mem_append_right _ (show _ ∈ tables_1 from (List.mem_append_left _ (List.mem_of_getElem? (i := 93) (by decide +kernel)))))) (hts (.initialized "StationPasses") (List.mem_append_right _ (show _ ∈ tables_1 from (List.mem_append_left _ (List.mem_of_getElem? (i := 1) (by decide +kernel)))))) ht hA, hT⟩
set_option maxRecDepth 8000 in
theorem old_4 (hts : ∀ w ∈ lw_tbl, w.before #[Value.ref b] s = true) (hgv : (Jvm.Cond.and given_1 narrow_1).before #[Value.ref b] s = true) : ∃ t : Nat, va_Z "StationPasses" "ANTENNA_LOWS" "[I" (.ref t) (fun a => s.heap.size ≤ a) s s.heap ∧ va_T .int t 3 (fun j => .int (rom4 j)) (fun a => s.heap.size ≤ a) s s.heap := by
  have hs := flat_of_before _ hgv
  have hA : ∀ a : Nat, a < s.heap.size → ¬ s.heap.size ≤ a := fun a h => by omega
  have hel : ∀ j : Nat, j < 3 → (Term.elem (.static "StationPasses" "ANTENNA_LOWS" "[I") (.int (Int32.ofNat j))).eval #[Value.ref b] s none [] s = some (.int (rom4 j)) := by
    intro j hj
    match j, hj with
    | 0, _ => exact va_eqt (hs (.eq (.elem (.static "StationPasses" "ANTENNA_LOWS" "[I") (.int 0)) (.int 0)) (by decide +kernel))
    | 1, _ => exact va_eqt (hs (.eq (.elem (.static "StationPasses" "ANTENNA_LOWS" "[I") (.int 1)) (.int 0)) (by decide +kernel))
    | 2, _ => exact va_eqt (hs (.eq (.elem (.static "StationPasses" "ANTENNA_LOWS" "[I") (.int 2)) (.int 0)) (by decide +kernel))
    | q + 3, h => exact absurd h (by omega)
  obtain ⟨t, ht, hT⟩ := va_Tof (f := fun j => .int (rom4 j)) (A := fun a => s.heap.size ≤ a) (tm := (.static "StationPasses" "ANTENNA_LOWS" "[I")) (ty := .int) (N := 3) (by decide) (hs (.arrayOf (.static "StationPasses" "ANTENNA_LOWS" "[I") .int) (by decide +kernel)) (va_eqt (hs (.eq (.length (.static "StationPasses" "ANTENNA_LOWS" "[I")) (.int 3)) (by decide +kernel))) hel hA
  exact ⟨t, va_Zof (hts (.laysStatic "StationPasses" "ANTENNA_LOWS" "[I") (List.mem_append_right _ (show _ ∈ tables_1 from (List.mem_append_left _ (List.mem_of_getElem? (i := 95) (by decide +kernel)))))) (hts (.initialized "StationPasses") (List.mem_append_right _ (show _ ∈ tables_1 from (List.mem_append_left _ (List.mem_of_getElem? (i := 1) (by decide +kernel)))))) ht hA, hT⟩
set_option maxRecDepth 8000 in
theorem old_5 (hts : ∀ w ∈ lw_tbl, w.before #[Value.ref b] s = true) (hgv : (Jvm.Cond.and given_1 narrow_1).before #[Value.ref b] s = true) : ∃ t : Nat, va_Z "StationPasses" "ANTENNA_HIGHS" "[I" (.ref t) (fun a => s.heap.size ≤ a) s s.heap ∧ va_T .int t 3 (fun j => .int (rom5 j)) (fun a => s.heap.size ≤ a) s s.heap := by
  have hs := flat_of_before _ hgv
  have hA : ∀ a : Nat, a < s.heap.size → ¬ s.heap.size ≤ a := fun a h => by omega
  have hel : ∀ j : Nat, j < 3 → (Term.elem (.static "StationPasses" "ANTENNA_HIGHS" "[I") (.int (Int32.ofNat j))).eval #[Value.ref b] s none [] s = some (.int (rom5 j)) := by
    intro j hj
    match j, hj with
    | 0, _ => exact va_eqt (hs (.eq (.elem (.static "StationPasses" "ANTENNA_HIGHS" "[I") (.int 0)) (.int 2)) (by decide +kernel))
    | 1, _ => exact va_eqt (hs (.eq (.elem (.static "StationPasses" "ANTENNA_HIGHS" "[I") (.int 1)) (.int 2)) (by decide +kernel))
    | 2, _ => exact va_eqt (hs (.eq (.elem (.static "StationPasses" "ANTENNA_HIGHS" "[I") (.int 2)) (.int 5)) (by decide +kernel))
    | q + 3, h => exact absurd h (by omega)
  obtain ⟨t, ht, hT⟩ := va_Tof (f := fun j => .int (rom5 j)) (A := fun a => s.heap.size ≤ a) (tm := (.static "StationPasses" "ANTENNA_HIGHS" "[I")) (ty := .int) (N := 3) (by decide) (hs (.arrayOf (.static "StationPasses" "ANTENNA_HIGHS" "[I") .int) (by decide +kernel)) (va_eqt (hs (.eq (.length (.static "StationPasses" "ANTENNA_HIGHS" "[I")) (.int 3)) (by decide +kernel))) hel hA
  exact ⟨t, va_Zof (hts (.laysStatic "StationPasses" "ANTENNA_HIGHS" "[I") (List.mem_append_right _ (show _ ∈ tables_1 from (List.mem_append_left _ (List.mem_of_getElem? (i := 97) (by decide +kernel)))))) (hts (.initialized "StationPasses") (List.mem_append_right _ (show _ ∈ tables_1 from (List.mem_append_left _ (List.mem_of_getElem? (i := 1) (by decide +kernel)))))) ht hA, hT⟩
set_option maxRecDepth 8000 in
theorem str_at (hts : ∀ w ∈ lw_tbl, w.before #[Value.ref b] s = true) (hgv : (Jvm.Cond.and given_1 narrow_1).before #[Value.ref b] s = true) : ∃ sa va : Nat, StrP sa va s.heap.size s s.heap ∧ vk_R RX10 58 TXS sa s := by
  have hs := flat_of_before _ hgv
  have hA : ∀ a : Nat, a < s.heap.size → ¬ s.heap.size ≤ a := fun a h => by omega
  have hel : ∀ j : Nat, j < 71 → (Cond.eq (.elem (.field (.string "StationPasses" 58) "java/lang/String" "value" "[B") (.int (Int32.ofNat j))) (.int (txB.getD j 0))).before #[Value.ref b] s = true := by
    intro j hj
    match j, hj with
    | 0, _ => exact hs (.eq (.elem (.field (.string "StationPasses" 58) "java/lang/String" "value" "[B") (.int 0)) (.int 115)) (by decide +kernel)
    | 1, _ => exact hs (.eq (.elem (.field (.string "StationPasses" 58) "java/lang/String" "value" "[B") (.int 1)) (.int 48)) (by decide +kernel)
    | 2, _ => exact hs (.eq (.elem (.field (.string "StationPasses" 58) "java/lang/String" "value" "[B") (.int 2)) (.int 44)) (by decide +kernel)
    | 3, _ => exact hs (.eq (.elem (.field (.string "StationPasses" 58) "java/lang/String" "value" "[B") (.int 3)) (.int 50)) (by decide +kernel)
    | 4, _ => exact hs (.eq (.elem (.field (.string "StationPasses" 58) "java/lang/String" "value" "[B") (.int 4)) (.int 48)) (by decide +kernel)
    | 5, _ => exact hs (.eq (.elem (.field (.string "StationPasses" 58) "java/lang/String" "value" "[B") (.int 5)) (.int 44)) (by decide +kernel)
    | 6, _ => exact hs (.eq (.elem (.field (.string "StationPasses" 58) "java/lang/String" "value" "[B") (.int 6)) (.int 48)) (by decide +kernel)
    | 7, _ => exact hs (.eq (.elem (.field (.string "StationPasses" 58) "java/lang/String" "value" "[B") (.int 7)) (.int 44)) (by decide +kernel)
    | 8, _ => exact hs (.eq (.elem (.field (.string "StationPasses" 58) "java/lang/String" "value" "[B") (.int 8)) (.int 51)) (by decide +kernel)
    | 9, _ => exact hs (.eq (.elem (.field (.string "StationPasses" 58) "java/lang/String" "value" "[B") (.int 9)) (.int 48)) (by decide +kernel)
    | 10, _ => exact hs (.eq (.elem (.field (.string "StationPasses" 58) "java/lang/String" "value" "[B") (.int 10)) (.int 44)) (by decide +kernel)
    | 11, _ => exact hs (.eq (.elem (.field (.string "StationPasses" 58) "java/lang/String" "value" "[B") (.int 11)) (.int 49)) (by decide +kernel)
    | 12, _ => exact hs (.eq (.elem (.field (.string "StationPasses" 58) "java/lang/String" "value" "[B") (.int 12)) (.int 59)) (by decide +kernel)
    | 13, _ => exact hs (.eq (.elem (.field (.string "StationPasses" 58) "java/lang/String" "value" "[B") (.int 13)) (.int 115)) (by decide +kernel)
    | 14, _ => exact hs (.eq (.elem (.field (.string "StationPasses" 58) "java/lang/String" "value" "[B") (.int 14)) (.int 55)) (by decide +kernel)
    | 15, _ => exact hs (.eq (.elem (.field (.string "StationPasses" 58) "java/lang/String" "value" "[B") (.int 15)) (.int 44)) (by decide +kernel)
    | 16, _ => exact hs (.eq (.elem (.field (.string "StationPasses" 58) "java/lang/String" "value" "[B") (.int 16)) (.int 50)) (by decide +kernel)
    | 17, _ => exact hs (.eq (.elem (.field (.string "StationPasses" 58) "java/lang/String" "value" "[B") (.int 17)) (.int 53)) (by decide +kernel)
    | 18, _ => exact hs (.eq (.elem (.field (.string "StationPasses" 58) "java/lang/String" "value" "[B") (.int 18)) (.int 44)) (by decide +kernel)
    | 19, _ => exact hs (.eq (.elem (.field (.string "StationPasses" 58) "java/lang/String" "value" "[B") (.int 19)) (.int 49)) (by decide +kernel)
    | 20, _ => exact hs (.eq (.elem (.field (.string "StationPasses" 58) "java/lang/String" "value" "[B") (.int 20)) (.int 44)) (by decide +kernel)
    | 21, _ => exact hs (.eq (.elem (.field (.string "StationPasses" 58) "java/lang/String" "value" "[B") (.int 21)) (.int 52)) (by decide +kernel)
    | 22, _ => exact hs (.eq (.elem (.field (.string "StationPasses" 58) "java/lang/String" "value" "[B") (.int 22)) (.int 48)) (by decide +kernel)
    | 23, _ => exact hs (.eq (.elem (.field (.string "StationPasses" 58) "java/lang/String" "value" "[B") (.int 23)) (.int 44)) (by decide +kernel)
    | 24, _ => exact hs (.eq (.elem (.field (.string "StationPasses" 58) "java/lang/String" "value" "[B") (.int 24)) (.int 50)) (by decide +kernel)
    | 25, _ => exact hs (.eq (.elem (.field (.string "StationPasses" 58) "java/lang/String" "value" "[B") (.int 25)) (.int 59)) (by decide +kernel)
    | 26, _ => exact hs (.eq (.elem (.field (.string "StationPasses" 58) "java/lang/String" "value" "[B") (.int 26)) (.int 115)) (by decide +kernel)
    | 27, _ => exact hs (.eq (.elem (.field (.string "StationPasses" 58) "java/lang/String" "value" "[B") (.int 27)) (.int 49)) (by decide +kernel)
    | 28, _ => exact hs (.eq (.elem (.field (.string "StationPasses" 58) "java/lang/String" "value" "[B") (.int 28)) (.int 51)) (by decide +kernel)
    | 29, _ => exact hs (.eq (.elem (.field (.string "StationPasses" 58) "java/lang/String" "value" "[B") (.int 29)) (.int 44)) (by decide +kernel)
    | 30, _ => exact hs (.eq (.elem (.field (.string "StationPasses" 58) "java/lang/String" "value" "[B") (.int 30)) (.int 49)) (by decide +kernel)
    | 31, _ => exact hs (.eq (.elem (.field (.string "StationPasses" 58) "java/lang/String" "value" "[B") (.int 31)) (.int 56)) (by decide +kernel)
    | 32, _ => exact hs (.eq (.elem (.field (.string "StationPasses" 58) "java/lang/String" "value" "[B") (.int 32)) (.int 44)) (by decide +kernel)
    | 33, _ => exact hs (.eq (.elem (.field (.string "StationPasses" 58) "java/lang/String" "value" "[B") (.int 33)) (.int 49)) (by decide +kernel)
    | 34, _ => exact hs (.eq (.elem (.field (.string "StationPasses" 58) "java/lang/String" "value" "[B") (.int 34)) (.int 44)) (by decide +kernel)
    | 35, _ => exact hs (.eq (.elem (.field (.string "StationPasses" 58) "java/lang/String" "value" "[B") (.int 35)) (.int 50)) (by decide +kernel)
    | 36, _ => exact hs (.eq (.elem (.field (.string "StationPasses" 58) "java/lang/String" "value" "[B") (.int 36)) (.int 48)) (by decide +kernel)
    | 37, _ => exact hs (.eq (.elem (.field (.string "StationPasses" 58) "java/lang/String" "value" "[B") (.int 37)) (.int 44)) (by decide +kernel)
    | 38, _ => exact hs (.eq (.elem (.field (.string "StationPasses" 58) "java/lang/String" "value" "[B") (.int 38)) (.int 49)) (by decide +kernel)
    | 39, _ => exact hs (.eq (.elem (.field (.string "StationPasses" 58) "java/lang/String" "value" "[B") (.int 39)) (.int 59)) (by decide +kernel)
    | 40, _ => exact hs (.eq (.elem (.field (.string "StationPasses" 58) "java/lang/String" "value" "[B") (.int 40)) (.int 103)) (by decide +kernel)
    | 41, _ => exact hs (.eq (.elem (.field (.string "StationPasses" 58) "java/lang/String" "value" "[B") (.int 41)) (.int 48)) (by decide +kernel)
    | 42, _ => exact hs (.eq (.elem (.field (.string "StationPasses" 58) "java/lang/String" "value" "[B") (.int 42)) (.int 44)) (by decide +kernel)
    | 43, _ => exact hs (.eq (.elem (.field (.string "StationPasses" 58) "java/lang/String" "value" "[B") (.int 43)) (.int 54)) (by decide +kernel)
    | 44, _ => exact hs (.eq (.elem (.field (.string "StationPasses" 58) "java/lang/String" "value" "[B") (.int 44)) (.int 59)) (by decide +kernel)
    | 45, _ => exact hs (.eq (.elem (.field (.string "StationPasses" 58) "java/lang/String" "value" "[B") (.int 45)) (.int 103)) (by decide +kernel)
    | 46, _ => exact hs (.eq (.elem (.field (.string "StationPasses" 58) "java/lang/String" "value" "[B") (.int 46)) (.int 57)) (by decide +kernel)
    | 47, _ => exact hs (.eq (.elem (.field (.string "StationPasses" 58) "java/lang/String" "value" "[B") (.int 47)) (.int 44)) (by decide +kernel)
    | 48, _ => exact hs (.eq (.elem (.field (.string "StationPasses" 58) "java/lang/String" "value" "[B") (.int 48)) (.int 56)) (by decide +kernel)
    | 49, _ => exact hs (.eq (.elem (.field (.string "StationPasses" 58) "java/lang/String" "value" "[B") (.int 49)) (.int 59)) (by decide +kernel)
    | 50, _ => exact hs (.eq (.elem (.field (.string "StationPasses" 58) "java/lang/String" "value" "[B") (.int 50)) (.int 97)) (by decide +kernel)
    | 51, _ => exact hs (.eq (.elem (.field (.string "StationPasses" 58) "java/lang/String" "value" "[B") (.int 51)) (.int 48)) (by decide +kernel)
    | 52, _ => exact hs (.eq (.elem (.field (.string "StationPasses" 58) "java/lang/String" "value" "[B") (.int 52)) (.int 44)) (by decide +kernel)
    | 53, _ => exact hs (.eq (.elem (.field (.string "StationPasses" 58) "java/lang/String" "value" "[B") (.int 53)) (.int 50)) (by decide +kernel)
    | 54, _ => exact hs (.eq (.elem (.field (.string "StationPasses" 58) "java/lang/String" "value" "[B") (.int 54)) (.int 44)) (by decide +kernel)
    | 55, _ => exact hs (.eq (.elem (.field (.string "StationPasses" 58) "java/lang/String" "value" "[B") (.int 55)) (.int 49)) (by decide +kernel)
    | 56, _ => exact hs (.eq (.elem (.field (.string "StationPasses" 58) "java/lang/String" "value" "[B") (.int 56)) (.int 59)) (by decide +kernel)
    | 57, _ => exact hs (.eq (.elem (.field (.string "StationPasses" 58) "java/lang/String" "value" "[B") (.int 57)) (.int 97)) (by decide +kernel)
    | 58, _ => exact hs (.eq (.elem (.field (.string "StationPasses" 58) "java/lang/String" "value" "[B") (.int 58)) (.int 48)) (by decide +kernel)
    | 59, _ => exact hs (.eq (.elem (.field (.string "StationPasses" 58) "java/lang/String" "value" "[B") (.int 59)) (.int 44)) (by decide +kernel)
    | 60, _ => exact hs (.eq (.elem (.field (.string "StationPasses" 58) "java/lang/String" "value" "[B") (.int 60)) (.int 48)) (by decide +kernel)
    | 61, _ => exact hs (.eq (.elem (.field (.string "StationPasses" 58) "java/lang/String" "value" "[B") (.int 61)) (.int 44)) (by decide +kernel)
    | 62, _ => exact hs (.eq (.elem (.field (.string "StationPasses" 58) "java/lang/String" "value" "[B") (.int 62)) (.int 48)) (by decide +kernel)
    | 63, _ => exact hs (.eq (.elem (.field (.string "StationPasses" 58) "java/lang/String" "value" "[B") (.int 63)) (.int 59)) (by decide +kernel)
    | 64, _ => exact hs (.eq (.elem (.field (.string "StationPasses" 58) "java/lang/String" "value" "[B") (.int 64)) (.int 97)) (by decide +kernel)
    | 65, _ => exact hs (.eq (.elem (.field (.string "StationPasses" 58) "java/lang/String" "value" "[B") (.int 65)) (.int 49)) (by decide +kernel)
    | 66, _ => exact hs (.eq (.elem (.field (.string "StationPasses" 58) "java/lang/String" "value" "[B") (.int 66)) (.int 44)) (by decide +kernel)
    | 67, _ => exact hs (.eq (.elem (.field (.string "StationPasses" 58) "java/lang/String" "value" "[B") (.int 67)) (.int 49)) (by decide +kernel)
    | 68, _ => exact hs (.eq (.elem (.field (.string "StationPasses" 58) "java/lang/String" "value" "[B") (.int 68)) (.int 44)) (by decide +kernel)
    | 69, _ => exact hs (.eq (.elem (.field (.string "StationPasses" 58) "java/lang/String" "value" "[B") (.int 69)) (.int 50)) (by decide +kernel)
    | 70, _ => exact hs (.eq (.elem (.field (.string "StationPasses" 58) "java/lang/String" "value" "[B") (.int 70)) (.int 59)) (by decide +kernel)
    | q + 71, h => exact absurd h (by omega)
  obtain ⟨adK, adV, hS, hT⟩ := vk_Sof (A := fun a => s.heap.size ≤ a) (N := 1) (tm := fun _ => (.string "StationPasses" 58)) (len := [71]) (byt := [txB]) (args := #[Value.ref b]) (s := s) (fun i hi => by rw [show i = 0 by omega]; decide) (fun i hi => hs (.exactly (.string "StationPasses" 58) "java/lang/String") (by decide +kernel)) (fun i hi => hs (.eq (.field (.string "StationPasses" 58) "java/lang/String" "coder" "B") (.int 0)) (by decide +kernel)) (fun i hi => hs (.arrayOf (.field (.string "StationPasses" 58) "java/lang/String" "value" "[B") .byte) (by decide +kernel)) (fun i hi => by rw [show i = 0 by omega]; exact hs (.eq (.length (.field (.string "StationPasses" 58) "java/lang/String" "value" "[B")) (.int 71)) (by decide +kernel)) (fun i hi j hj => by have hi : i = 0 := (by omega); subst hi; exact hel j hj) (fun i j hi hj hne => absurd (by omega) hne) hA
  obtain ⟨h1, h2, h3, h4⟩ := hS.1 0 (by decide)
  refine ⟨adK 0, adV 0, ⟨h1, h2, h3, h4, va_Zof (hts (.laysStatic "java/lang/String" "COMPACT_STRINGS" "Z") (List.mem_append_right _ (show _ ∈ tables_1 from (List.mem_append_right _ (List.mem_append_left _ (List.mem_of_getElem? (i := 107) (by decide +kernel))))))) (hts (.initialized "java/lang/String") (List.mem_append_right _ (show _ ∈ tables_1 from (List.mem_append_left _ (List.mem_of_getElem? (i := 12) (by decide +kernel)))))) (va_eqi (hs (.eq (.static "java/lang/String" "COMPACT_STRINGS" "Z") (.int 1)) (by decide +kernel))) hA, va_Zqof (hts (.laysStatic "jdk/internal/util/Preconditions" "SIOOBE_FORMATTER" "Ljava/util/function/BiFunction;") (List.mem_append_right _ (show _ ∈ tables_1 from (List.mem_append_right _ (List.mem_append_left _ (List.mem_of_getElem? (i := 123) (by decide +kernel))))))) (hts (.initialized "jdk/internal/util/Preconditions") (List.mem_append_right _ (show _ ∈ tables_1 from (List.mem_append_left _ (List.mem_of_getElem? (i := 14) (by decide +kernel)))))) (hs (.isRef (.static "jdk/internal/util/Preconditions" "SIOOBE_FORMATTER" "Ljava/util/function/BiFunction;")) (by decide +kernel)) hA⟩, ?_⟩
  exact vk_R.of (A := #[Value.ref b]) (hts (.stringRef "StationPasses" 58 "s0,20,0,30,1;s7,25,1,40,2;s13,18,1,20,1;g0,6;g9,8;a0,2,1;a0,0,0;a1,1,2;") (List.mem_append_right _ (show _ ∈ tables_1 from (List.mem_append_right _ (List.mem_append_left _ (List.mem_of_getElem? (i := 97) (by decide +kernel))))))) (hT 0 (by decide))
end ATSTART
theorem start_KX {b : Nat} {s : State} (hts : ∀ w ∈ lw_tbl, w.before #[Value.ref b] s = true) (hgv : (Jvm.Cond.and given_1 narrow_1).before #[Value.ref b] s = true) : ∃ (D : va_G) (ac : Nat → ClassId) (ar : Nat → Nat), KX D ac ar s.heap.size s s.heap := by
  have htg : ∀ w ∈ wg, w.before #[Value.ref b] s = true := fun w hw => hts w (List.mem_filter.mp hw).1
  obtain ⟨D, hD⟩ := start_D htg
  have hAO : va_AO "StationPasses$State" s := va_AO.of (hts (.arrayOver (.object "StationPasses$State")) (List.mem_append_right _ (show _ ∈ tables_1 from (List.mem_append_left _ (List.mem_of_getElem? (i := 213) (by decide +kernel))))))
  have hAI : va_Nw aoI s := (hts aoI (List.mem_append_right _ (show _ ∈ tables_1 from (List.mem_append_left _ (List.mem_of_getElem? (i := 68) (by decide +kernel))))))
  obtain ⟨ac, hac⟩ := start_ac htg hAO hAI
  obtain ⟨t0, z0, y0⟩ := old_0 hts hgv
  obtain ⟨t1, z1, y1⟩ := old_1 hts hgv
  obtain ⟨t2, z2, y2⟩ := old_2 hts hgv
  obtain ⟨t3, z3, y3⟩ := old_3 hts hgv
  obtain ⟨t4, z4, y4⟩ := old_4 hts hgv
  obtain ⟨t5, z5, y5⟩ := old_5 hts hgv
  refine ⟨D, ac, fun q => ([t0, t1, t2, t3, t4, t5] : List Nat).getD q 0, ⟨⟨hD, hac⟩, va_Nw.of rfl (hts nestW (List.mem_append_right _ (show _ ∈ tables_1 from (List.mem_append_left _ (List.mem_of_getElem? (i := 72) (by decide +kernel))))))⟩, ?_, ?_, hAO, hAI, ?_⟩
  · intro w hw
    have : (nestM w.1 w.2.1 w.2.2) ∈ lw_tbl := by
      simp only [nMs, List.mem_cons, List.not_mem_nil, or_false] at hw
      rcases hw with rfl | rfl | rfl | rfl | rfl | rfl | rfl | rfl | rfl | rfl
      · exact (List.mem_append_right _ (show _ ∈ tables_1 from (List.mem_append_left _ (List.mem_of_getElem? (i := 31) (by decide +kernel)))))
      · exact (List.mem_append_right _ (show _ ∈ tables_1 from (List.mem_append_left _ (List.mem_of_getElem? (i := 47) (by decide +kernel)))))
      · exact (List.mem_append_right _ (show _ ∈ tables_1 from (List.mem_append_left _ (List.mem_of_getElem? (i := 53) (by decide +kernel)))))
      · exact (List.mem_append_right _ (show _ ∈ tables_1 from (List.mem_append_left _ (List.mem_of_getElem? (i := 119) (by decide +kernel)))))
      · exact (List.mem_append_right _ (show _ ∈ tables_1 from (List.mem_append_left _ (List.mem_of_getElem? (i := 166) (by decide +kernel)))))
      · exact (List.mem_append_right _ (show _ ∈ tables_1 from (List.mem_append_left _ (List.mem_of_getElem? (i := 214) (by decide +kernel)))))
      · exact (List.mem_append_right _ (show _ ∈ tables_1 from (List.mem_append_left _ (List.mem_of_getElem? (i := 228) (by decide +kernel)))))
      · exact (List.mem_append_right _ (show _ ∈ tables_1 from (List.mem_append_right _ (List.mem_append_left _ (List.mem_of_getElem? (i := 15) (by decide +kernel))))))
      · exact (List.mem_append_right _ (show _ ∈ tables_1 from (List.mem_append_right _ (List.mem_append_left _ (List.mem_of_getElem? (i := 36) (by decide +kernel))))))
      · exact (List.mem_append_right _ (show _ ∈ tables_1 from (List.mem_append_right _ (List.mem_append_left _ (List.mem_of_getElem? (i := 96) (by decide +kernel))))))
    exact va_Nw.of rfl (hts _ this)
  · intro w hw
    have : (nestF w.1 w.2) ∈ lw_tbl := by
      simp only [nFs, List.mem_cons, List.not_mem_nil, or_false] at hw
      rcases hw with rfl | rfl | rfl | rfl | rfl | rfl
      · exact (List.mem_append_right _ (show _ ∈ tables_1 from (List.mem_append_left _ (List.mem_of_getElem? (i := 59) (by decide +kernel)))))
      · exact (List.mem_append_right _ (show _ ∈ tables_1 from (List.mem_append_left _ (List.mem_of_getElem? (i := 61) (by decide +kernel)))))
      · exact (List.mem_append_right _ (show _ ∈ tables_1 from (List.mem_append_left _ (List.mem_of_getElem? (i := 90) (by decide +kernel)))))
      · exact (List.mem_append_right _ (show _ ∈ tables_1 from (List.mem_append_left _ (List.mem_of_getElem? (i := 92) (by decide +kernel)))))
      · exact (List.mem_append_right _ (show _ ∈ tables_1 from (List.mem_append_left _ (List.mem_of_getElem? (i := 94) (by decide +kernel)))))
      · exact (List.mem_append_right _ (show _ ∈ tables_1 from (List.mem_append_left _ (List.mem_of_getElem? (i := 96) (by decide +kernel)))))
    exact va_Nw.of rfl (hts _ this)
  · intro q n f hq
    have h6 : q < 6 := (List.getElem?_eq_some_iff.mp hq).1
    match q, h6 with
    | 0, _ => cases hq; exact ⟨z0, y0⟩
    | 1, _ => cases hq; exact ⟨z1, y1⟩
    | 2, _ => cases hq; exact ⟨z2, y2⟩
    | 3, _ => cases hq; exact ⟨z3, y3⟩
    | 4, _ => cases hq; exact ⟨z4, y4⟩
    | 5, _ => cases hq; exact ⟨z5, y5⟩
    | q + 6, h => exact absurd h (by omega)
section GOI
variable {p : Program} {l : Launch} {e : Env} {R : Room} {s : State} {m : MethodId} {args : Array Value} {below : List Frame} {meth : Method} {c : Code} {H : Heap} {locs : List Loc} {cells slots : Nat} {Q : State → Prop}
variable {D : va_G} {ac : Nat → ClassId} {ar : Nat → Nat} {A : Nat → Prop} {ws : va_W} {pc : Nat} {ls : Array Slot} {rest : List Value}
theorem kGoI {ci1 : Nat} {vs1 : List Value} {q mc ms : Nat} {st : List Value} {L : List CD} {h : Mm} {A1 : Array Value} (hP : va_P D vwCl (ws ++ [(q, .inr (ci1, vs1))]) H) (hD : va_D A (ws ++ [(q, .inr (ci1, vs1))])) (hS : va_S A s.heap H locs) (hA : ∀ q, s.heap.size ≤ q → A q)
    (hr : va_Run p l e R s m args below meth c H locs cells slots mc ms (F0 m pc ls st) rest (QI D ac ar L h q H.size A1) (Ah q H.size))
    (kk : ∀ (g : Nat → Nat) (H1 : Heap) (locs1 : List Loc), va_P D vwCl (ws ++ wd (mkAd ar (cAd q g)) ac L h) H1 → va_D A (ws ++ wd (mkAd ar (cAd q g)) ac L h) → va_S A s.heap H1 locs1 → W p l e R s m args below meth c H1 locs1 (cells + mc) (slots + ms) Q (F0 m (pc + 3) ls rest)) : W p l e R s m args below meth c H locs cells slots Q (F0 m pc ls st) := by
  have hq0 : (ws ++ [(q, (.inr (ci1, vs1) : va_E))])[ws.length]? = some (q, .inr (ci1, vs1)) := by
    rw [List.getElem?_append_right (Nat.le_refl _), Nat.sub_self]; rfl
  have hin : ∀ (k : Nat) (x : Nat × va_E), ws[k]? = some x → (ws ++ [(q, (.inr (ci1, vs1) : va_E))])[k]? = some x := fun k x hx => by
    rw [List.getElem?_append_left (List.getElem?_eq_some_iff.mp hx).1]; exact hx
  have hap : ∀ (k : Nat) (x : Nat × va_E), ws[k]? = some x → ¬ Ah q H.size x.1 := fun k x hx h => by
    rcases h with h | h
    · have := hD.1 k ws.length x _ (hin k x hx) hq0 h
      have := (List.getElem?_eq_some_iff.mp hx).1
      omega
    · have := (hP k x (hin k x hx)).lt
      omega
  have hAq : ∀ a, Ah q H.size a → A a := fun a h => by
    rcases h with h | h
    · rw [h]; exact hD.2 _ _ hq0
    · exact hA a (Nat.le_trans hS.1 h)
  intro T hT X1
  obtain ⟨v, st₀, t, T', L1, e0, X', hL, e1, e2, ⟨hv, ⟨g, hp, hd⟩, hz, hk⟩, stp⟩ := hr T hT X1
  cases hv
  rw [e0] at hz hk
  have k1 : va_P D vwCl (ws ++ wd (mkAd ar (cAd q g)) ac L h) T'.heap := by
    refine va_P.app (fun k x hx => ?_) (by rw [e1]; exact hp)
    exact (hP k x (hin k x hx)).kept (by rw [e1]; exact hk x.1 ((hP k x (hin k x hx)).lt) (hap k x hx))
  have k2 : va_D A (ws ++ wd (mkAd ar (cAd q g)) ac L h) := by
    refine va_D.app ⟨fun i j x y hi hj hxy => hD.1 i j x y (hin i x hi) (hin j y hj) hxy, fun k x hx => hD.2 k x (hin k x hx)⟩ (hd.weaken (fun _ _ _ h => hAq _ h)) (fun i j x y hx hy hxy => ?_)
    exact hap i x hx (by rw [hxy]; exact hd.2 j y hy)
  have k3 : va_S A s.heap T'.heap (locs ++ L1) := by
    refine ⟨Nat.le_trans hS.1 (by rw [e1]; exact hz), fun a h1 h2 => ?_, fun a ha => ?_⟩
    · rw [e1, hk a (Nat.lt_of_lt_of_le h1 hS.1) (fun h => h2 (hAq a h))]
      exact hS.2.1 a h1 h2
    · rcases List.mem_append.mp ha with h | h
      · exact hS.2.2 a h
      · exact hAq _ (hL a h)
  obtain ⟨t2, a1, b1⟩ := kk g T'.heap (locs ++ L1) k1 k2 k3 T' rfl X'
  exact ⟨t2, stp t2 a1, b1⟩
end GOI
theorem ml_L_9 : Cond.methodLink RL 9 yX10_init ∈ wg := (wg_m1 23 (by decide +kernel) rfl)
theorem ml_L_12 : Cond.methodLink RL 12 yX11_init ∈ wg := (wg_m4 104 (by decide +kernel) rfl)
theorem cd_X10 : Cond.code yX10_init cX10_init 2 none ∈ wg := (wg_m1 25 (by decide +kernel) rfl)
theorem ii_X10 : Cond.initialized RX10 ∈ wg := (wg_m1 1 (by decide +kernel) rfl)
theorem im_X10 : Cond.instanceMethod yX10_init ∈ wg := (wg_m1 24 (by decide +kernel) rfl)
theorem pl_X10 : (parseMethodDescriptor yX10_init.desc).map (fun d => d.parameters.length) = some 0 := by decide +kernel
theorem cd_X11 : Cond.code yX11_init cX11_init 1 none ∈ wg := (wg_m4 106 (by decide +kernel) rfl)
theorem ii_X11 : Cond.initialized RX11 ∈ wg := (wg_m1 18 (by decide +kernel) rfl)
theorem im_X11 : Cond.instanceMethod yX11_init ∈ wg := (wg_m4 105 (by decide +kernel) rfl)
theorem pl_X11 : (parseMethodDescriptor yX11_init.desc).map (fun d => d.parameters.length) = some 0 := by decide +kernel
theorem cl_L_7 : Cond.classLink RL 7 RX10 ∈ wg := (wg_m1 21 (by decide +kernel) rfl)
theorem cl_L_10 : Cond.classLink RL 10 RX11 ∈ wg := (wg_m4 102 (by decide +kernel) rfl)
set_option maxHeartbeats 8000000 in
set_option maxRecDepth 20000 in
/-- the law from its entry, given a relation that every call keeps -/
theorem start_rel {Rel : Mm → Mm → Prop} (hst : StepsOK Rel) {hc0 hm0 : Mm} (hi1 : initC = some hc0) (hi2 : mX11_tail Zm = some hm0) (hR0 : Rel hc0 hm0) {p : Program} {e : Env} {s : State} {m : MethodId} {below : List Frame} {meth : Method} {c : Code} (l : Launch) {b L : Nat} {xs : Nat → Int32} (hL : L ≤ 2560) (C0 : lw_At p s m meth c b L xs) : W p l e room_1 s m #[Value.ref b] below meth c s.heap [] 0 0 (lw_Z below #[Value.ref b] s) (entryFrame m ([Value.ref b] : List Value).toArray 4) := by
  obtain ⟨hx, hb, hr, hml, hown, htl, hX, hbl, hlk, hgv⟩ := C0
  have hts : ∀ w ∈ wg, w.before #[Value.ref b] s = true := fun w hw => htl w (List.mem_filter.mp hw).1
  obtain ⟨D, ac, ar, hK⟩ := start_KX htl hgv
  obtain ⟨sa, va, hStr, hLd⟩ := str_at htl hgv
  have hown : s.vm.findClass RL = some m.cls := hown
  have B : LB p s m meth c D ac b := ⟨hx, hb, hml, hown, hts, hr, hlk, hK.1⟩
  have hA : ∀ q, s.heap.size ≤ q → (fun q : Nat => s.heap.size ≤ q) q := fun q h => h
  have hS : va_S (fun q : Nat => s.heap.size ≤ q) s.heap s.heap [] := va_S.rf
  have hP : va_P D vwCl [] s.heap := fun k q h => by simp at h
  have hD : va_D (fun q : Nat => s.heap.size ≤ q) [] := ⟨fun i j p q h => by simp at h, fun k q h => by simp at h⟩
  have hl := lv_entry ([.ref b]) (n := 4) (Nat.le_of_ble_eq_true rfl)
  rw [lg_entry_eq]
  generalize (lg_sl ([.ref b]) ++ List.replicate (4 - (lg_sl ([.ref b])).length) Slot.unset).toArray = ls at hl ⊢
  have hl : lv_has ls 4 [(0, .ref b)] := hl
  refine va_new (D := D) (ci := 10) (fs := [.null, .null, .null, .null, .null, .null, .null]) (C := RX10) (T := TX10) (N := 7) hx hb hts cok10.1 tyX10 tyX10_ok hown (hts _ cl_L_7) (hts _ in_X10) (hts _ ii_X10) hK.1.1 hP hD hS hA rfl dv10 (Nat.le_of_ble_eq_true rfl) (Nat.le_of_ble_eq_true rfl) dL_law_0 (fun qx H hP hD hS => ?_)
  refine lv_dup hx hb dL_law_3 rfl ?_
  have hqx : s.heap.size ≤ qx := hD.2 0 _ rfl
  have hKH : ∀ {U : State}, U.heap = H → s.WarmedH U.vm → KX D ac ar s.heap.size U U.heap := fun {U} hU hW => by
    rw [hU]
    have h6 := KX.warm hW hK
    exact ⟨h6.1, h6.2.1, h6.2.2.1, h6.2.2.2.1, h6.2.2.2.2.1, h6.2.2.2.2.2.kept (fun a h1 h2 => hS.2.1 a h1 h2)⟩
  refine kGoI (ws := []) hP hD hS hA (va_runI (As := []) (rest := [.ref qx]) ⟨hx, hb, hml, hown, hts⟩ (mi_X10 l D ac ar s.heap.size sa va hi1 qx H.size) ⟨⟨rfl, rfl, Nat.le_of_ble_eq_true rfl, Nat.le_of_ble_eq_true rfl, fun w hw => ?_, List.mem_cons_self, hts _ cd_X10, hts _ ii_X10, ⟨by decide +kernel, by decide +kernel⟩, fun sig hs => ?_, hts _ ml_L_9⟩, rfl, hts _ im_X10⟩ ⟨?_, fun U hU hWm => ⟨rfl, ⟨by rw [hU], hqx, hS.1, by rw [hU]; exact hP, hKH hU hWm⟩, by rw [hU]; exact (hStr.kept (fun a h1 h2 => hS.2.1 a h1 h2)).moved hWm.alike, hLd.warm hWm⟩⟩ rfl rfl hl.1 rfl (lv_room (Nat.le_of_ble_eq_true rfl)) dL_law_4 ⟨Nat.le_of_ble_eq_true rfl, Nat.le_of_ble_eq_true rfl⟩) (fun g1 H locs hP hD hS => ?_)
  · rcases List.mem_cons.mp hw with rfl | hw
    · exact wg_pay hts _ cd_X10
    · exact wg_pay hts _ hw
  · have := pl_X10
    rw [hs] at this
    exact (Option.some.inj this).symm
  · intro a U g mk hq
    obtain ⟨q0, ⟨q1, q2, q3, q4, q5⟩, q6, q7⟩ := hq
    exact ⟨q0, ⟨q1, q2, q3, q4, q5.call⟩, StrP.moved (u := U) (U := U.calling g mk a) (Vm.Alike.refl U.vm) q6, vk_R.same (u := U) (U := U.calling g mk a) rfl q7⟩
  have hP : va_P D vwCl (wd (mkAd ar (cAd qx g1)) ac LC hc0) H := hP
  have hD : va_D (fun q : Nat => s.heap.size ≤ q) (wd (mkAd ar (cAd qx g1)) ac LC hc0) := hD
  refine lv_astore_n (lv' := [(1, .ref qx), (0, .ref b)]) hx hb dL_law_7 rfl hl (by decide) rfl (fun ls hl => ?_)
  refine va_new (D := D) (ci := 11) (fs := [.int 0, .null, .int 0, .null, .null, .null, .null, .null, .null, .null, .null, .null, .null, .null, .null, .null, .int 0, .null, .null, .int 0, .null, .null, .null, .null, .null, .null, .null, .null]) (C := RX11) (T := TX11) (N := 28) hx hb hts cok11.1 tyX11 tyX11_ok hown (hts _ cl_L_10) (hts _ in_X11) (hts _ ii_X11) hK.1.1 hP hD hS hA rfl dv11 (Nat.le_of_ble_eq_true rfl) (Nat.le_of_ble_eq_true rfl) dL_law_8 (fun qm H hP hD hS => ?_)
  refine lv_dup hx hb dL_law_11 rfl ?_
  have hqm0 : (wd (mkAd ar (cAd qx g1)) ac LC hc0 ++ [(qm, (.inr (11, [.int 0, .null, .int 0, .null, .null, .null, .null, .null, .null, .null, .null, .null, .null, .null, .null, .null, .int 0, .null, .null, .int 0, .null, .null, .null, .null, .null, .null, .null, .null]) : va_E))])[92]? = some (qm, .inr (11, [.int 0, .null, .int 0, .null, .null, .null, .null, .null, .null, .null, .null, .null, .null, .null, .null, .null, .int 0, .null, .null, .int 0, .null, .null, .null, .null, .null, .null, .null, .null])) := by
    rw [List.getElem?_append_right (by rw [wd_len]; decide), wd_len]; rfl
  have hqm : s.heap.size ≤ qm := hD.2 92 _ hqm0
  have hKH : ∀ {U : State}, U.heap = H → s.WarmedH U.vm → KX D ac ar s.heap.size U U.heap := fun {U} hU hW => by
    rw [hU]
    have h6 := KX.warm hW hK
    exact ⟨h6.1, h6.2.1, h6.2.2.1, h6.2.2.2.1, h6.2.2.2.2.1, h6.2.2.2.2.2.kept (fun a h1 h2 => hS.2.1 a h1 h2)⟩
  have hPm : va_P D vwCl [(qm, .inr (11, [.int 0, .null, .int 0, .null, .null, .null, .null, .null, .null, .null, .null, .null, .null, .null, .null, .null, .int 0, .null, .null, .int 0, .null, .null, .null, .null, .null, .null, .null, .null]))] H := fun k q hk => by
    have h1 : k < 1 := (List.getElem?_eq_some_iff.mp hk).1
    rw [show k = 0 by omega] at hk
    cases hk
    exact hP 92 _ hqm0
  refine kGoI hP hD hS hA (va_runI (As := []) (rest := [.ref qm]) ⟨hx, hb, hml, hown, hts⟩ (mi_X11 l D ac ar s.heap.size hi2 qm H.size) ⟨⟨rfl, rfl, Nat.le_of_ble_eq_true rfl, Nat.le_of_ble_eq_true rfl, fun w hw => ?_, List.mem_cons_self, hts _ cd_X11, hts _ ii_X11, ⟨by decide +kernel, by decide +kernel⟩, fun sig hs => ?_, hts _ ml_L_12⟩, rfl, hts _ im_X11⟩ ⟨PC.blind, fun U hU hWm => ⟨rfl, by rw [hU], hqm, hS.1, by rw [hU]; exact hPm, hKH hU hWm⟩⟩ rfl rfl hl.1 rfl (lv_room (Nat.le_of_ble_eq_true rfl)) dL_law_12 ⟨Nat.le_of_ble_eq_true rfl, Nat.le_of_ble_eq_true rfl⟩) (fun g2 H locs hP hD hS => ?_)
  · rcases List.mem_cons.mp hw with rfl | hw
    · exact wg_pay hts _ cd_X11
    · exact wg_pay hts _ hw
  · have := pl_X11
    rw [hs] at this
    exact (Option.some.inj this).symm
  refine lv_astore_n (lv' := [(2, .ref qm), (1, .ref qx), (0, .ref b)]) hx hb dL_law_15 rfl hl (by decide) rfl (fun ls hl => ?_)
  refine lv_iconst (v := 0) hx hb dL_law_16 (by decide) ?_
  refine lv_istore_n (lv' := [(3, .int 0), (2, .ref qm), (1, .ref qx), (0, .ref b)]) hx hb dL_law_17 rfl hl (by decide) rfl (fun ls hl => ?_)
  have hl1 : ∀ (k : Nat) (x : Nat × va_E), (wd (mkAd ar (cAd qx g1)) ac LC hc0)[k]? = some x → (wd (mkAd ar (cAd qx g1)) ac LC hc0 ++ wd (mkAd ar (cAd qm g2)) ac LM hm0)[k]? = some x := fun k x hx => by
    rw [List.getElem?_append_left (List.getElem?_eq_some_iff.mp hx).1]; exact hx
  have hl2 : ∀ (k : Nat) (x : Nat × va_E), (wd (mkAd ar (cAd qm g2)) ac LM hm0)[k]? = some x → (wd (mkAd ar (cAd qx g1)) ac LC hc0 ++ wd (mkAd ar (cAd qm g2)) ac LM hm0)[92 + k]? = some x := fun k x hx => by
    rw [List.getElem?_append_right (by rw [wd_len]; show 92 ≤ 92 + k; omega), wd_len, show 92 + k - LC.length = k by show 92 + k - 92 = k; omega]; exact hx
  have F : AF (mkAd ar (cAd qx g1)) (mkAd ar (cAd qm g2)) s := by
    refine ⟨fun i j hi hj e => ?_, fun i j hi hj e => ?_, fun i j hi hj e => ?_, fun i hi => ?_, fun j hj => ?_, fun q hq => ?_⟩
    · exact hD.1 i j _ _ (hl1 i _ (wd_at (List.getElem?_eq_getElem hi))) (hl1 j _ (wd_at (List.getElem?_eq_getElem hj))) e
    · have := hD.1 (92 + i) (92 + j) _ _ (hl2 i _ (wd_at (List.getElem?_eq_getElem hi))) (hl2 j _ (wd_at (List.getElem?_eq_getElem hj))) e
      omega
    · have := hD.1 i (92 + j) _ _ (hl1 i _ (wd_at (List.getElem?_eq_getElem hi))) (hl2 j _ (wd_at (List.getElem?_eq_getElem hj))) e
      have : i < 92 := hi
      omega
    · exact hD.2 i _ (hl1 i _ (wd_at (List.getElem?_eq_getElem hi)))
    · exact hD.2 _ _ (hl2 j _ (wd_at (List.getElem?_eq_getElem hj)))
    · have : ∃ i, rlC[i]? = some q ∧ q.1 = 1000 + i := by
        obtain ⟨i, hi⟩ := List.getElem?_of_mem hq
        have h6 : i < 6 := (List.getElem?_eq_some_iff.mp hi).1
        refine ⟨i, hi, ?_⟩
        match i, h6 with
        | 0, _ => cases hi; rfl
        | 1, _ => cases hi; rfl
        | 2, _ => cases hi; rfl
        | 3, _ => cases hi; rfl
        | 4, _ => cases hi; rfl
        | 5, _ => cases hi; rfl
      obtain ⟨i, hi, hq1⟩ := this
      obtain ⟨q1, q2, q3⟩ := q
      dsimp only at hq1
      subst hq1
      have ht := (hK.2.2.2.2.2 i q2 q3 hi).2
      show va_T .int (mkAd ar _ (1000 + i)) q2 _ _ _ _
      rw [show mkAd ar (cAd qx g1) (1000 + i) = ar i by unfold mkAd; rw [if_pos (by omega)]; congr 1; omega]
      exact ht
  have hW : WW D ac (mkAd ar (cAd qx g1)) (mkAd ar (cAd qm g2)) hc0 hm0 s H locs := ⟨fun k q hq => hP k q (hl1 k q hq), fun k q hq => hP _ q (hl2 k q hq), hS⟩
  exact law_loop hst hL B hX hbl ⟨Nat.le_of_ble_eq_true rfl, Nat.le_of_ble_eq_true rfl⟩ (L + 6) 0 hc0 hm0 _ _ H locs ls (by omega) (by omega) hR0 F hW (lv_sub hl [3, 2, 1, 0] rfl)
