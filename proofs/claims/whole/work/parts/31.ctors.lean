theorem dv0 : ∀ j, j < 4 → defaultValue (tyX0 j) = vp_V [.null, .null, .null, .null] j := by
  intro j hj
  match j, hj with
  | 0, _ => rfl
  | 1, _ => rfl
  | 2, _ => rfl
  | 3, _ => rfl
  | q + 4, h => exact absurd h (by omega)
theorem dv1 : ∀ j, j < 3 → defaultValue (tyX1 j) = vp_V [.null, .int 0, .int 0] j := by
  intro j hj
  match j, hj with
  | 0, _ => rfl
  | 1, _ => rfl
  | 2, _ => rfl
  | q + 3, h => exact absurd h (by omega)
theorem dv2 : ∀ j, j < 4 → defaultValue (tyX2 j) = vp_V [.null, .null, .null, .int 0] j := by
  intro j hj
  match j, hj with
  | 0, _ => rfl
  | 1, _ => rfl
  | 2, _ => rfl
  | 3, _ => rfl
  | q + 4, h => exact absurd h (by omega)
theorem dv3 : ∀ j, j < 2 → defaultValue (tyX3 j) = vp_V [.null, .int 0] j := by
  intro j hj
  match j, hj with
  | 0, _ => rfl
  | 1, _ => rfl
  | q + 2, h => exact absurd h (by omega)
theorem dv4 : ∀ j, j < 3 → defaultValue (tyX4 j) = vp_V [.null, .null, .null] j := by
  intro j hj
  match j, hj with
  | 0, _ => rfl
  | 1, _ => rfl
  | 2, _ => rfl
  | q + 3, h => exact absurd h (by omega)
theorem dv5 : ∀ j, j < 7 → defaultValue (tyX5 j) = vp_V [.null, .null, .null, .null, .null, .null, .int 0] j := by
  intro j hj
  match j, hj with
  | 0, _ => rfl
  | 1, _ => rfl
  | 2, _ => rfl
  | 3, _ => rfl
  | 4, _ => rfl
  | 5, _ => rfl
  | 6, _ => rfl
  | q + 7, h => exact absurd h (by omega)
theorem dv6 : ∀ j, j < 17 → defaultValue (tyX6 j) = vp_V [.null, .null, .null, .null, .null, .null, .int 0, .int 0, .int 0, .int 0, .int 0, .int 0, .int 0, .int 0, .null, .int 0, .int 0] j := by
  intro j hj
  match j, hj with
  | 0, _ => rfl
  | 1, _ => rfl
  | 2, _ => rfl
  | 3, _ => rfl
  | 4, _ => rfl
  | 5, _ => rfl
  | 6, _ => rfl
  | 7, _ => rfl
  | 8, _ => rfl
  | 9, _ => rfl
  | 10, _ => rfl
  | 11, _ => rfl
  | 12, _ => rfl
  | 13, _ => rfl
  | 14, _ => rfl
  | 15, _ => rfl
  | 16, _ => rfl
  | q + 17, h => exact absurd h (by omega)
theorem dv7 : ∀ j, j < 3 → defaultValue (tyX7 j) = vp_V [.null, .null, .null] j := by
  intro j hj
  match j, hj with
  | 0, _ => rfl
  | 1, _ => rfl
  | 2, _ => rfl
  | q + 3, h => exact absurd h (by omega)
theorem dv8 : ∀ j, j < 3 → defaultValue (tyX8 j) = vp_V [.null, .null, .null] j := by
  intro j hj
  match j, hj with
  | 0, _ => rfl
  | 1, _ => rfl
  | 2, _ => rfl
  | q + 3, h => exact absurd h (by omega)
theorem dv9 : ∀ j, j < 5 → defaultValue (tyX9 j) = vp_V [.null, .int 0, .int 0, .int 0, .int 0] j := by
  intro j hj
  match j, hj with
  | 0, _ => rfl
  | 1, _ => rfl
  | 2, _ => rfl
  | 3, _ => rfl
  | 4, _ => rfl
  | q + 5, h => exact absurd h (by omega)
theorem dv10 : ∀ j, j < 7 → defaultValue (tyX10 j) = vp_V [.null, .null, .null, .null, .null, .null, .null] j := by
  intro j hj
  match j, hj with
  | 0, _ => rfl
  | 1, _ => rfl
  | 2, _ => rfl
  | 3, _ => rfl
  | 4, _ => rfl
  | 5, _ => rfl
  | 6, _ => rfl
  | q + 7, h => exact absurd h (by omega)
theorem dv11 : ∀ j, j < 28 → defaultValue (tyX11 j) = vp_V [.int 0, .null, .int 0, .null, .null, .null, .null, .null, .null, .null, .null, .null, .null, .null, .null, .null, .int 0, .null, .null, .int 0, .null, .null, .null, .null, .null, .null, .null, .null] j := by
  intro j hj
  match j, hj with
  | 0, _ => rfl
  | 1, _ => rfl
  | 2, _ => rfl
  | 3, _ => rfl
  | 4, _ => rfl
  | 5, _ => rfl
  | 6, _ => rfl
  | 7, _ => rfl
  | 8, _ => rfl
  | 9, _ => rfl
  | 10, _ => rfl
  | 11, _ => rfl
  | 12, _ => rfl
  | 13, _ => rfl
  | 14, _ => rfl
  | 15, _ => rfl
  | 16, _ => rfl
  | 17, _ => rfl
  | 18, _ => rfl
  | 19, _ => rfl
  | 20, _ => rfl
  | 21, _ => rfl
  | 22, _ => rfl
  | 23, _ => rfl
  | 24, _ => rfl
  | 25, _ => rfl
  | 26, _ => rfl
  | 27, _ => rfl
  | q + 28, h => exact absurd h (by omega)
theorem pl_X0 : (parseMethodDescriptor yX0_init.desc).map (fun d => d.parameters.length) = some 0 := by decide +kernel
theorem pl_X1 : (parseMethodDescriptor yX1_init.desc).map (fun d => d.parameters.length) = some 0 := by decide +kernel
theorem pl_X2 : (parseMethodDescriptor yX2_init.desc).map (fun d => d.parameters.length) = some 3 := by decide +kernel
theorem pl_X3 : (parseMethodDescriptor yX3_init.desc).map (fun d => d.parameters.length) = some 0 := by decide +kernel
theorem pl_X4 : (parseMethodDescriptor yX4_init.desc).map (fun d => d.parameters.length) = some 0 := by decide +kernel
theorem pl_X5 : (parseMethodDescriptor yX5_init.desc).map (fun d => d.parameters.length) = some 0 := by decide +kernel
theorem pl_X6 : (parseMethodDescriptor yX6_init.desc).map (fun d => d.parameters.length) = some 0 := by decide +kernel
theorem pl_X7 : (parseMethodDescriptor yX7_init.desc).map (fun d => d.parameters.length) = some 0 := by decide +kernel
theorem pl_X8 : (parseMethodDescriptor yX8_init.desc).map (fun d => d.parameters.length) = some 0 := by decide +kernel
theorem pl_X9 : (parseMethodDescriptor yX9_init.desc).map (fun d => d.parameters.length) = some 0 := by decide +kernel
theorem awI : Cond.arrayClass .int ∈ wg := (wg_m1 89 (by decide +kernel) rfl)
theorem awC : Cond.arrayClass .char ∈ wg := (wg_m1 44 (by decide +kernel) rfl)
theorem oi_X3 : Cond.methodLink RX3 3 objectInit ∈ wg := (wg_m1 34 (by decide +kernel) rfl)
def LS_X3 : List CD := [.inr (.inl (3, [some 1, none])), .inl (1, 200)]
set_option maxRecDepth 8000 in
theorem mc_X3 (l : Launch) (D : va_G) (ac : Nat → ClassId) (ar : Nat → Nat) (z : Nat) : MtC l D ac ar z yX3_init cX3_init 1 1 [] 3 [.null, .int 0] LS_X3 1 200 := by
  refine MtC.of (own := RX3) (by decide) rfl rfl (Nat.le_of_ble_eq_true rfl) ?_
  intro p e s m below meth c ls h0 X hz hz2 hP hD hl
  obtain ⟨hx, hb, hml, hown, hts, hr, hlk, hin, hK⟩ := id X
  have hA : ∀ q, s.heap.size ≤ q → Ah h0 s.heap.size q := fun q h => Or.inr h
  have hAz : ∀ a, Ah h0 s.heap.size a → z ≤ a := fun a h => h.elim (fun e => e ▸ hz) (fun e => Nat.le_trans hz2 e)
  have hS : va_S (Ah h0 s.heap.size) s.heap s.heap [] := va_S.rf
  have hl : lv_has ls 1 [(0, .ref h0)] := hl
  have hP : va_P D vwCl ((h0, .inr (3, [.null, .int 0])) :: ([] : va_W)) s.heap := hP
  have hD : va_D (Ah h0 s.heap.size) ((h0, .inr (3, [.null, .int 0])) :: ([] : va_W)) := hD
  refine lv_aload_n hx hb dX3_init_0 rfl (lv_at hl 0 rfl) ?_
  refine kObj X oi_X3 oi_inst oi_code hl.1 (Nat.le_of_ble_eq_true rfl) (Nat.le_of_ble_eq_true rfl) dX3_init_1 ?_
  refine lv_aload_n hx hb dX3_init_4 rfl (lv_at hl 0 rfl) ?_
  refine lv_sipush (v := 200) hx hb dX3_init_5 (by decide) ?_
  refine kNewC (N := 200) X hP hD hS hA (by decide) (by decide) (by decide) awC (Nat.le_of_ble_eq_true rfl) (Nat.le_of_ble_eq_true rfl) dX3_init_8 (fun q1 H hP hD hS => ?_)
  have hP : va_P D vwCl ((h0, .inr (3, [.null, .int 0])) :: ([(q1, .inl (ac 1, 200, .inl (fun _ => 0)))] : va_W)) H := hP
  have hD : va_D (Ah h0 s.heap.size) ((h0, .inr (3, [.null, .int 0])) :: ([(q1, .inl (ac 1, 200, .inl (fun _ => 0)))] : va_W)) := hD
  refine kPut (ty := (.array .char)) X hP hD hS fl_X3_9 rfl (by decide +kernel) rfl rfl rfl rfl (Nat.le_of_ble_eq_true rfl) dX3_init_10 (fun H locs hP hD hS => ?_)
  have hP : va_P D vwCl ((h0, .inr (3, [.ref q1, .int 0])) :: ([(q1, .inl (ac 1, 200, .inl (fun _ => 0)))] : va_W)) H := hP
  have hD : va_D (Ah h0 s.heap.size) ((h0, .inr (3, [.ref q1, .int 0])) :: ([(q1, .inl (ac 1, 200, .inl (fun _ => 0)))] : va_W)) := hD
  exact kRet X (fun k => ([q1] : List Nat).getD k 0) rfl hP hD hS dX3_init_13
theorem oi_X8 : Cond.methodLink RX8 3 objectInit ∈ wg := (wg_m1 169 (by decide +kernel) rfl)
def LS_X8 : List CD := [.inr (.inl (8, [some 1, some 2, some 3])), .inl (0, 24), .inl (0, 4), .inl (0, 4)]
set_option maxRecDepth 8000 in
theorem mc_X8 (l : Launch) (D : va_G) (ac : Nat → ClassId) (ar : Nat → Nat) (z : Nat) : MtC l D ac ar z yX8_init cX8_init 1 1 [] 8 [.null, .null, .null] LS_X8 3 32 := by
  refine MtC.of (own := RX8) (by decide) rfl rfl (Nat.le_of_ble_eq_true rfl) ?_
  intro p e s m below meth c ls h0 X hz hz2 hP hD hl
  obtain ⟨hx, hb, hml, hown, hts, hr, hlk, hin, hK⟩ := id X
  have hA : ∀ q, s.heap.size ≤ q → Ah h0 s.heap.size q := fun q h => Or.inr h
  have hAz : ∀ a, Ah h0 s.heap.size a → z ≤ a := fun a h => h.elim (fun e => e ▸ hz) (fun e => Nat.le_trans hz2 e)
  have hS : va_S (Ah h0 s.heap.size) s.heap s.heap [] := va_S.rf
  have hl : lv_has ls 1 [(0, .ref h0)] := hl
  have hP : va_P D vwCl ((h0, .inr (8, [.null, .null, .null])) :: ([] : va_W)) s.heap := hP
  have hD : va_D (Ah h0 s.heap.size) ((h0, .inr (8, [.null, .null, .null])) :: ([] : va_W)) := hD
  refine lv_aload_n hx hb dX8_init_0 rfl (lv_at hl 0 rfl) ?_
  refine kObj X oi_X8 oi_inst oi_code hl.1 (Nat.le_of_ble_eq_true rfl) (Nat.le_of_ble_eq_true rfl) dX8_init_1 ?_
  refine lv_aload_n hx hb dX8_init_4 rfl (lv_at hl 0 rfl) ?_
  refine lv_bipush (v := 24) hx hb dX8_init_5 (by decide) ?_
  refine kNewI (N := 24) X hP hD hS hA (by decide) (by decide) (by decide) awI (Nat.le_of_ble_eq_true rfl) (Nat.le_of_ble_eq_true rfl) dX8_init_7 (fun q1 H hP hD hS => ?_)
  have hP : va_P D vwCl ((h0, .inr (8, [.null, .null, .null])) :: ([(q1, .inl (ac 0, 24, .inl (fun _ => 0)))] : va_W)) H := hP
  have hD : va_D (Ah h0 s.heap.size) ((h0, .inr (8, [.null, .null, .null])) :: ([(q1, .inl (ac 0, 24, .inl (fun _ => 0)))] : va_W)) := hD
  refine kPut (ty := (.array .int)) X hP hD hS fl_X8_9 rfl (by decide +kernel) rfl rfl rfl rfl (Nat.le_of_ble_eq_true rfl) dX8_init_9 (fun H locs hP hD hS => ?_)
  have hP : va_P D vwCl ((h0, .inr (8, [.ref q1, .null, .null])) :: ([(q1, .inl (ac 0, 24, .inl (fun _ => 0)))] : va_W)) H := hP
  have hD : va_D (Ah h0 s.heap.size) ((h0, .inr (8, [.ref q1, .null, .null])) :: ([(q1, .inl (ac 0, 24, .inl (fun _ => 0)))] : va_W)) := hD
  refine lv_aload_n hx hb dX8_init_12 rfl (lv_at hl 0 rfl) ?_
  refine lv_iconst (v := 4) hx hb dX8_init_13 (by decide) ?_
  refine kNewI (N := 4) X hP hD hS hA (by decide) (by decide) (by decide) awI (Nat.le_of_ble_eq_true rfl) (Nat.le_of_ble_eq_true rfl) dX8_init_14 (fun q2 H hP hD hS => ?_)
  have hP : va_P D vwCl ((h0, .inr (8, [.ref q1, .null, .null])) :: ([(q1, .inl (ac 0, 24, .inl (fun _ => 0))), (q2, .inl (ac 0, 4, .inl (fun _ => 0)))] : va_W)) H := hP
  have hD : va_D (Ah h0 s.heap.size) ((h0, .inr (8, [.ref q1, .null, .null])) :: ([(q1, .inl (ac 0, 24, .inl (fun _ => 0))), (q2, .inl (ac 0, 4, .inl (fun _ => 0)))] : va_W)) := hD
  refine kPut (ty := (.array .int)) X hP hD hS fl_X8_15 rfl (by decide +kernel) rfl rfl rfl rfl (Nat.le_of_ble_eq_true rfl) dX8_init_16 (fun H locs hP hD hS => ?_)
  have hP : va_P D vwCl ((h0, .inr (8, [.ref q1, .ref q2, .null])) :: ([(q1, .inl (ac 0, 24, .inl (fun _ => 0))), (q2, .inl (ac 0, 4, .inl (fun _ => 0)))] : va_W)) H := hP
  have hD : va_D (Ah h0 s.heap.size) ((h0, .inr (8, [.ref q1, .ref q2, .null])) :: ([(q1, .inl (ac 0, 24, .inl (fun _ => 0))), (q2, .inl (ac 0, 4, .inl (fun _ => 0)))] : va_W)) := hD
  refine lv_aload_n hx hb dX8_init_19 rfl (lv_at hl 0 rfl) ?_
  refine lv_iconst (v := 4) hx hb dX8_init_20 (by decide) ?_
  refine kNewI (N := 4) X hP hD hS hA (by decide) (by decide) (by decide) awI (Nat.le_of_ble_eq_true rfl) (Nat.le_of_ble_eq_true rfl) dX8_init_21 (fun q3 H hP hD hS => ?_)
  have hP : va_P D vwCl ((h0, .inr (8, [.ref q1, .ref q2, .null])) :: ([(q1, .inl (ac 0, 24, .inl (fun _ => 0))), (q2, .inl (ac 0, 4, .inl (fun _ => 0))), (q3, .inl (ac 0, 4, .inl (fun _ => 0)))] : va_W)) H := hP
  have hD : va_D (Ah h0 s.heap.size) ((h0, .inr (8, [.ref q1, .ref q2, .null])) :: ([(q1, .inl (ac 0, 24, .inl (fun _ => 0))), (q2, .inl (ac 0, 4, .inl (fun _ => 0))), (q3, .inl (ac 0, 4, .inl (fun _ => 0)))] : va_W)) := hD
  refine kPut (ty := (.array .int)) X hP hD hS fl_X8_18 rfl (by decide +kernel) rfl rfl rfl rfl (Nat.le_of_ble_eq_true rfl) dX8_init_23 (fun H locs hP hD hS => ?_)
  have hP : va_P D vwCl ((h0, .inr (8, [.ref q1, .ref q2, .ref q3])) :: ([(q1, .inl (ac 0, 24, .inl (fun _ => 0))), (q2, .inl (ac 0, 4, .inl (fun _ => 0))), (q3, .inl (ac 0, 4, .inl (fun _ => 0)))] : va_W)) H := hP
  have hD : va_D (Ah h0 s.heap.size) ((h0, .inr (8, [.ref q1, .ref q2, .ref q3])) :: ([(q1, .inl (ac 0, 24, .inl (fun _ => 0))), (q2, .inl (ac 0, 4, .inl (fun _ => 0))), (q3, .inl (ac 0, 4, .inl (fun _ => 0)))] : va_W)) := hD
  exact kRet X (fun k => ([q1, q2, q3] : List Nat).getD k 0) rfl hP hD hS dX8_init_26
theorem oi_X5 : Cond.methodLink RX5 3 objectInit ∈ wg := (wg_m1 122 (by decide +kernel) rfl)
def LS_X5 : List CD := [.inr (.inl (5, [some 1, some 2, some 3, some 4, some 5, some 6, none])), .inl (0, 24), .inl (0, 24), .inl (0, 24), .inl (0, 24), .inl (0, 24), .inl (0, 24)]
set_option maxRecDepth 8000 in
theorem mc_X5 (l : Launch) (D : va_G) (ac : Nat → ClassId) (ar : Nat → Nat) (z : Nat) : MtC l D ac ar z yX5_init cX5_init 1 1 [] 5 [.null, .null, .null, .null, .null, .null, .int 0] LS_X5 6 144 := by
  refine MtC.of (own := RX5) (by decide) rfl rfl (Nat.le_of_ble_eq_true rfl) ?_
  intro p e s m below meth c ls h0 X hz hz2 hP hD hl
  obtain ⟨hx, hb, hml, hown, hts, hr, hlk, hin, hK⟩ := id X
  have hA : ∀ q, s.heap.size ≤ q → Ah h0 s.heap.size q := fun q h => Or.inr h
  have hAz : ∀ a, Ah h0 s.heap.size a → z ≤ a := fun a h => h.elim (fun e => e ▸ hz) (fun e => Nat.le_trans hz2 e)
  have hS : va_S (Ah h0 s.heap.size) s.heap s.heap [] := va_S.rf
  have hl : lv_has ls 1 [(0, .ref h0)] := hl
  have hP : va_P D vwCl ((h0, .inr (5, [.null, .null, .null, .null, .null, .null, .int 0])) :: ([] : va_W)) s.heap := hP
  have hD : va_D (Ah h0 s.heap.size) ((h0, .inr (5, [.null, .null, .null, .null, .null, .null, .int 0])) :: ([] : va_W)) := hD
  refine lv_aload_n hx hb dX5_init_0 rfl (lv_at hl 0 rfl) ?_
  refine kObj X oi_X5 oi_inst oi_code hl.1 (Nat.le_of_ble_eq_true rfl) (Nat.le_of_ble_eq_true rfl) dX5_init_1 ?_
  refine lv_aload_n hx hb dX5_init_4 rfl (lv_at hl 0 rfl) ?_
  refine lv_bipush (v := 24) hx hb dX5_init_5 (by decide) ?_
  refine kNewI (N := 24) X hP hD hS hA (by decide) (by decide) (by decide) awI (Nat.le_of_ble_eq_true rfl) (Nat.le_of_ble_eq_true rfl) dX5_init_7 (fun q1 H hP hD hS => ?_)
  have hP : va_P D vwCl ((h0, .inr (5, [.null, .null, .null, .null, .null, .null, .int 0])) :: ([(q1, .inl (ac 0, 24, .inl (fun _ => 0)))] : va_W)) H := hP
  have hD : va_D (Ah h0 s.heap.size) ((h0, .inr (5, [.null, .null, .null, .null, .null, .null, .int 0])) :: ([(q1, .inl (ac 0, 24, .inl (fun _ => 0)))] : va_W)) := hD
  refine kPut (ty := (.array .int)) X hP hD hS fl_X5_9 rfl (by decide +kernel) rfl rfl rfl rfl (Nat.le_of_ble_eq_true rfl) dX5_init_9 (fun H locs hP hD hS => ?_)
  have hP : va_P D vwCl ((h0, .inr (5, [.ref q1, .null, .null, .null, .null, .null, .int 0])) :: ([(q1, .inl (ac 0, 24, .inl (fun _ => 0)))] : va_W)) H := hP
  have hD : va_D (Ah h0 s.heap.size) ((h0, .inr (5, [.ref q1, .null, .null, .null, .null, .null, .int 0])) :: ([(q1, .inl (ac 0, 24, .inl (fun _ => 0)))] : va_W)) := hD
  refine lv_aload_n hx hb dX5_init_12 rfl (lv_at hl 0 rfl) ?_
  refine lv_bipush (v := 24) hx hb dX5_init_13 (by decide) ?_
  refine kNewI (N := 24) X hP hD hS hA (by decide) (by decide) (by decide) awI (Nat.le_of_ble_eq_true rfl) (Nat.le_of_ble_eq_true rfl) dX5_init_15 (fun q2 H hP hD hS => ?_)
  have hP : va_P D vwCl ((h0, .inr (5, [.ref q1, .null, .null, .null, .null, .null, .int 0])) :: ([(q1, .inl (ac 0, 24, .inl (fun _ => 0))), (q2, .inl (ac 0, 24, .inl (fun _ => 0)))] : va_W)) H := hP
  have hD : va_D (Ah h0 s.heap.size) ((h0, .inr (5, [.ref q1, .null, .null, .null, .null, .null, .int 0])) :: ([(q1, .inl (ac 0, 24, .inl (fun _ => 0))), (q2, .inl (ac 0, 24, .inl (fun _ => 0)))] : va_W)) := hD
  refine kPut (ty := (.array .int)) X hP hD hS fl_X5_15 rfl (by decide +kernel) rfl rfl rfl rfl (Nat.le_of_ble_eq_true rfl) dX5_init_17 (fun H locs hP hD hS => ?_)
  have hP : va_P D vwCl ((h0, .inr (5, [.ref q1, .ref q2, .null, .null, .null, .null, .int 0])) :: ([(q1, .inl (ac 0, 24, .inl (fun _ => 0))), (q2, .inl (ac 0, 24, .inl (fun _ => 0)))] : va_W)) H := hP
  have hD : va_D (Ah h0 s.heap.size) ((h0, .inr (5, [.ref q1, .ref q2, .null, .null, .null, .null, .int 0])) :: ([(q1, .inl (ac 0, 24, .inl (fun _ => 0))), (q2, .inl (ac 0, 24, .inl (fun _ => 0)))] : va_W)) := hD
  refine lv_aload_n hx hb dX5_init_20 rfl (lv_at hl 0 rfl) ?_
  refine lv_bipush (v := 24) hx hb dX5_init_21 (by decide) ?_
  refine kNewI (N := 24) X hP hD hS hA (by decide) (by decide) (by decide) awI (Nat.le_of_ble_eq_true rfl) (Nat.le_of_ble_eq_true rfl) dX5_init_23 (fun q3 H hP hD hS => ?_)
  have hP : va_P D vwCl ((h0, .inr (5, [.ref q1, .ref q2, .null, .null, .null, .null, .int 0])) :: ([(q1, .inl (ac 0, 24, .inl (fun _ => 0))), (q2, .inl (ac 0, 24, .inl (fun _ => 0))), (q3, .inl (ac 0, 24, .inl (fun _ => 0)))] : va_W)) H := hP
  have hD : va_D (Ah h0 s.heap.size) ((h0, .inr (5, [.ref q1, .ref q2, .null, .null, .null, .null, .int 0])) :: ([(q1, .inl (ac 0, 24, .inl (fun _ => 0))), (q2, .inl (ac 0, 24, .inl (fun _ => 0))), (q3, .inl (ac 0, 24, .inl (fun _ => 0)))] : va_W)) := hD
  refine kPut (ty := (.array .int)) X hP hD hS fl_X5_18 rfl (by decide +kernel) rfl rfl rfl rfl (Nat.le_of_ble_eq_true rfl) dX5_init_25 (fun H locs hP hD hS => ?_)
  have hP : va_P D vwCl ((h0, .inr (5, [.ref q1, .ref q2, .ref q3, .null, .null, .null, .int 0])) :: ([(q1, .inl (ac 0, 24, .inl (fun _ => 0))), (q2, .inl (ac 0, 24, .inl (fun _ => 0))), (q3, .inl (ac 0, 24, .inl (fun _ => 0)))] : va_W)) H := hP
  have hD : va_D (Ah h0 s.heap.size) ((h0, .inr (5, [.ref q1, .ref q2, .ref q3, .null, .null, .null, .int 0])) :: ([(q1, .inl (ac 0, 24, .inl (fun _ => 0))), (q2, .inl (ac 0, 24, .inl (fun _ => 0))), (q3, .inl (ac 0, 24, .inl (fun _ => 0)))] : va_W)) := hD
  refine lv_aload_n hx hb dX5_init_28 rfl (lv_at hl 0 rfl) ?_
  refine lv_bipush (v := 24) hx hb dX5_init_29 (by decide) ?_
  refine kNewI (N := 24) X hP hD hS hA (by decide) (by decide) (by decide) awI (Nat.le_of_ble_eq_true rfl) (Nat.le_of_ble_eq_true rfl) dX5_init_31 (fun q4 H hP hD hS => ?_)
  have hP : va_P D vwCl ((h0, .inr (5, [.ref q1, .ref q2, .ref q3, .null, .null, .null, .int 0])) :: ([(q1, .inl (ac 0, 24, .inl (fun _ => 0))), (q2, .inl (ac 0, 24, .inl (fun _ => 0))), (q3, .inl (ac 0, 24, .inl (fun _ => 0))), (q4, .inl (ac 0, 24, .inl (fun _ => 0)))] : va_W)) H := hP
  have hD : va_D (Ah h0 s.heap.size) ((h0, .inr (5, [.ref q1, .ref q2, .ref q3, .null, .null, .null, .int 0])) :: ([(q1, .inl (ac 0, 24, .inl (fun _ => 0))), (q2, .inl (ac 0, 24, .inl (fun _ => 0))), (q3, .inl (ac 0, 24, .inl (fun _ => 0))), (q4, .inl (ac 0, 24, .inl (fun _ => 0)))] : va_W)) := hD
  refine kPut (ty := (.array .int)) X hP hD hS fl_X5_21 rfl (by decide +kernel) rfl rfl rfl rfl (Nat.le_of_ble_eq_true rfl) dX5_init_33 (fun H locs hP hD hS => ?_)
  have hP : va_P D vwCl ((h0, .inr (5, [.ref q1, .ref q2, .ref q3, .ref q4, .null, .null, .int 0])) :: ([(q1, .inl (ac 0, 24, .inl (fun _ => 0))), (q2, .inl (ac 0, 24, .inl (fun _ => 0))), (q3, .inl (ac 0, 24, .inl (fun _ => 0))), (q4, .inl (ac 0, 24, .inl (fun _ => 0)))] : va_W)) H := hP
  have hD : va_D (Ah h0 s.heap.size) ((h0, .inr (5, [.ref q1, .ref q2, .ref q3, .ref q4, .null, .null, .int 0])) :: ([(q1, .inl (ac 0, 24, .inl (fun _ => 0))), (q2, .inl (ac 0, 24, .inl (fun _ => 0))), (q3, .inl (ac 0, 24, .inl (fun _ => 0))), (q4, .inl (ac 0, 24, .inl (fun _ => 0)))] : va_W)) := hD
  refine lv_aload_n hx hb dX5_init_36 rfl (lv_at hl 0 rfl) ?_
  refine lv_bipush (v := 24) hx hb dX5_init_37 (by decide) ?_
  refine kNewI (N := 24) X hP hD hS hA (by decide) (by decide) (by decide) awI (Nat.le_of_ble_eq_true rfl) (Nat.le_of_ble_eq_true rfl) dX5_init_39 (fun q5 H hP hD hS => ?_)
  have hP : va_P D vwCl ((h0, .inr (5, [.ref q1, .ref q2, .ref q3, .ref q4, .null, .null, .int 0])) :: ([(q1, .inl (ac 0, 24, .inl (fun _ => 0))), (q2, .inl (ac 0, 24, .inl (fun _ => 0))), (q3, .inl (ac 0, 24, .inl (fun _ => 0))), (q4, .inl (ac 0, 24, .inl (fun _ => 0))), (q5, .inl (ac 0, 24, .inl (fun _ => 0)))] : va_W)) H := hP
  have hD : va_D (Ah h0 s.heap.size) ((h0, .inr (5, [.ref q1, .ref q2, .ref q3, .ref q4, .null, .null, .int 0])) :: ([(q1, .inl (ac 0, 24, .inl (fun _ => 0))), (q2, .inl (ac 0, 24, .inl (fun _ => 0))), (q3, .inl (ac 0, 24, .inl (fun _ => 0))), (q4, .inl (ac 0, 24, .inl (fun _ => 0))), (q5, .inl (ac 0, 24, .inl (fun _ => 0)))] : va_W)) := hD
  refine kPut (ty := (.array .int)) X hP hD hS fl_X5_24 rfl (by decide +kernel) rfl rfl rfl rfl (Nat.le_of_ble_eq_true rfl) dX5_init_41 (fun H locs hP hD hS => ?_)
  have hP : va_P D vwCl ((h0, .inr (5, [.ref q1, .ref q2, .ref q3, .ref q4, .ref q5, .null, .int 0])) :: ([(q1, .inl (ac 0, 24, .inl (fun _ => 0))), (q2, .inl (ac 0, 24, .inl (fun _ => 0))), (q3, .inl (ac 0, 24, .inl (fun _ => 0))), (q4, .inl (ac 0, 24, .inl (fun _ => 0))), (q5, .inl (ac 0, 24, .inl (fun _ => 0)))] : va_W)) H := hP
  have hD : va_D (Ah h0 s.heap.size) ((h0, .inr (5, [.ref q1, .ref q2, .ref q3, .ref q4, .ref q5, .null, .int 0])) :: ([(q1, .inl (ac 0, 24, .inl (fun _ => 0))), (q2, .inl (ac 0, 24, .inl (fun _ => 0))), (q3, .inl (ac 0, 24, .inl (fun _ => 0))), (q4, .inl (ac 0, 24, .inl (fun _ => 0))), (q5, .inl (ac 0, 24, .inl (fun _ => 0)))] : va_W)) := hD
  refine lv_aload_n hx hb dX5_init_44 rfl (lv_at hl 0 rfl) ?_
  refine lv_bipush (v := 24) hx hb dX5_init_45 (by decide) ?_
  refine kNewI (N := 24) X hP hD hS hA (by decide) (by decide) (by decide) awI (Nat.le_of_ble_eq_true rfl) (Nat.le_of_ble_eq_true rfl) dX5_init_47 (fun q6 H hP hD hS => ?_)
  have hP : va_P D vwCl ((h0, .inr (5, [.ref q1, .ref q2, .ref q3, .ref q4, .ref q5, .null, .int 0])) :: ([(q1, .inl (ac 0, 24, .inl (fun _ => 0))), (q2, .inl (ac 0, 24, .inl (fun _ => 0))), (q3, .inl (ac 0, 24, .inl (fun _ => 0))), (q4, .inl (ac 0, 24, .inl (fun _ => 0))), (q5, .inl (ac 0, 24, .inl (fun _ => 0))), (q6, .inl (ac 0, 24, .inl (fun _ => 0)))] : va_W)) H := hP
  have hD : va_D (Ah h0 s.heap.size) ((h0, .inr (5, [.ref q1, .ref q2, .ref q3, .ref q4, .ref q5, .null, .int 0])) :: ([(q1, .inl (ac 0, 24, .inl (fun _ => 0))), (q2, .inl (ac 0, 24, .inl (fun _ => 0))), (q3, .inl (ac 0, 24, .inl (fun _ => 0))), (q4, .inl (ac 0, 24, .inl (fun _ => 0))), (q5, .inl (ac 0, 24, .inl (fun _ => 0))), (q6, .inl (ac 0, 24, .inl (fun _ => 0)))] : va_W)) := hD
  refine kPut (ty := (.array .int)) X hP hD hS fl_X5_27 rfl (by decide +kernel) rfl rfl rfl rfl (Nat.le_of_ble_eq_true rfl) dX5_init_49 (fun H locs hP hD hS => ?_)
  have hP : va_P D vwCl ((h0, .inr (5, [.ref q1, .ref q2, .ref q3, .ref q4, .ref q5, .ref q6, .int 0])) :: ([(q1, .inl (ac 0, 24, .inl (fun _ => 0))), (q2, .inl (ac 0, 24, .inl (fun _ => 0))), (q3, .inl (ac 0, 24, .inl (fun _ => 0))), (q4, .inl (ac 0, 24, .inl (fun _ => 0))), (q5, .inl (ac 0, 24, .inl (fun _ => 0))), (q6, .inl (ac 0, 24, .inl (fun _ => 0)))] : va_W)) H := hP
  have hD : va_D (Ah h0 s.heap.size) ((h0, .inr (5, [.ref q1, .ref q2, .ref q3, .ref q4, .ref q5, .ref q6, .int 0])) :: ([(q1, .inl (ac 0, 24, .inl (fun _ => 0))), (q2, .inl (ac 0, 24, .inl (fun _ => 0))), (q3, .inl (ac 0, 24, .inl (fun _ => 0))), (q4, .inl (ac 0, 24, .inl (fun _ => 0))), (q5, .inl (ac 0, 24, .inl (fun _ => 0))), (q6, .inl (ac 0, 24, .inl (fun _ => 0)))] : va_W)) := hD
  exact kRet X (fun k => ([q1, q2, q3, q4, q5, q6] : List Nat).getD k 0) rfl hP hD hS dX5_init_52
theorem oi_X9 : Cond.methodLink RX9 3 objectInit ∈ wg := (wg_m1 231 (by decide +kernel) rfl)
def LS_X9 : List CD := [.inr (.inl (9, [some 1, none, none, none, none])), .inl (0, 60)]
set_option maxRecDepth 8000 in
theorem mc_X9 (l : Launch) (D : va_G) (ac : Nat → ClassId) (ar : Nat → Nat) (z : Nat) : MtC l D ac ar z yX9_init cX9_init 1 1 [] 9 [.null, .int 0, .int 0, .int 0, .int 0] LS_X9 1 60 := by
  refine MtC.of (own := RX9) (by decide) rfl rfl (Nat.le_of_ble_eq_true rfl) ?_
  intro p e s m below meth c ls h0 X hz hz2 hP hD hl
  obtain ⟨hx, hb, hml, hown, hts, hr, hlk, hin, hK⟩ := id X
  have hA : ∀ q, s.heap.size ≤ q → Ah h0 s.heap.size q := fun q h => Or.inr h
  have hAz : ∀ a, Ah h0 s.heap.size a → z ≤ a := fun a h => h.elim (fun e => e ▸ hz) (fun e => Nat.le_trans hz2 e)
  have hS : va_S (Ah h0 s.heap.size) s.heap s.heap [] := va_S.rf
  have hl : lv_has ls 1 [(0, .ref h0)] := hl
  have hP : va_P D vwCl ((h0, .inr (9, [.null, .int 0, .int 0, .int 0, .int 0])) :: ([] : va_W)) s.heap := hP
  have hD : va_D (Ah h0 s.heap.size) ((h0, .inr (9, [.null, .int 0, .int 0, .int 0, .int 0])) :: ([] : va_W)) := hD
  refine lv_aload_n hx hb dX9_init_0 rfl (lv_at hl 0 rfl) ?_
  refine kObj X oi_X9 oi_inst oi_code hl.1 (Nat.le_of_ble_eq_true rfl) (Nat.le_of_ble_eq_true rfl) dX9_init_1 ?_
  refine lv_aload_n hx hb dX9_init_4 rfl (lv_at hl 0 rfl) ?_
  refine lv_bipush (v := 60) hx hb dX9_init_5 (by decide) ?_
  refine kNewI (N := 60) X hP hD hS hA (by decide) (by decide) (by decide) awI (Nat.le_of_ble_eq_true rfl) (Nat.le_of_ble_eq_true rfl) dX9_init_7 (fun q1 H hP hD hS => ?_)
  have hP : va_P D vwCl ((h0, .inr (9, [.null, .int 0, .int 0, .int 0, .int 0])) :: ([(q1, .inl (ac 0, 60, .inl (fun _ => 0)))] : va_W)) H := hP
  have hD : va_D (Ah h0 s.heap.size) ((h0, .inr (9, [.null, .int 0, .int 0, .int 0, .int 0])) :: ([(q1, .inl (ac 0, 60, .inl (fun _ => 0)))] : va_W)) := hD
  refine kPut (ty := (.array .int)) X hP hD hS fl_X9_9 rfl (by decide +kernel) rfl rfl rfl rfl (Nat.le_of_ble_eq_true rfl) dX9_init_9 (fun H locs hP hD hS => ?_)
  have hP : va_P D vwCl ((h0, .inr (9, [.ref q1, .int 0, .int 0, .int 0, .int 0])) :: ([(q1, .inl (ac 0, 60, .inl (fun _ => 0)))] : va_W)) H := hP
  have hD : va_D (Ah h0 s.heap.size) ((h0, .inr (9, [.ref q1, .int 0, .int 0, .int 0, .int 0])) :: ([(q1, .inl (ac 0, 60, .inl (fun _ => 0)))] : va_W)) := hD
  exact kRet X (fun k => ([q1] : List Nat).getD k 0) rfl hP hD hS dX9_init_12
theorem oi_X0 : Cond.methodLink RX0 3 objectInit ∈ wg := (wg_m2 18 (by decide +kernel) rfl)
def LS_X0 : List CD := [.inr (.inl (0, [some 1, some 2, some 3, some 4])), .inl (0, 25), .inl (0, 25), .inl (0, 25), .inl (0, 25)]
set_option maxRecDepth 8000 in
theorem mc_X0 (l : Launch) (D : va_G) (ac : Nat → ClassId) (ar : Nat → Nat) (z : Nat) : MtC l D ac ar z yX0_init cX0_init 1 1 [] 0 [.null, .null, .null, .null] LS_X0 4 100 := by
  refine MtC.of (own := RX0) (by decide) rfl rfl (Nat.le_of_ble_eq_true rfl) ?_
  intro p e s m below meth c ls h0 X hz hz2 hP hD hl
  obtain ⟨hx, hb, hml, hown, hts, hr, hlk, hin, hK⟩ := id X
  have hA : ∀ q, s.heap.size ≤ q → Ah h0 s.heap.size q := fun q h => Or.inr h
  have hAz : ∀ a, Ah h0 s.heap.size a → z ≤ a := fun a h => h.elim (fun e => e ▸ hz) (fun e => Nat.le_trans hz2 e)
  have hS : va_S (Ah h0 s.heap.size) s.heap s.heap [] := va_S.rf
  have hl : lv_has ls 1 [(0, .ref h0)] := hl
  have hP : va_P D vwCl ((h0, .inr (0, [.null, .null, .null, .null])) :: ([] : va_W)) s.heap := hP
  have hD : va_D (Ah h0 s.heap.size) ((h0, .inr (0, [.null, .null, .null, .null])) :: ([] : va_W)) := hD
  refine lv_aload_n hx hb dX0_init_0 rfl (lv_at hl 0 rfl) ?_
  refine kObj X oi_X0 oi_inst oi_code hl.1 (Nat.le_of_ble_eq_true rfl) (Nat.le_of_ble_eq_true rfl) dX0_init_1 ?_
  refine lv_aload_n hx hb dX0_init_4 rfl (lv_at hl 0 rfl) ?_
  refine lv_bipush (v := 25) hx hb dX0_init_5 (by decide) ?_
  refine kNewI (N := 25) X hP hD hS hA (by decide) (by decide) (by decide) awI (Nat.le_of_ble_eq_true rfl) (Nat.le_of_ble_eq_true rfl) dX0_init_7 (fun q1 H hP hD hS => ?_)
  have hP : va_P D vwCl ((h0, .inr (0, [.null, .null, .null, .null])) :: ([(q1, .inl (ac 0, 25, .inl (fun _ => 0)))] : va_W)) H := hP
  have hD : va_D (Ah h0 s.heap.size) ((h0, .inr (0, [.null, .null, .null, .null])) :: ([(q1, .inl (ac 0, 25, .inl (fun _ => 0)))] : va_W)) := hD
  refine kPut (ty := (.array .int)) X hP hD hS fl_X0_9 rfl (by decide +kernel) rfl rfl rfl rfl (Nat.le_of_ble_eq_true rfl) dX0_init_9 (fun H locs hP hD hS => ?_)
  have hP : va_P D vwCl ((h0, .inr (0, [.ref q1, .null, .null, .null])) :: ([(q1, .inl (ac 0, 25, .inl (fun _ => 0)))] : va_W)) H := hP
  have hD : va_D (Ah h0 s.heap.size) ((h0, .inr (0, [.ref q1, .null, .null, .null])) :: ([(q1, .inl (ac 0, 25, .inl (fun _ => 0)))] : va_W)) := hD
  refine lv_aload_n hx hb dX0_init_12 rfl (lv_at hl 0 rfl) ?_
  refine lv_bipush (v := 25) hx hb dX0_init_13 (by decide) ?_
  refine kNewI (N := 25) X hP hD hS hA (by decide) (by decide) (by decide) awI (Nat.le_of_ble_eq_true rfl) (Nat.le_of_ble_eq_true rfl) dX0_init_15 (fun q2 H hP hD hS => ?_)
  have hP : va_P D vwCl ((h0, .inr (0, [.ref q1, .null, .null, .null])) :: ([(q1, .inl (ac 0, 25, .inl (fun _ => 0))), (q2, .inl (ac 0, 25, .inl (fun _ => 0)))] : va_W)) H := hP
  have hD : va_D (Ah h0 s.heap.size) ((h0, .inr (0, [.ref q1, .null, .null, .null])) :: ([(q1, .inl (ac 0, 25, .inl (fun _ => 0))), (q2, .inl (ac 0, 25, .inl (fun _ => 0)))] : va_W)) := hD
  refine kPut (ty := (.array .int)) X hP hD hS fl_X0_15 rfl (by decide +kernel) rfl rfl rfl rfl (Nat.le_of_ble_eq_true rfl) dX0_init_17 (fun H locs hP hD hS => ?_)
  have hP : va_P D vwCl ((h0, .inr (0, [.ref q1, .ref q2, .null, .null])) :: ([(q1, .inl (ac 0, 25, .inl (fun _ => 0))), (q2, .inl (ac 0, 25, .inl (fun _ => 0)))] : va_W)) H := hP
  have hD : va_D (Ah h0 s.heap.size) ((h0, .inr (0, [.ref q1, .ref q2, .null, .null])) :: ([(q1, .inl (ac 0, 25, .inl (fun _ => 0))), (q2, .inl (ac 0, 25, .inl (fun _ => 0)))] : va_W)) := hD
  refine lv_aload_n hx hb dX0_init_20 rfl (lv_at hl 0 rfl) ?_
  refine lv_bipush (v := 25) hx hb dX0_init_21 (by decide) ?_
  refine kNewI (N := 25) X hP hD hS hA (by decide) (by decide) (by decide) awI (Nat.le_of_ble_eq_true rfl) (Nat.le_of_ble_eq_true rfl) dX0_init_23 (fun q3 H hP hD hS => ?_)
  have hP : va_P D vwCl ((h0, .inr (0, [.ref q1, .ref q2, .null, .null])) :: ([(q1, .inl (ac 0, 25, .inl (fun _ => 0))), (q2, .inl (ac 0, 25, .inl (fun _ => 0))), (q3, .inl (ac 0, 25, .inl (fun _ => 0)))] : va_W)) H := hP
  have hD : va_D (Ah h0 s.heap.size) ((h0, .inr (0, [.ref q1, .ref q2, .null, .null])) :: ([(q1, .inl (ac 0, 25, .inl (fun _ => 0))), (q2, .inl (ac 0, 25, .inl (fun _ => 0))), (q3, .inl (ac 0, 25, .inl (fun _ => 0)))] : va_W)) := hD
  refine kPut (ty := (.array .int)) X hP hD hS fl_X0_18 rfl (by decide +kernel) rfl rfl rfl rfl (Nat.le_of_ble_eq_true rfl) dX0_init_25 (fun H locs hP hD hS => ?_)
  have hP : va_P D vwCl ((h0, .inr (0, [.ref q1, .ref q2, .ref q3, .null])) :: ([(q1, .inl (ac 0, 25, .inl (fun _ => 0))), (q2, .inl (ac 0, 25, .inl (fun _ => 0))), (q3, .inl (ac 0, 25, .inl (fun _ => 0)))] : va_W)) H := hP
  have hD : va_D (Ah h0 s.heap.size) ((h0, .inr (0, [.ref q1, .ref q2, .ref q3, .null])) :: ([(q1, .inl (ac 0, 25, .inl (fun _ => 0))), (q2, .inl (ac 0, 25, .inl (fun _ => 0))), (q3, .inl (ac 0, 25, .inl (fun _ => 0)))] : va_W)) := hD
  refine lv_aload_n hx hb dX0_init_28 rfl (lv_at hl 0 rfl) ?_
  refine lv_bipush (v := 25) hx hb dX0_init_29 (by decide) ?_
  refine kNewI (N := 25) X hP hD hS hA (by decide) (by decide) (by decide) awI (Nat.le_of_ble_eq_true rfl) (Nat.le_of_ble_eq_true rfl) dX0_init_31 (fun q4 H hP hD hS => ?_)
  have hP : va_P D vwCl ((h0, .inr (0, [.ref q1, .ref q2, .ref q3, .null])) :: ([(q1, .inl (ac 0, 25, .inl (fun _ => 0))), (q2, .inl (ac 0, 25, .inl (fun _ => 0))), (q3, .inl (ac 0, 25, .inl (fun _ => 0))), (q4, .inl (ac 0, 25, .inl (fun _ => 0)))] : va_W)) H := hP
  have hD : va_D (Ah h0 s.heap.size) ((h0, .inr (0, [.ref q1, .ref q2, .ref q3, .null])) :: ([(q1, .inl (ac 0, 25, .inl (fun _ => 0))), (q2, .inl (ac 0, 25, .inl (fun _ => 0))), (q3, .inl (ac 0, 25, .inl (fun _ => 0))), (q4, .inl (ac 0, 25, .inl (fun _ => 0)))] : va_W)) := hD
  refine kPut (ty := (.array .int)) X hP hD hS fl_X0_21 rfl (by decide +kernel) rfl rfl rfl rfl (Nat.le_of_ble_eq_true rfl) dX0_init_33 (fun H locs hP hD hS => ?_)
  have hP : va_P D vwCl ((h0, .inr (0, [.ref q1, .ref q2, .ref q3, .ref q4])) :: ([(q1, .inl (ac 0, 25, .inl (fun _ => 0))), (q2, .inl (ac 0, 25, .inl (fun _ => 0))), (q3, .inl (ac 0, 25, .inl (fun _ => 0))), (q4, .inl (ac 0, 25, .inl (fun _ => 0)))] : va_W)) H := hP
  have hD : va_D (Ah h0 s.heap.size) ((h0, .inr (0, [.ref q1, .ref q2, .ref q3, .ref q4])) :: ([(q1, .inl (ac 0, 25, .inl (fun _ => 0))), (q2, .inl (ac 0, 25, .inl (fun _ => 0))), (q3, .inl (ac 0, 25, .inl (fun _ => 0))), (q4, .inl (ac 0, 25, .inl (fun _ => 0)))] : va_W)) := hD
  exact kRet X (fun k => ([q1, q2, q3, q4] : List Nat).getD k 0) rfl hP hD hS dX0_init_36
theorem oi_X6 : Cond.methodLink RX6 3 objectInit ∈ wg := (wg_m2 39 (by decide +kernel) rfl)
def LS_X6 : List CD := [.inr (.inl (6, [some 1, some 2, some 3, some 4, some 5, some 6, none, none, none, none, none, none, none, none, some 7, none, none])), .inl (0, 6), .inl (0, 36), .inl (0, 6), .inl (0, 128), .inl (0, 64), .inl (0, 6), .inl (0, 6)]
set_option maxRecDepth 8000 in
theorem mc_X6 (l : Launch) (D : va_G) (ac : Nat → ClassId) (ar : Nat → Nat) (z : Nat) : MtC l D ac ar z yX6_init cX6_init 1 1 [] 6 [.null, .null, .null, .null, .null, .null, .int 0, .int 0, .int 0, .int 0, .int 0, .int 0, .int 0, .int 0, .null, .int 0, .int 0] LS_X6 7 252 := by
  refine MtC.of (own := RX6) (by decide) rfl rfl (Nat.le_of_ble_eq_true rfl) ?_
  intro p e s m below meth c ls h0 X hz hz2 hP hD hl
  obtain ⟨hx, hb, hml, hown, hts, hr, hlk, hin, hK⟩ := id X
  have hA : ∀ q, s.heap.size ≤ q → Ah h0 s.heap.size q := fun q h => Or.inr h
  have hAz : ∀ a, Ah h0 s.heap.size a → z ≤ a := fun a h => h.elim (fun e => e ▸ hz) (fun e => Nat.le_trans hz2 e)
  have hS : va_S (Ah h0 s.heap.size) s.heap s.heap [] := va_S.rf
  have hl : lv_has ls 1 [(0, .ref h0)] := hl
  have hP : va_P D vwCl ((h0, .inr (6, [.null, .null, .null, .null, .null, .null, .int 0, .int 0, .int 0, .int 0, .int 0, .int 0, .int 0, .int 0, .null, .int 0, .int 0])) :: ([] : va_W)) s.heap := hP
  have hD : va_D (Ah h0 s.heap.size) ((h0, .inr (6, [.null, .null, .null, .null, .null, .null, .int 0, .int 0, .int 0, .int 0, .int 0, .int 0, .int 0, .int 0, .null, .int 0, .int 0])) :: ([] : va_W)) := hD
  refine lv_aload_n hx hb dX6_init_0 rfl (lv_at hl 0 rfl) ?_
  refine kObj X oi_X6 oi_inst oi_code hl.1 (Nat.le_of_ble_eq_true rfl) (Nat.le_of_ble_eq_true rfl) dX6_init_1 ?_
  refine lv_aload_n hx hb dX6_init_4 rfl (lv_at hl 0 rfl) ?_
  refine lv_bipush (v := 6) hx hb dX6_init_5 (by decide) ?_
  refine kNewI (N := 6) X hP hD hS hA (by decide) (by decide) (by decide) awI (Nat.le_of_ble_eq_true rfl) (Nat.le_of_ble_eq_true rfl) dX6_init_7 (fun q1 H hP hD hS => ?_)
  have hP : va_P D vwCl ((h0, .inr (6, [.null, .null, .null, .null, .null, .null, .int 0, .int 0, .int 0, .int 0, .int 0, .int 0, .int 0, .int 0, .null, .int 0, .int 0])) :: ([(q1, .inl (ac 0, 6, .inl (fun _ => 0)))] : va_W)) H := hP
  have hD : va_D (Ah h0 s.heap.size) ((h0, .inr (6, [.null, .null, .null, .null, .null, .null, .int 0, .int 0, .int 0, .int 0, .int 0, .int 0, .int 0, .int 0, .null, .int 0, .int 0])) :: ([(q1, .inl (ac 0, 6, .inl (fun _ => 0)))] : va_W)) := hD
  refine kPut (ty := (.array .int)) X hP hD hS fl_X6_9 rfl (by decide +kernel) rfl rfl rfl rfl (Nat.le_of_ble_eq_true rfl) dX6_init_9 (fun H locs hP hD hS => ?_)
  have hP : va_P D vwCl ((h0, .inr (6, [.ref q1, .null, .null, .null, .null, .null, .int 0, .int 0, .int 0, .int 0, .int 0, .int 0, .int 0, .int 0, .null, .int 0, .int 0])) :: ([(q1, .inl (ac 0, 6, .inl (fun _ => 0)))] : va_W)) H := hP
  have hD : va_D (Ah h0 s.heap.size) ((h0, .inr (6, [.ref q1, .null, .null, .null, .null, .null, .int 0, .int 0, .int 0, .int 0, .int 0, .int 0, .int 0, .int 0, .null, .int 0, .int 0])) :: ([(q1, .inl (ac 0, 6, .inl (fun _ => 0)))] : va_W)) := hD
  refine lv_aload_n hx hb dX6_init_12 rfl (lv_at hl 0 rfl) ?_
  refine lv_bipush (v := 36) hx hb dX6_init_13 (by decide) ?_
  refine kNewI (N := 36) X hP hD hS hA (by decide) (by decide) (by decide) awI (Nat.le_of_ble_eq_true rfl) (Nat.le_of_ble_eq_true rfl) dX6_init_15 (fun q2 H hP hD hS => ?_)
  have hP : va_P D vwCl ((h0, .inr (6, [.ref q1, .null, .null, .null, .null, .null, .int 0, .int 0, .int 0, .int 0, .int 0, .int 0, .int 0, .int 0, .null, .int 0, .int 0])) :: ([(q1, .inl (ac 0, 6, .inl (fun _ => 0))), (q2, .inl (ac 0, 36, .inl (fun _ => 0)))] : va_W)) H := hP
  have hD : va_D (Ah h0 s.heap.size) ((h0, .inr (6, [.ref q1, .null, .null, .null, .null, .null, .int 0, .int 0, .int 0, .int 0, .int 0, .int 0, .int 0, .int 0, .null, .int 0, .int 0])) :: ([(q1, .inl (ac 0, 6, .inl (fun _ => 0))), (q2, .inl (ac 0, 36, .inl (fun _ => 0)))] : va_W)) := hD
  refine kPut (ty := (.array .int)) X hP hD hS fl_X6_15 rfl (by decide +kernel) rfl rfl rfl rfl (Nat.le_of_ble_eq_true rfl) dX6_init_17 (fun H locs hP hD hS => ?_)
  have hP : va_P D vwCl ((h0, .inr (6, [.ref q1, .ref q2, .null, .null, .null, .null, .int 0, .int 0, .int 0, .int 0, .int 0, .int 0, .int 0, .int 0, .null, .int 0, .int 0])) :: ([(q1, .inl (ac 0, 6, .inl (fun _ => 0))), (q2, .inl (ac 0, 36, .inl (fun _ => 0)))] : va_W)) H := hP
  have hD : va_D (Ah h0 s.heap.size) ((h0, .inr (6, [.ref q1, .ref q2, .null, .null, .null, .null, .int 0, .int 0, .int 0, .int 0, .int 0, .int 0, .int 0, .int 0, .null, .int 0, .int 0])) :: ([(q1, .inl (ac 0, 6, .inl (fun _ => 0))), (q2, .inl (ac 0, 36, .inl (fun _ => 0)))] : va_W)) := hD
  refine lv_aload_n hx hb dX6_init_20 rfl (lv_at hl 0 rfl) ?_
  refine lv_bipush (v := 6) hx hb dX6_init_21 (by decide) ?_
  refine kNewI (N := 6) X hP hD hS hA (by decide) (by decide) (by decide) awI (Nat.le_of_ble_eq_true rfl) (Nat.le_of_ble_eq_true rfl) dX6_init_23 (fun q3 H hP hD hS => ?_)
  have hP : va_P D vwCl ((h0, .inr (6, [.ref q1, .ref q2, .null, .null, .null, .null, .int 0, .int 0, .int 0, .int 0, .int 0, .int 0, .int 0, .int 0, .null, .int 0, .int 0])) :: ([(q1, .inl (ac 0, 6, .inl (fun _ => 0))), (q2, .inl (ac 0, 36, .inl (fun _ => 0))), (q3, .inl (ac 0, 6, .inl (fun _ => 0)))] : va_W)) H := hP
  have hD : va_D (Ah h0 s.heap.size) ((h0, .inr (6, [.ref q1, .ref q2, .null, .null, .null, .null, .int 0, .int 0, .int 0, .int 0, .int 0, .int 0, .int 0, .int 0, .null, .int 0, .int 0])) :: ([(q1, .inl (ac 0, 6, .inl (fun _ => 0))), (q2, .inl (ac 0, 36, .inl (fun _ => 0))), (q3, .inl (ac 0, 6, .inl (fun _ => 0)))] : va_W)) := hD
  refine kPut (ty := (.array .int)) X hP hD hS fl_X6_18 rfl (by decide +kernel) rfl rfl rfl rfl (Nat.le_of_ble_eq_true rfl) dX6_init_25 (fun H locs hP hD hS => ?_)
  have hP : va_P D vwCl ((h0, .inr (6, [.ref q1, .ref q2, .ref q3, .null, .null, .null, .int 0, .int 0, .int 0, .int 0, .int 0, .int 0, .int 0, .int 0, .null, .int 0, .int 0])) :: ([(q1, .inl (ac 0, 6, .inl (fun _ => 0))), (q2, .inl (ac 0, 36, .inl (fun _ => 0))), (q3, .inl (ac 0, 6, .inl (fun _ => 0)))] : va_W)) H := hP
  have hD : va_D (Ah h0 s.heap.size) ((h0, .inr (6, [.ref q1, .ref q2, .ref q3, .null, .null, .null, .int 0, .int 0, .int 0, .int 0, .int 0, .int 0, .int 0, .int 0, .null, .int 0, .int 0])) :: ([(q1, .inl (ac 0, 6, .inl (fun _ => 0))), (q2, .inl (ac 0, 36, .inl (fun _ => 0))), (q3, .inl (ac 0, 6, .inl (fun _ => 0)))] : va_W)) := hD
  refine lv_aload_n hx hb dX6_init_28 rfl (lv_at hl 0 rfl) ?_
  refine lv_sipush (v := 128) hx hb dX6_init_29 (by decide) ?_
  refine kNewI (N := 128) X hP hD hS hA (by decide) (by decide) (by decide) awI (Nat.le_of_ble_eq_true rfl) (Nat.le_of_ble_eq_true rfl) dX6_init_32 (fun q4 H hP hD hS => ?_)
  have hP : va_P D vwCl ((h0, .inr (6, [.ref q1, .ref q2, .ref q3, .null, .null, .null, .int 0, .int 0, .int 0, .int 0, .int 0, .int 0, .int 0, .int 0, .null, .int 0, .int 0])) :: ([(q1, .inl (ac 0, 6, .inl (fun _ => 0))), (q2, .inl (ac 0, 36, .inl (fun _ => 0))), (q3, .inl (ac 0, 6, .inl (fun _ => 0))), (q4, .inl (ac 0, 128, .inl (fun _ => 0)))] : va_W)) H := hP
  have hD : va_D (Ah h0 s.heap.size) ((h0, .inr (6, [.ref q1, .ref q2, .ref q3, .null, .null, .null, .int 0, .int 0, .int 0, .int 0, .int 0, .int 0, .int 0, .int 0, .null, .int 0, .int 0])) :: ([(q1, .inl (ac 0, 6, .inl (fun _ => 0))), (q2, .inl (ac 0, 36, .inl (fun _ => 0))), (q3, .inl (ac 0, 6, .inl (fun _ => 0))), (q4, .inl (ac 0, 128, .inl (fun _ => 0)))] : va_W)) := hD
  refine kPut (ty := (.array .int)) X hP hD hS fl_X6_21 rfl (by decide +kernel) rfl rfl rfl rfl (Nat.le_of_ble_eq_true rfl) dX6_init_34 (fun H locs hP hD hS => ?_)
  have hP : va_P D vwCl ((h0, .inr (6, [.ref q1, .ref q2, .ref q3, .ref q4, .null, .null, .int 0, .int 0, .int 0, .int 0, .int 0, .int 0, .int 0, .int 0, .null, .int 0, .int 0])) :: ([(q1, .inl (ac 0, 6, .inl (fun _ => 0))), (q2, .inl (ac 0, 36, .inl (fun _ => 0))), (q3, .inl (ac 0, 6, .inl (fun _ => 0))), (q4, .inl (ac 0, 128, .inl (fun _ => 0)))] : va_W)) H := hP
  have hD : va_D (Ah h0 s.heap.size) ((h0, .inr (6, [.ref q1, .ref q2, .ref q3, .ref q4, .null, .null, .int 0, .int 0, .int 0, .int 0, .int 0, .int 0, .int 0, .int 0, .null, .int 0, .int 0])) :: ([(q1, .inl (ac 0, 6, .inl (fun _ => 0))), (q2, .inl (ac 0, 36, .inl (fun _ => 0))), (q3, .inl (ac 0, 6, .inl (fun _ => 0))), (q4, .inl (ac 0, 128, .inl (fun _ => 0)))] : va_W)) := hD
  refine lv_aload_n hx hb dX6_init_37 rfl (lv_at hl 0 rfl) ?_
  refine lv_bipush (v := 64) hx hb dX6_init_38 (by decide) ?_
  refine kNewI (N := 64) X hP hD hS hA (by decide) (by decide) (by decide) awI (Nat.le_of_ble_eq_true rfl) (Nat.le_of_ble_eq_true rfl) dX6_init_40 (fun q5 H hP hD hS => ?_)
  have hP : va_P D vwCl ((h0, .inr (6, [.ref q1, .ref q2, .ref q3, .ref q4, .null, .null, .int 0, .int 0, .int 0, .int 0, .int 0, .int 0, .int 0, .int 0, .null, .int 0, .int 0])) :: ([(q1, .inl (ac 0, 6, .inl (fun _ => 0))), (q2, .inl (ac 0, 36, .inl (fun _ => 0))), (q3, .inl (ac 0, 6, .inl (fun _ => 0))), (q4, .inl (ac 0, 128, .inl (fun _ => 0))), (q5, .inl (ac 0, 64, .inl (fun _ => 0)))] : va_W)) H := hP
  have hD : va_D (Ah h0 s.heap.size) ((h0, .inr (6, [.ref q1, .ref q2, .ref q3, .ref q4, .null, .null, .int 0, .int 0, .int 0, .int 0, .int 0, .int 0, .int 0, .int 0, .null, .int 0, .int 0])) :: ([(q1, .inl (ac 0, 6, .inl (fun _ => 0))), (q2, .inl (ac 0, 36, .inl (fun _ => 0))), (q3, .inl (ac 0, 6, .inl (fun _ => 0))), (q4, .inl (ac 0, 128, .inl (fun _ => 0))), (q5, .inl (ac 0, 64, .inl (fun _ => 0)))] : va_W)) := hD
  refine kPut (ty := (.array .int)) X hP hD hS fl_X6_24 rfl (by decide +kernel) rfl rfl rfl rfl (Nat.le_of_ble_eq_true rfl) dX6_init_42 (fun H locs hP hD hS => ?_)
  have hP : va_P D vwCl ((h0, .inr (6, [.ref q1, .ref q2, .ref q3, .ref q4, .ref q5, .null, .int 0, .int 0, .int 0, .int 0, .int 0, .int 0, .int 0, .int 0, .null, .int 0, .int 0])) :: ([(q1, .inl (ac 0, 6, .inl (fun _ => 0))), (q2, .inl (ac 0, 36, .inl (fun _ => 0))), (q3, .inl (ac 0, 6, .inl (fun _ => 0))), (q4, .inl (ac 0, 128, .inl (fun _ => 0))), (q5, .inl (ac 0, 64, .inl (fun _ => 0)))] : va_W)) H := hP
  have hD : va_D (Ah h0 s.heap.size) ((h0, .inr (6, [.ref q1, .ref q2, .ref q3, .ref q4, .ref q5, .null, .int 0, .int 0, .int 0, .int 0, .int 0, .int 0, .int 0, .int 0, .null, .int 0, .int 0])) :: ([(q1, .inl (ac 0, 6, .inl (fun _ => 0))), (q2, .inl (ac 0, 36, .inl (fun _ => 0))), (q3, .inl (ac 0, 6, .inl (fun _ => 0))), (q4, .inl (ac 0, 128, .inl (fun _ => 0))), (q5, .inl (ac 0, 64, .inl (fun _ => 0)))] : va_W)) := hD
  refine lv_aload_n hx hb dX6_init_45 rfl (lv_at hl 0 rfl) ?_
  refine lv_bipush (v := 6) hx hb dX6_init_46 (by decide) ?_
  refine kNewI (N := 6) X hP hD hS hA (by decide) (by decide) (by decide) awI (Nat.le_of_ble_eq_true rfl) (Nat.le_of_ble_eq_true rfl) dX6_init_48 (fun q6 H hP hD hS => ?_)
  have hP : va_P D vwCl ((h0, .inr (6, [.ref q1, .ref q2, .ref q3, .ref q4, .ref q5, .null, .int 0, .int 0, .int 0, .int 0, .int 0, .int 0, .int 0, .int 0, .null, .int 0, .int 0])) :: ([(q1, .inl (ac 0, 6, .inl (fun _ => 0))), (q2, .inl (ac 0, 36, .inl (fun _ => 0))), (q3, .inl (ac 0, 6, .inl (fun _ => 0))), (q4, .inl (ac 0, 128, .inl (fun _ => 0))), (q5, .inl (ac 0, 64, .inl (fun _ => 0))), (q6, .inl (ac 0, 6, .inl (fun _ => 0)))] : va_W)) H := hP
  have hD : va_D (Ah h0 s.heap.size) ((h0, .inr (6, [.ref q1, .ref q2, .ref q3, .ref q4, .ref q5, .null, .int 0, .int 0, .int 0, .int 0, .int 0, .int 0, .int 0, .int 0, .null, .int 0, .int 0])) :: ([(q1, .inl (ac 0, 6, .inl (fun _ => 0))), (q2, .inl (ac 0, 36, .inl (fun _ => 0))), (q3, .inl (ac 0, 6, .inl (fun _ => 0))), (q4, .inl (ac 0, 128, .inl (fun _ => 0))), (q5, .inl (ac 0, 64, .inl (fun _ => 0))), (q6, .inl (ac 0, 6, .inl (fun _ => 0)))] : va_W)) := hD
  refine kPut (ty := (.array .int)) X hP hD hS fl_X6_27 rfl (by decide +kernel) rfl rfl rfl rfl (Nat.le_of_ble_eq_true rfl) dX6_init_50 (fun H locs hP hD hS => ?_)
  have hP : va_P D vwCl ((h0, .inr (6, [.ref q1, .ref q2, .ref q3, .ref q4, .ref q5, .ref q6, .int 0, .int 0, .int 0, .int 0, .int 0, .int 0, .int 0, .int 0, .null, .int 0, .int 0])) :: ([(q1, .inl (ac 0, 6, .inl (fun _ => 0))), (q2, .inl (ac 0, 36, .inl (fun _ => 0))), (q3, .inl (ac 0, 6, .inl (fun _ => 0))), (q4, .inl (ac 0, 128, .inl (fun _ => 0))), (q5, .inl (ac 0, 64, .inl (fun _ => 0))), (q6, .inl (ac 0, 6, .inl (fun _ => 0)))] : va_W)) H := hP
  have hD : va_D (Ah h0 s.heap.size) ((h0, .inr (6, [.ref q1, .ref q2, .ref q3, .ref q4, .ref q5, .ref q6, .int 0, .int 0, .int 0, .int 0, .int 0, .int 0, .int 0, .int 0, .null, .int 0, .int 0])) :: ([(q1, .inl (ac 0, 6, .inl (fun _ => 0))), (q2, .inl (ac 0, 36, .inl (fun _ => 0))), (q3, .inl (ac 0, 6, .inl (fun _ => 0))), (q4, .inl (ac 0, 128, .inl (fun _ => 0))), (q5, .inl (ac 0, 64, .inl (fun _ => 0))), (q6, .inl (ac 0, 6, .inl (fun _ => 0)))] : va_W)) := hD
  refine lv_aload_n hx hb dX6_init_53 rfl (lv_at hl 0 rfl) ?_
  refine lv_bipush (v := 6) hx hb dX6_init_54 (by decide) ?_
  refine kNewI (N := 6) X hP hD hS hA (by decide) (by decide) (by decide) awI (Nat.le_of_ble_eq_true rfl) (Nat.le_of_ble_eq_true rfl) dX6_init_56 (fun q7 H hP hD hS => ?_)
  have hP : va_P D vwCl ((h0, .inr (6, [.ref q1, .ref q2, .ref q3, .ref q4, .ref q5, .ref q6, .int 0, .int 0, .int 0, .int 0, .int 0, .int 0, .int 0, .int 0, .null, .int 0, .int 0])) :: ([(q1, .inl (ac 0, 6, .inl (fun _ => 0))), (q2, .inl (ac 0, 36, .inl (fun _ => 0))), (q3, .inl (ac 0, 6, .inl (fun _ => 0))), (q4, .inl (ac 0, 128, .inl (fun _ => 0))), (q5, .inl (ac 0, 64, .inl (fun _ => 0))), (q6, .inl (ac 0, 6, .inl (fun _ => 0))), (q7, .inl (ac 0, 6, .inl (fun _ => 0)))] : va_W)) H := hP
  have hD : va_D (Ah h0 s.heap.size) ((h0, .inr (6, [.ref q1, .ref q2, .ref q3, .ref q4, .ref q5, .ref q6, .int 0, .int 0, .int 0, .int 0, .int 0, .int 0, .int 0, .int 0, .null, .int 0, .int 0])) :: ([(q1, .inl (ac 0, 6, .inl (fun _ => 0))), (q2, .inl (ac 0, 36, .inl (fun _ => 0))), (q3, .inl (ac 0, 6, .inl (fun _ => 0))), (q4, .inl (ac 0, 128, .inl (fun _ => 0))), (q5, .inl (ac 0, 64, .inl (fun _ => 0))), (q6, .inl (ac 0, 6, .inl (fun _ => 0))), (q7, .inl (ac 0, 6, .inl (fun _ => 0)))] : va_W)) := hD
  refine kPut (ty := (.array .int)) X hP hD hS fl_X6_30 rfl (by decide +kernel) rfl rfl rfl rfl (Nat.le_of_ble_eq_true rfl) dX6_init_58 (fun H locs hP hD hS => ?_)
  have hP : va_P D vwCl ((h0, .inr (6, [.ref q1, .ref q2, .ref q3, .ref q4, .ref q5, .ref q6, .int 0, .int 0, .int 0, .int 0, .int 0, .int 0, .int 0, .int 0, .ref q7, .int 0, .int 0])) :: ([(q1, .inl (ac 0, 6, .inl (fun _ => 0))), (q2, .inl (ac 0, 36, .inl (fun _ => 0))), (q3, .inl (ac 0, 6, .inl (fun _ => 0))), (q4, .inl (ac 0, 128, .inl (fun _ => 0))), (q5, .inl (ac 0, 64, .inl (fun _ => 0))), (q6, .inl (ac 0, 6, .inl (fun _ => 0))), (q7, .inl (ac 0, 6, .inl (fun _ => 0)))] : va_W)) H := hP
  have hD : va_D (Ah h0 s.heap.size) ((h0, .inr (6, [.ref q1, .ref q2, .ref q3, .ref q4, .ref q5, .ref q6, .int 0, .int 0, .int 0, .int 0, .int 0, .int 0, .int 0, .int 0, .ref q7, .int 0, .int 0])) :: ([(q1, .inl (ac 0, 6, .inl (fun _ => 0))), (q2, .inl (ac 0, 36, .inl (fun _ => 0))), (q3, .inl (ac 0, 6, .inl (fun _ => 0))), (q4, .inl (ac 0, 128, .inl (fun _ => 0))), (q5, .inl (ac 0, 64, .inl (fun _ => 0))), (q6, .inl (ac 0, 6, .inl (fun _ => 0))), (q7, .inl (ac 0, 6, .inl (fun _ => 0)))] : va_W)) := hD
  exact kRet X (fun k => ([q1, q2, q3, q4, q5, q6, q7] : List Nat).getD k 0) rfl hP hD hS dX6_init_61
theorem mw_4 {ac : Nat → ClassId} {H : Heap} {K i : Nat} {q : Nat × va_E} (h : ([(H.size, .inl (ac 3, 4, .inr (.inr (.inr (.inr (fun j => ([H.size + 1, H.size + 2, H.size + 3, H.size + 4] : List Nat)[j]?)))))), (H.size + 1, .inl (ac 0, K, .inl (fun _ => 0))), (H.size + 2, .inl (ac 0, K, .inl (fun _ => 0))), (H.size + 3, .inl (ac 0, K, .inl (fun _ => 0))), (H.size + 4, .inl (ac 0, K, .inl (fun _ => 0)))] : va_W)[i]? = some q) : q.1 = H.size + i := by
  have hk : i < 5 := (List.getElem?_eq_some_iff.mp h).1
  match i, hk with
  | 0, _ => cases h; rfl
  | 1, _ => cases h; rfl
  | 2, _ => cases h; rfl
  | 3, _ => cases h; rfl
  | 4, _ => cases h; rfl
  | q + 5, h => exact absurd h (by omega)
theorem mw_3 {ac : Nat → ClassId} {H : Heap} {K i : Nat} {q : Nat × va_E} (h : ([(H.size, .inl (ac 3, 3, .inr (.inr (.inr (.inr (fun j => ([H.size + 1, H.size + 2, H.size + 3] : List Nat)[j]?)))))), (H.size + 1, .inl (ac 0, K, .inl (fun _ => 0))), (H.size + 2, .inl (ac 0, K, .inl (fun _ => 0))), (H.size + 3, .inl (ac 0, K, .inl (fun _ => 0)))] : va_W)[i]? = some q) : q.1 = H.size + i := by
  have hk : i < 4 := (List.getElem?_eq_some_iff.mp h).1
  match i, hk with
  | 0, _ => cases h; rfl
  | 1, _ => cases h; rfl
  | 2, _ => cases h; rfl
  | 3, _ => cases h; rfl
  | q + 4, h => exact absurd h (by omega)
section CLEN
variable {p : Program} {l : Launch} {e : Env} {R : Room} {s : State} {m : MethodId} {args : Array Value} {below : List Frame} {meth : Method} {c : Code} {H : Heap} {locs : List Loc} {cells slots : Nat} {Q : State → Prop}
variable {cc : ByteArray} {nL : Nat} {own : String} {D : va_G} {ac : Nat → ClassId} {ar : Nat → Nat} {z : Nat} {A : Nat → Prop} {ws : va_W} {pc : Nat} {ls : Array Slot} {rest : List Value}
theorem kLen {q n : Nat} {f : Nat → Int32} (X : Fc p s m args meth c cc nL own D ac ar z) (hAz : ∀ a, A a → z ≤ a) (hS : va_S A s.heap H locs) (hq : rlC[q]? = some (1000 + q, n, f)) (hdg : decode cc pc = .ok (.arraylength, 1)) (kk : W p l e R s m args below meth c H locs cells slots Q (F0 m (pc + 1) ls (.int (Int32.ofNat n) :: rest))) : W p l e R s m args below meth c H locs cells slots Q (F0 m pc ls (.ref (ar q) :: rest)) := by
  obtain ⟨cell, h1, h2, h3, h4, h5, h6⟩ := ((X.2.2.2.2.2.2.2.2.2.2.2.2.2 q n f hq).2).kept (H1 := H) (fun a h1 h2 => hS.2.1 a h1 (fun h => h2 (hAz a h)))
  exact W.alen X.1 X.2.1 h1 h2 h5 rfl rfl hdg kk
theorem kMulti4 {K : Nat} {x y : Int32} (X : Fc p s m args meth c cc nL own D ac ar z) (hP : va_P D vwCl ws H) (hD : va_D A ws) (hS : va_S A s.heap H locs) (hA : ∀ q, s.heap.size ≤ q → A q) (hcl : Cond.classLink own 16 "[[I" ∈ wg) (hx : x = 4) (hy : y.toNatClampNeg = K ∧ ¬ y < 0) (hK : K ≤ 1000) (hcells : cells + (1 + 4) ≤ R.cells) (hslots : slots + (4 + 4 * K) ≤ R.slots) (hdg : decode cc pc = .ok (.multianewarray 16 2, 4))
    (kk : ∀ (q r0 r1 r2 r3 : Nat) (H1 : Heap), va_P D vwCl (ws ++ [(q, .inl (ac 3, 4, .inr (.inr (.inr (.inr (fun j => ([r0, r1, r2, r3] : List Nat)[j]?)))))), (r0, .inl (ac 0, K, .inl (fun _ => 0))), (r1, .inl (ac 0, K, .inl (fun _ => 0))), (r2, .inl (ac 0, K, .inl (fun _ => 0))), (r3, .inl (ac 0, K, .inl (fun _ => 0)))]) H1 → va_D A (ws ++ [(q, .inl (ac 3, 4, .inr (.inr (.inr (.inr (fun j => ([r0, r1, r2, r3] : List Nat)[j]?)))))), (r0, .inl (ac 0, K, .inl (fun _ => 0))), (r1, .inl (ac 0, K, .inl (fun _ => 0))), (r2, .inl (ac 0, K, .inl (fun _ => 0))), (r3, .inl (ac 0, K, .inl (fun _ => 0)))]) → va_S A s.heap H1 locs → W p l e R s m args below meth c H1 locs (cells + (1 + 4)) (slots + (4 + 4 * K)) Q (F0 m (pc + 4) ls (.ref q :: rest))) : W p l e R s m args below meth c H locs cells slots Q (F0 m pc ls (.int y :: .int x :: rest)) := by
  obtain ⟨hexec, hb, hml, hown, hts, hr, hlk, hnm, hKX⟩ := X
  subst hx
  obtain ⟨hyK, hy0⟩ := hy
  have hclink : (Cond.classLink own 16 ("[" ++ (FieldType.array .int).toString)).before args s = true := hts _ hcl
  intro T hT Xs
  obtain ⟨F, X', f1, hold, f2, hrow0, step⟩ := mm_multi (n := 4) (K := K) (cA := ac 3) (cC := ac 0) (g := F0 m pc ls (.int y :: .int 4 :: rest)) Xs hexec hown hclink hKX.2.2.2.2.1 (hts _ awI) (hKX.1.1.2 3 _ rfl).2 (hKX.1.1.2 0 _ rfl).2 rfl (by rw [hb]; exact hdg) rfl (by decide) (by decide) hyK hy0 (by decide) hK hcells hslots
  rw [hT] at f1 f2
  have hold : ∀ x : Nat, x < H.size → F.heap[x]? = H[x]? := fun x hx => by
    have := hold x (by rw [hT]; exact hx)
    rw [hT] at this
    exact this
  have hrow : ∀ j : Nat, j < 4 → F.heap[H.size + 1 + j]? = some (vp_cell (ac 0) (K, .inl (fun _ => 0))) := fun j hj => by
    have := hrow0 j hj
    rw [hT] at this
    rw [vp_cell_i]
    exact this
  have hout : (fun j => va_rf (if j < 4 then some (H.size + 1 + j) else none)) = (fun j => va_rf (([H.size + 1, H.size + 2, H.size + 3, H.size + 4] : List Nat)[j]?)) := funext fun j => by
    match j with
    | 0 => rfl
    | 1 => rfl
    | 2 => rfl
    | 3 => rfl
    | j + 4 => rw [if_neg (Nat.not_lt.mpr (Nat.le_add_left 4 j))]; rfl
  rw [hout] at f2
  have k1 : va_P D vwCl (ws ++ [(H.size, .inl (ac 3, 4, .inr (.inr (.inr (.inr (fun j => ([H.size + 1, H.size + 2, H.size + 3, H.size + 4] : List Nat)[j]?)))))), (H.size + 1, .inl (ac 0, K, .inl (fun _ => 0))), (H.size + 2, .inl (ac 0, K, .inl (fun _ => 0))), (H.size + 3, .inl (ac 0, K, .inl (fun _ => 0))), (H.size + 4, .inl (ac 0, K, .inl (fun _ => 0)))]) F.heap := by
    refine (hP.kept (fun k x hx => hold x.1 ((hP k x hx).lt))).app (fun k x hx => ?_)
    have hk : k < 4 + 1 := (List.getElem?_eq_some_iff.mp hx).1
    match k, hk with
    | 0, _ => cases hx; exact f2
    | 1, _ => cases hx; exact hrow 0 (by omega)
    | 2, _ => cases hx; exact hrow 1 (by omega)
    | 3, _ => cases hx; exact hrow 2 (by omega)
    | 4, _ => cases hx; exact hrow 3 (by omega)
  have k2 : va_D A (ws ++ [(H.size, .inl (ac 3, 4, .inr (.inr (.inr (.inr (fun j => ([H.size + 1, H.size + 2, H.size + 3, H.size + 4] : List Nat)[j]?)))))), (H.size + 1, .inl (ac 0, K, .inl (fun _ => 0))), (H.size + 2, .inl (ac 0, K, .inl (fun _ => 0))), (H.size + 3, .inl (ac 0, K, .inl (fun _ => 0))), (H.size + 4, .inl (ac 0, K, .inl (fun _ => 0)))]) := by
    have hA0 : ∀ q, H.size ≤ q → A q := fun q h => hA q (Nat.le_trans hS.1 h)
    refine hD.app ⟨fun i j p q hi hj e => ?_, fun k q hk => ?_⟩ (fun i j p q hi hj e => ?_)
    · have h1 := mw_4 hi
      have h2 := mw_4 hj
      omega
    · have h1 := mw_4 hk
      exact hA0 _ (by omega)
    · have h1 := (hP i p hi).lt
      have h2 := mw_4 hj
      omega
  have k3 : va_S A s.heap F.heap locs := ⟨by rw [f1]; have := hS.1; omega, fun x h1 h2 => (hold x (Nat.lt_of_lt_of_le h1 hS.1)).trans (hS.2.1 x h1 h2), hS.2.2⟩
  obtain ⟨t, a1, b1⟩ := kk H.size (H.size + 1) (H.size + 2) (H.size + 3) (H.size + 4) F.heap k1 k2 k3 F rfl X'
  refine ⟨t, step t ?_, b1⟩
  have e : T.heap.size = H.size := by rw [hT]
  rw [e]
  exact a1
theorem kMulti3 {K : Nat} {x y : Int32} (X : Fc p s m args meth c cc nL own D ac ar z) (hP : va_P D vwCl ws H) (hD : va_D A ws) (hS : va_S A s.heap H locs) (hA : ∀ q, s.heap.size ≤ q → A q) (hcl : Cond.classLink own 16 "[[I" ∈ wg) (hx : x = 3) (hy : y.toNatClampNeg = K ∧ ¬ y < 0) (hK : K ≤ 1000) (hcells : cells + (1 + 3) ≤ R.cells) (hslots : slots + (3 + 3 * K) ≤ R.slots) (hdg : decode cc pc = .ok (.multianewarray 16 2, 4))
    (kk : ∀ (q r0 r1 r2 : Nat) (H1 : Heap), va_P D vwCl (ws ++ [(q, .inl (ac 3, 3, .inr (.inr (.inr (.inr (fun j => ([r0, r1, r2] : List Nat)[j]?)))))), (r0, .inl (ac 0, K, .inl (fun _ => 0))), (r1, .inl (ac 0, K, .inl (fun _ => 0))), (r2, .inl (ac 0, K, .inl (fun _ => 0)))]) H1 → va_D A (ws ++ [(q, .inl (ac 3, 3, .inr (.inr (.inr (.inr (fun j => ([r0, r1, r2] : List Nat)[j]?)))))), (r0, .inl (ac 0, K, .inl (fun _ => 0))), (r1, .inl (ac 0, K, .inl (fun _ => 0))), (r2, .inl (ac 0, K, .inl (fun _ => 0)))]) → va_S A s.heap H1 locs → W p l e R s m args below meth c H1 locs (cells + (1 + 3)) (slots + (3 + 3 * K)) Q (F0 m (pc + 4) ls (.ref q :: rest))) : W p l e R s m args below meth c H locs cells slots Q (F0 m pc ls (.int y :: .int x :: rest)) := by
  obtain ⟨hexec, hb, hml, hown, hts, hr, hlk, hnm, hKX⟩ := X
  subst hx
  obtain ⟨hyK, hy0⟩ := hy
  have hclink : (Cond.classLink own 16 ("[" ++ (FieldType.array .int).toString)).before args s = true := hts _ hcl
  intro T hT Xs
  obtain ⟨F, X', f1, hold, f2, hrow0, step⟩ := mm_multi (n := 3) (K := K) (cA := ac 3) (cC := ac 0) (g := F0 m pc ls (.int y :: .int 3 :: rest)) Xs hexec hown hclink hKX.2.2.2.2.1 (hts _ awI) (hKX.1.1.2 3 _ rfl).2 (hKX.1.1.2 0 _ rfl).2 rfl (by rw [hb]; exact hdg) rfl (by decide) (by decide) hyK hy0 (by decide) hK hcells hslots
  rw [hT] at f1 f2
  have hold : ∀ x : Nat, x < H.size → F.heap[x]? = H[x]? := fun x hx => by
    have := hold x (by rw [hT]; exact hx)
    rw [hT] at this
    exact this
  have hrow : ∀ j : Nat, j < 3 → F.heap[H.size + 1 + j]? = some (vp_cell (ac 0) (K, .inl (fun _ => 0))) := fun j hj => by
    have := hrow0 j hj
    rw [hT] at this
    rw [vp_cell_i]
    exact this
  have hout : (fun j => va_rf (if j < 3 then some (H.size + 1 + j) else none)) = (fun j => va_rf (([H.size + 1, H.size + 2, H.size + 3] : List Nat)[j]?)) := funext fun j => by
    match j with
    | 0 => rfl
    | 1 => rfl
    | 2 => rfl
    | j + 3 => rw [if_neg (Nat.not_lt.mpr (Nat.le_add_left 3 j))]; rfl
  rw [hout] at f2
  have k1 : va_P D vwCl (ws ++ [(H.size, .inl (ac 3, 3, .inr (.inr (.inr (.inr (fun j => ([H.size + 1, H.size + 2, H.size + 3] : List Nat)[j]?)))))), (H.size + 1, .inl (ac 0, K, .inl (fun _ => 0))), (H.size + 2, .inl (ac 0, K, .inl (fun _ => 0))), (H.size + 3, .inl (ac 0, K, .inl (fun _ => 0)))]) F.heap := by
    refine (hP.kept (fun k x hx => hold x.1 ((hP k x hx).lt))).app (fun k x hx => ?_)
    have hk : k < 3 + 1 := (List.getElem?_eq_some_iff.mp hx).1
    match k, hk with
    | 0, _ => cases hx; exact f2
    | 1, _ => cases hx; exact hrow 0 (by omega)
    | 2, _ => cases hx; exact hrow 1 (by omega)
    | 3, _ => cases hx; exact hrow 2 (by omega)
  have k2 : va_D A (ws ++ [(H.size, .inl (ac 3, 3, .inr (.inr (.inr (.inr (fun j => ([H.size + 1, H.size + 2, H.size + 3] : List Nat)[j]?)))))), (H.size + 1, .inl (ac 0, K, .inl (fun _ => 0))), (H.size + 2, .inl (ac 0, K, .inl (fun _ => 0))), (H.size + 3, .inl (ac 0, K, .inl (fun _ => 0)))]) := by
    have hA0 : ∀ q, H.size ≤ q → A q := fun q h => hA q (Nat.le_trans hS.1 h)
    refine hD.app ⟨fun i j p q hi hj e => ?_, fun k q hk => ?_⟩ (fun i j p q hi hj e => ?_)
    · have h1 := mw_3 hi
      have h2 := mw_3 hj
      omega
    · have h1 := mw_3 hk
      exact hA0 _ (by omega)
    · have h1 := (hP i p hi).lt
      have h2 := mw_3 hj
      omega
  have k3 : va_S A s.heap F.heap locs := ⟨by rw [f1]; have := hS.1; omega, fun x h1 h2 => (hold x (Nat.lt_of_lt_of_le h1 hS.1)).trans (hS.2.1 x h1 h2), hS.2.2⟩
  obtain ⟨t, a1, b1⟩ := kk H.size (H.size + 1) (H.size + 2) (H.size + 3) F.heap k1 k2 k3 F rfl X'
  refine ⟨t, step t ?_, b1⟩
  have e : T.heap.size = H.size := by rw [hT]
  rw [e]
  exact a1
end CLEN
theorem cl_X2_16 : Cond.classLink RX2 16 "[[I" ∈ wg := (wg_m1 67 (by decide +kernel) rfl)
theorem oi_X2 : Cond.methodLink RX2 1 objectInit ∈ wg := (wg_m1 66 (by decide +kernel) rfl)
def LS_X2_4_0_1 : List CD := [.inr (.inl (2, [some 1000, some 1001, some 1, none])), .inr (.inr (3, [2, 3, 4, 5])), .inl (0, 5), .inl (0, 5), .inl (0, 5), .inl (0, 5)]
set_option maxRecDepth 8000 in
theorem mc_X2_4_0_1 (l : Launch) (D : va_G) (ac : Nat → ClassId) (ar : Nat → Nat) (z : Nat) : MtC l D ac ar z yX2_init cX2_init 4 1 [.int 4, .ref (ar 0), .ref (ar 1)] 2 [.null, .null, .null, .int 0] LS_X2_4_0_1 5 24 := by
  refine MtC.of (own := RX2) (by decide) rfl rfl (Nat.le_of_ble_eq_true rfl) ?_
  intro p e s m below meth c ls h0 X hz hz2 hP hD hl
  obtain ⟨hx, hb, hml, hown, hts, hr, hlk, hin, hK⟩ := id X
  have hA : ∀ q, s.heap.size ≤ q → Ah h0 s.heap.size q := fun q h => Or.inr h
  have hAz : ∀ a, Ah h0 s.heap.size a → z ≤ a := fun a h => h.elim (fun e => e ▸ hz) (fun e => Nat.le_trans hz2 e)
  have hS : va_S (Ah h0 s.heap.size) s.heap s.heap [] := va_S.rf
  have hl : lv_has ls 4 [(0, .ref h0), (1, .int 4), (2, .ref (ar 0)), (3, .ref (ar 1))] := hl
  have hP : va_P D vwCl ((h0, .inr (2, [.null, .null, .null, .int 0])) :: ([] : va_W)) s.heap := hP
  have hD : va_D (Ah h0 s.heap.size) ((h0, .inr (2, [.null, .null, .null, .int 0])) :: ([] : va_W)) := hD
  refine lv_aload_n hx hb dX2_init_0 rfl (lv_at hl 0 rfl) ?_
  refine kObj X oi_X2 oi_inst oi_code hl.1 (Nat.le_of_ble_eq_true rfl) (Nat.le_of_ble_eq_true rfl) dX2_init_1 ?_
  refine lv_aload_n hx hb dX2_init_4 rfl (lv_at hl 0 rfl) ?_
  refine lv_aload_n hx hb dX2_init_5 rfl (lv_at hl 2 rfl) ?_
  refine kPut (ty := (.array .int)) X hP hD hS fl_X2_7 rfl (by decide +kernel) rfl rfl rfl rfl (Nat.le_of_ble_eq_true rfl) dX2_init_6 (fun H locs hP hD hS => ?_)
  have hP : va_P D vwCl ((h0, .inr (2, [.ref (ar 0), .null, .null, .int 0])) :: ([] : va_W)) H := hP
  have hD : va_D (Ah h0 s.heap.size) ((h0, .inr (2, [.ref (ar 0), .null, .null, .int 0])) :: ([] : va_W)) := hD
  refine lv_aload_n hx hb dX2_init_9 rfl (lv_at hl 0 rfl) ?_
  refine lv_aload_n hx hb dX2_init_10 rfl (lv_at hl 3 rfl) ?_
  refine kPut (ty := (.array .int)) X hP hD hS fl_X2_13 rfl (by decide +kernel) rfl rfl rfl rfl (Nat.le_of_ble_eq_true rfl) dX2_init_11 (fun H locs hP hD hS => ?_)
  have hP : va_P D vwCl ((h0, .inr (2, [.ref (ar 0), .ref (ar 1), .null, .int 0])) :: ([] : va_W)) H := hP
  have hD : va_D (Ah h0 s.heap.size) ((h0, .inr (2, [.ref (ar 0), .ref (ar 1), .null, .int 0])) :: ([] : va_W)) := hD
  refine lv_aload_n hx hb dX2_init_14 rfl (lv_at hl 0 rfl) ?_
  refine lv_iload_n hx hb dX2_init_15 rfl (lv_at hl 1 rfl) ?_
  refine lv_aload_n hx hb dX2_init_16 rfl (lv_at hl 2 rfl) ?_
  refine kLen (q := 0) X hAz hS rfl dX2_init_17 ?_
  refine kMulti4 (K := 5) X hP hD hS hA cl_X2_16 rfl ⟨by decide, by decide⟩ (by decide) (Nat.le_of_ble_eq_true rfl) (Nat.le_of_ble_eq_true rfl) dX2_init_18 (fun q1 r0 r1 r2 r3 H hP hD hS => ?_)
  have hP : va_P D vwCl ((h0, .inr (2, [.ref (ar 0), .ref (ar 1), .null, .int 0])) :: (([] : va_W) ++ ([(q1, .inl (ac 3, 4, .inr (.inr (.inr (.inr (fun j => ([r0, r1, r2, r3] : List Nat)[j]?)))))), (r0, .inl (ac 0, 5, .inl (fun _ => 0))), (r1, .inl (ac 0, 5, .inl (fun _ => 0))), (r2, .inl (ac 0, 5, .inl (fun _ => 0))), (r3, .inl (ac 0, 5, .inl (fun _ => 0)))] : va_W))) H := hP
  have hD : va_D (Ah h0 s.heap.size) ((h0, .inr (2, [.ref (ar 0), .ref (ar 1), .null, .int 0])) :: (([] : va_W) ++ ([(q1, .inl (ac 3, 4, .inr (.inr (.inr (.inr (fun j => ([r0, r1, r2, r3] : List Nat)[j]?)))))), (r0, .inl (ac 0, 5, .inl (fun _ => 0))), (r1, .inl (ac 0, 5, .inl (fun _ => 0))), (r2, .inl (ac 0, 5, .inl (fun _ => 0))), (r3, .inl (ac 0, 5, .inl (fun _ => 0)))] : va_W))) := hD
  refine kPut (ty := (.array (.array .int))) X hP hD hS fl_X2_18 rfl (by decide +kernel) rfl rfl rfl rfl (Nat.le_of_ble_eq_true rfl) dX2_init_22 (fun H locs hP hD hS => ?_)
  have hP : va_P D vwCl ((h0, .inr (2, [.ref (ar 0), .ref (ar 1), .ref q1, .int 0])) :: (([] : va_W) ++ ([(q1, .inl (ac 3, 4, .inr (.inr (.inr (.inr (fun j => ([r0, r1, r2, r3] : List Nat)[j]?)))))), (r0, .inl (ac 0, 5, .inl (fun _ => 0))), (r1, .inl (ac 0, 5, .inl (fun _ => 0))), (r2, .inl (ac 0, 5, .inl (fun _ => 0))), (r3, .inl (ac 0, 5, .inl (fun _ => 0)))] : va_W))) H := hP
  have hD : va_D (Ah h0 s.heap.size) ((h0, .inr (2, [.ref (ar 0), .ref (ar 1), .ref q1, .int 0])) :: (([] : va_W) ++ ([(q1, .inl (ac 3, 4, .inr (.inr (.inr (.inr (fun j => ([r0, r1, r2, r3] : List Nat)[j]?)))))), (r0, .inl (ac 0, 5, .inl (fun _ => 0))), (r1, .inl (ac 0, 5, .inl (fun _ => 0))), (r2, .inl (ac 0, 5, .inl (fun _ => 0))), (r3, .inl (ac 0, 5, .inl (fun _ => 0)))] : va_W))) := hD
  exact kRet X (fun k => ([q1, r0, r1, r2, r3] : List Nat).getD k 0) rfl hP hD hS dX2_init_25
def LS_X2_3_2_3 : List CD := [.inr (.inl (2, [some 1002, some 1003, some 1, none])), .inr (.inr (3, [2, 3, 4])), .inl (0, 2), .inl (0, 2), .inl (0, 2)]
set_option maxRecDepth 8000 in
theorem mc_X2_3_2_3 (l : Launch) (D : va_G) (ac : Nat → ClassId) (ar : Nat → Nat) (z : Nat) : MtC l D ac ar z yX2_init cX2_init 4 1 [.int 3, .ref (ar 2), .ref (ar 3)] 2 [.null, .null, .null, .int 0] LS_X2_3_2_3 4 9 := by
  refine MtC.of (own := RX2) (by decide) rfl rfl (Nat.le_of_ble_eq_true rfl) ?_
  intro p e s m below meth c ls h0 X hz hz2 hP hD hl
  obtain ⟨hx, hb, hml, hown, hts, hr, hlk, hin, hK⟩ := id X
  have hA : ∀ q, s.heap.size ≤ q → Ah h0 s.heap.size q := fun q h => Or.inr h
  have hAz : ∀ a, Ah h0 s.heap.size a → z ≤ a := fun a h => h.elim (fun e => e ▸ hz) (fun e => Nat.le_trans hz2 e)
  have hS : va_S (Ah h0 s.heap.size) s.heap s.heap [] := va_S.rf
  have hl : lv_has ls 4 [(0, .ref h0), (1, .int 3), (2, .ref (ar 2)), (3, .ref (ar 3))] := hl
  have hP : va_P D vwCl ((h0, .inr (2, [.null, .null, .null, .int 0])) :: ([] : va_W)) s.heap := hP
  have hD : va_D (Ah h0 s.heap.size) ((h0, .inr (2, [.null, .null, .null, .int 0])) :: ([] : va_W)) := hD
  refine lv_aload_n hx hb dX2_init_0 rfl (lv_at hl 0 rfl) ?_
  refine kObj X oi_X2 oi_inst oi_code hl.1 (Nat.le_of_ble_eq_true rfl) (Nat.le_of_ble_eq_true rfl) dX2_init_1 ?_
  refine lv_aload_n hx hb dX2_init_4 rfl (lv_at hl 0 rfl) ?_
  refine lv_aload_n hx hb dX2_init_5 rfl (lv_at hl 2 rfl) ?_
  refine kPut (ty := (.array .int)) X hP hD hS fl_X2_7 rfl (by decide +kernel) rfl rfl rfl rfl (Nat.le_of_ble_eq_true rfl) dX2_init_6 (fun H locs hP hD hS => ?_)
  have hP : va_P D vwCl ((h0, .inr (2, [.ref (ar 2), .null, .null, .int 0])) :: ([] : va_W)) H := hP
  have hD : va_D (Ah h0 s.heap.size) ((h0, .inr (2, [.ref (ar 2), .null, .null, .int 0])) :: ([] : va_W)) := hD
  refine lv_aload_n hx hb dX2_init_9 rfl (lv_at hl 0 rfl) ?_
  refine lv_aload_n hx hb dX2_init_10 rfl (lv_at hl 3 rfl) ?_
  refine kPut (ty := (.array .int)) X hP hD hS fl_X2_13 rfl (by decide +kernel) rfl rfl rfl rfl (Nat.le_of_ble_eq_true rfl) dX2_init_11 (fun H locs hP hD hS => ?_)
  have hP : va_P D vwCl ((h0, .inr (2, [.ref (ar 2), .ref (ar 3), .null, .int 0])) :: ([] : va_W)) H := hP
  have hD : va_D (Ah h0 s.heap.size) ((h0, .inr (2, [.ref (ar 2), .ref (ar 3), .null, .int 0])) :: ([] : va_W)) := hD
  refine lv_aload_n hx hb dX2_init_14 rfl (lv_at hl 0 rfl) ?_
  refine lv_iload_n hx hb dX2_init_15 rfl (lv_at hl 1 rfl) ?_
  refine lv_aload_n hx hb dX2_init_16 rfl (lv_at hl 2 rfl) ?_
  refine kLen (q := 2) X hAz hS rfl dX2_init_17 ?_
  refine kMulti3 (K := 2) X hP hD hS hA cl_X2_16 rfl ⟨by decide, by decide⟩ (by decide) (Nat.le_of_ble_eq_true rfl) (Nat.le_of_ble_eq_true rfl) dX2_init_18 (fun q1 r0 r1 r2 H hP hD hS => ?_)
  have hP : va_P D vwCl ((h0, .inr (2, [.ref (ar 2), .ref (ar 3), .null, .int 0])) :: (([] : va_W) ++ ([(q1, .inl (ac 3, 3, .inr (.inr (.inr (.inr (fun j => ([r0, r1, r2] : List Nat)[j]?)))))), (r0, .inl (ac 0, 2, .inl (fun _ => 0))), (r1, .inl (ac 0, 2, .inl (fun _ => 0))), (r2, .inl (ac 0, 2, .inl (fun _ => 0)))] : va_W))) H := hP
  have hD : va_D (Ah h0 s.heap.size) ((h0, .inr (2, [.ref (ar 2), .ref (ar 3), .null, .int 0])) :: (([] : va_W) ++ ([(q1, .inl (ac 3, 3, .inr (.inr (.inr (.inr (fun j => ([r0, r1, r2] : List Nat)[j]?)))))), (r0, .inl (ac 0, 2, .inl (fun _ => 0))), (r1, .inl (ac 0, 2, .inl (fun _ => 0))), (r2, .inl (ac 0, 2, .inl (fun _ => 0)))] : va_W))) := hD
  refine kPut (ty := (.array (.array .int))) X hP hD hS fl_X2_18 rfl (by decide +kernel) rfl rfl rfl rfl (Nat.le_of_ble_eq_true rfl) dX2_init_22 (fun H locs hP hD hS => ?_)
  have hP : va_P D vwCl ((h0, .inr (2, [.ref (ar 2), .ref (ar 3), .ref q1, .int 0])) :: (([] : va_W) ++ ([(q1, .inl (ac 3, 3, .inr (.inr (.inr (.inr (fun j => ([r0, r1, r2] : List Nat)[j]?)))))), (r0, .inl (ac 0, 2, .inl (fun _ => 0))), (r1, .inl (ac 0, 2, .inl (fun _ => 0))), (r2, .inl (ac 0, 2, .inl (fun _ => 0)))] : va_W))) H := hP
  have hD : va_D (Ah h0 s.heap.size) ((h0, .inr (2, [.ref (ar 2), .ref (ar 3), .ref q1, .int 0])) :: (([] : va_W) ++ ([(q1, .inl (ac 3, 3, .inr (.inr (.inr (.inr (fun j => ([r0, r1, r2] : List Nat)[j]?)))))), (r0, .inl (ac 0, 2, .inl (fun _ => 0))), (r1, .inl (ac 0, 2, .inl (fun _ => 0))), (r2, .inl (ac 0, 2, .inl (fun _ => 0)))] : va_W))) := hD
  exact kRet X (fun k => ([q1, r0, r1, r2] : List Nat).getD k 0) rfl hP hD hS dX2_init_25
def LS_X2_4_4_5 : List CD := [.inr (.inl (2, [some 1004, some 1005, some 1, none])), .inr (.inr (3, [2, 3, 4, 5])), .inl (0, 3), .inl (0, 3), .inl (0, 3), .inl (0, 3)]
set_option maxRecDepth 8000 in
theorem mc_X2_4_4_5 (l : Launch) (D : va_G) (ac : Nat → ClassId) (ar : Nat → Nat) (z : Nat) : MtC l D ac ar z yX2_init cX2_init 4 1 [.int 4, .ref (ar 4), .ref (ar 5)] 2 [.null, .null, .null, .int 0] LS_X2_4_4_5 5 16 := by
  refine MtC.of (own := RX2) (by decide) rfl rfl (Nat.le_of_ble_eq_true rfl) ?_
  intro p e s m below meth c ls h0 X hz hz2 hP hD hl
  obtain ⟨hx, hb, hml, hown, hts, hr, hlk, hin, hK⟩ := id X
  have hA : ∀ q, s.heap.size ≤ q → Ah h0 s.heap.size q := fun q h => Or.inr h
  have hAz : ∀ a, Ah h0 s.heap.size a → z ≤ a := fun a h => h.elim (fun e => e ▸ hz) (fun e => Nat.le_trans hz2 e)
  have hS : va_S (Ah h0 s.heap.size) s.heap s.heap [] := va_S.rf
  have hl : lv_has ls 4 [(0, .ref h0), (1, .int 4), (2, .ref (ar 4)), (3, .ref (ar 5))] := hl
  have hP : va_P D vwCl ((h0, .inr (2, [.null, .null, .null, .int 0])) :: ([] : va_W)) s.heap := hP
  have hD : va_D (Ah h0 s.heap.size) ((h0, .inr (2, [.null, .null, .null, .int 0])) :: ([] : va_W)) := hD
  refine lv_aload_n hx hb dX2_init_0 rfl (lv_at hl 0 rfl) ?_
  refine kObj X oi_X2 oi_inst oi_code hl.1 (Nat.le_of_ble_eq_true rfl) (Nat.le_of_ble_eq_true rfl) dX2_init_1 ?_
  refine lv_aload_n hx hb dX2_init_4 rfl (lv_at hl 0 rfl) ?_
  refine lv_aload_n hx hb dX2_init_5 rfl (lv_at hl 2 rfl) ?_
  refine kPut (ty := (.array .int)) X hP hD hS fl_X2_7 rfl (by decide +kernel) rfl rfl rfl rfl (Nat.le_of_ble_eq_true rfl) dX2_init_6 (fun H locs hP hD hS => ?_)
  have hP : va_P D vwCl ((h0, .inr (2, [.ref (ar 4), .null, .null, .int 0])) :: ([] : va_W)) H := hP
  have hD : va_D (Ah h0 s.heap.size) ((h0, .inr (2, [.ref (ar 4), .null, .null, .int 0])) :: ([] : va_W)) := hD
  refine lv_aload_n hx hb dX2_init_9 rfl (lv_at hl 0 rfl) ?_
  refine lv_aload_n hx hb dX2_init_10 rfl (lv_at hl 3 rfl) ?_
  refine kPut (ty := (.array .int)) X hP hD hS fl_X2_13 rfl (by decide +kernel) rfl rfl rfl rfl (Nat.le_of_ble_eq_true rfl) dX2_init_11 (fun H locs hP hD hS => ?_)
  have hP : va_P D vwCl ((h0, .inr (2, [.ref (ar 4), .ref (ar 5), .null, .int 0])) :: ([] : va_W)) H := hP
  have hD : va_D (Ah h0 s.heap.size) ((h0, .inr (2, [.ref (ar 4), .ref (ar 5), .null, .int 0])) :: ([] : va_W)) := hD
  refine lv_aload_n hx hb dX2_init_14 rfl (lv_at hl 0 rfl) ?_
  refine lv_iload_n hx hb dX2_init_15 rfl (lv_at hl 1 rfl) ?_
  refine lv_aload_n hx hb dX2_init_16 rfl (lv_at hl 2 rfl) ?_
  refine kLen (q := 4) X hAz hS rfl dX2_init_17 ?_
  refine kMulti4 (K := 3) X hP hD hS hA cl_X2_16 rfl ⟨by decide, by decide⟩ (by decide) (Nat.le_of_ble_eq_true rfl) (Nat.le_of_ble_eq_true rfl) dX2_init_18 (fun q1 r0 r1 r2 r3 H hP hD hS => ?_)
  have hP : va_P D vwCl ((h0, .inr (2, [.ref (ar 4), .ref (ar 5), .null, .int 0])) :: (([] : va_W) ++ ([(q1, .inl (ac 3, 4, .inr (.inr (.inr (.inr (fun j => ([r0, r1, r2, r3] : List Nat)[j]?)))))), (r0, .inl (ac 0, 3, .inl (fun _ => 0))), (r1, .inl (ac 0, 3, .inl (fun _ => 0))), (r2, .inl (ac 0, 3, .inl (fun _ => 0))), (r3, .inl (ac 0, 3, .inl (fun _ => 0)))] : va_W))) H := hP
  have hD : va_D (Ah h0 s.heap.size) ((h0, .inr (2, [.ref (ar 4), .ref (ar 5), .null, .int 0])) :: (([] : va_W) ++ ([(q1, .inl (ac 3, 4, .inr (.inr (.inr (.inr (fun j => ([r0, r1, r2, r3] : List Nat)[j]?)))))), (r0, .inl (ac 0, 3, .inl (fun _ => 0))), (r1, .inl (ac 0, 3, .inl (fun _ => 0))), (r2, .inl (ac 0, 3, .inl (fun _ => 0))), (r3, .inl (ac 0, 3, .inl (fun _ => 0)))] : va_W))) := hD
  refine kPut (ty := (.array (.array .int))) X hP hD hS fl_X2_18 rfl (by decide +kernel) rfl rfl rfl rfl (Nat.le_of_ble_eq_true rfl) dX2_init_22 (fun H locs hP hD hS => ?_)
  have hP : va_P D vwCl ((h0, .inr (2, [.ref (ar 4), .ref (ar 5), .ref q1, .int 0])) :: (([] : va_W) ++ ([(q1, .inl (ac 3, 4, .inr (.inr (.inr (.inr (fun j => ([r0, r1, r2, r3] : List Nat)[j]?)))))), (r0, .inl (ac 0, 3, .inl (fun _ => 0))), (r1, .inl (ac 0, 3, .inl (fun _ => 0))), (r2, .inl (ac 0, 3, .inl (fun _ => 0))), (r3, .inl (ac 0, 3, .inl (fun _ => 0)))] : va_W))) H := hP
  have hD : va_D (Ah h0 s.heap.size) ((h0, .inr (2, [.ref (ar 4), .ref (ar 5), .ref q1, .int 0])) :: (([] : va_W) ++ ([(q1, .inl (ac 3, 4, .inr (.inr (.inr (.inr (fun j => ([r0, r1, r2, r3] : List Nat)[j]?)))))), (r0, .inl (ac 0, 3, .inl (fun _ => 0))), (r1, .inl (ac 0, 3, .inl (fun _ => 0))), (r2, .inl (ac 0, 3, .inl (fun _ => 0))), (r3, .inl (ac 0, 3, .inl (fun _ => 0)))] : va_W))) := hD
  exact kRet X (fun k => ([q1, r0, r1, r2, r3] : List Nat).getD k 0) rfl hP hD hS dX2_init_25
theorem oi_X7 : Cond.methodLink RX7 3 objectInit ∈ wg := (wg_m1 56 (by decide +kernel) rfl)
theorem cl_X7_9 : Cond.classLink RX7 9 RX2 ∈ wg := (wg_m1 57 (by decide +kernel) rfl)
theorem in_X2 : Cond.instantiable RX2 4 ∈ wg := (wg_m1 58 (by decide +kernel) rfl)
theorem ii_X2 : Cond.initialized RX2 ∈ wg := (wg_m1 5 (by decide +kernel) rfl)
theorem cd_X2 : Cond.code yX2_init cX2_init 4 none ∈ wg := (wg_m1 65 (by decide +kernel) rfl)
theorem im_X2 : Cond.instanceMethod yX2_init ∈ wg := (wg_m1 64 (by decide +kernel) rfl)
theorem ml_X7_18 : Cond.methodLink RX7 18 yX2_init ∈ wg := (wg_m1 63 (by decide +kernel) rfl)
def LS_X7 : List CD := [.inr (.inl (7, [some 1, some 7, some 12])), .inr (.inl (2, [some 1000, some 1001, some 2, none])), .inr (.inr (3, [3, 4, 5, 6])), .inl (0, 5), .inl (0, 5), .inl (0, 5), .inl (0, 5), .inr (.inl (2, [some 1002, some 1003, some 8, none])), .inr (.inr (3, [9, 10, 11])), .inl (0, 2), .inl (0, 2), .inl (0, 2), .inr (.inl (2, [some 1004, some 1005, some 13, none])), .inr (.inr (3, [14, 15, 16, 17])), .inl (0, 3), .inl (0, 3), .inl (0, 3), .inl (0, 3)]
set_option maxRecDepth 8000 in
theorem mc_X7 (l : Launch) (D : va_G) (ac : Nat → ClassId) (ar : Nat → Nat) (z : Nat) : MtC l D ac ar z yX7_init cX7_init 1 2 [] 7 [.null, .null, .null] LS_X7 17 61 := by
  refine MtC.of (own := RX7) (by decide) rfl rfl (Nat.le_of_ble_eq_true rfl) ?_
  intro p e s m below meth c ls h0 X hz hz2 hP hD hl
  obtain ⟨hx, hb, hml, hown, hts, hr, hlk, hin, hK⟩ := id X
  have hA : ∀ q, s.heap.size ≤ q → Ah h0 s.heap.size q := fun q h => Or.inr h
  have hAz : ∀ a, Ah h0 s.heap.size a → z ≤ a := fun a h => h.elim (fun e => e ▸ hz) (fun e => Nat.le_trans hz2 e)
  have hS : va_S (Ah h0 s.heap.size) s.heap s.heap [] := va_S.rf
  have hl : lv_has ls 1 [(0, .ref h0)] := hl
  have hP : va_P D vwCl ((h0, .inr (7, [.null, .null, .null])) :: ([] : va_W)) s.heap := hP
  have hD : va_D (Ah h0 s.heap.size) ((h0, .inr (7, [.null, .null, .null])) :: ([] : va_W)) := hD
  refine lv_aload_n hx hb dX7_init_0 rfl (lv_at hl 0 rfl) ?_
  refine kObj X oi_X7 oi_inst oi_code hl.1 (Nat.le_of_ble_eq_true rfl) (Nat.le_of_ble_eq_true rfl) dX7_init_1 ?_
  refine lv_aload_n hx hb dX7_init_4 rfl (lv_at hl 0 rfl) ?_
  refine kNew (ci := 2) (vs := [.null, .null, .null, .int 0]) (q := (RX2, TX2, 4)) X hP hD hS hA rfl cok2 tyX2 tyX2_ok dv2 cl_X7_9 in_X2 ii_X2 (Nat.le_of_ble_eq_true rfl) (Nat.le_of_ble_eq_true rfl) dX7_init_5 (fun q1 H hP hD hS => ?_)
  refine lv_dup hx hb dX7_init_8 rfl ?_
  refine lv_iconst (v := 4) hx hb dX7_init_9 (by decide) ?_
  refine va_getsN (A := fun a => z ≤ a) (C := "StationPasses") (n := stN.getD 0 "") (d := "[I") (v := .ref (ar 0)) (host := "StationPasses") (ref := "StationPasses") hx hb (hK.2.2.2.2.2 0 _ _ rfl).1 ⟨hS.1, fun a h1 h2 => hS.2.1 a h1 (fun h => h2 (hAz a h)), fun a ha => hAz _ (hS.2.2 a ha)⟩ hown (va_Nw.use rfl (hK.2.2.1 (11, 0) (by decide))) (fun x hx => hx) dX7_init_10 ?_
  refine va_getsN (A := fun a => z ≤ a) (C := "StationPasses") (n := stN.getD 1 "") (d := "[I") (v := .ref (ar 1)) (host := "StationPasses") (ref := "StationPasses") hx hb (hK.2.2.2.2.2 1 _ _ rfl).1 ⟨hS.1, fun a h1 h2 => hS.2.1 a h1 (fun h => h2 (hAz a h)), fun a ha => hAz _ (hS.2.2 a ha)⟩ hown (va_Nw.use rfl (hK.2.2.1 (15, 1) (by decide))) (fun x hx => hx) dX7_init_13 ?_
  refine kCallO (q := q1) (As := [.int 4, .ref (ar 0), .ref (ar 1)]) (rest := [.ref q1, .ref h0]) X hP hD hS hA hAz hz2 (mc_X2_4_0_1 l D ac ar z) cd_X2 ii_X2 im_X2 ⟨by decide +kernel, by decide +kernel⟩ rfl pl_X2 ml_X7_18 (Nat.le_of_ble_eq_true rfl) (Nat.le_of_ble_eq_true rfl) hl.1 rfl (Nat.le_of_ble_eq_true rfl) (Nat.le_of_ble_eq_true rfl) (Nat.le_of_ble_eq_true rfl) dX7_init_16 (fun g2 H locs hP hD hS => ?_)
  have hP : va_P D vwCl ((h0, .inr (7, [.null, .null, .null])) :: (([] : va_W) ++ (wd (mkAd ar (cAd q1 g2)) ac LS_X2_4_0_1 Zm))) H := hP
  have hD : va_D (Ah h0 s.heap.size) ((h0, .inr (7, [.null, .null, .null])) :: (([] : va_W) ++ (wd (mkAd ar (cAd q1 g2)) ac LS_X2_4_0_1 Zm))) := hD
  refine kPut (ty := (.object "StationPasses$Items")) X hP hD hS fl_X7_21 rfl (by decide +kernel) rfl rfl rfl rfl (Nat.le_of_ble_eq_true rfl) dX7_init_19 (fun H locs hP hD hS => ?_)
  have hP : va_P D vwCl ((h0, .inr (7, [.ref q1, .null, .null])) :: (([] : va_W) ++ (wd (mkAd ar (cAd q1 g2)) ac LS_X2_4_0_1 Zm))) H := hP
  have hD : va_D (Ah h0 s.heap.size) ((h0, .inr (7, [.ref q1, .null, .null])) :: (([] : va_W) ++ (wd (mkAd ar (cAd q1 g2)) ac LS_X2_4_0_1 Zm))) := hD
  refine lv_aload_n hx hb dX7_init_22 rfl (lv_at hl 0 rfl) ?_
  refine kNew (ci := 2) (vs := [.null, .null, .null, .int 0]) (q := (RX2, TX2, 4)) X hP hD hS hA rfl cok2 tyX2 tyX2_ok dv2 cl_X7_9 in_X2 ii_X2 (Nat.le_of_ble_eq_true rfl) (Nat.le_of_ble_eq_true rfl) dX7_init_23 (fun q3 H hP hD hS => ?_)
  refine lv_dup hx hb dX7_init_26 rfl ?_
  refine lv_iconst (v := 3) hx hb dX7_init_27 (by decide) ?_
  refine va_getsN (A := fun a => z ≤ a) (C := "StationPasses") (n := stN.getD 2 "") (d := "[I") (v := .ref (ar 2)) (host := "StationPasses") (ref := "StationPasses") hx hb (hK.2.2.2.2.2 2 _ _ rfl).1 ⟨hS.1, fun a h1 h2 => hS.2.1 a h1 (fun h => h2 (hAz a h)), fun a ha => hAz _ (hS.2.2 a ha)⟩ hown (va_Nw.use rfl (hK.2.2.1 (27, 2) (by decide))) (fun x hx => hx) dX7_init_28 ?_
  refine va_getsN (A := fun a => z ≤ a) (C := "StationPasses") (n := stN.getD 3 "") (d := "[I") (v := .ref (ar 3)) (host := "StationPasses") (ref := "StationPasses") hx hb (hK.2.2.2.2.2 3 _ _ rfl).1 ⟨hS.1, fun a h1 h2 => hS.2.1 a h1 (fun h => h2 (hAz a h)), fun a ha => hAz _ (hS.2.2 a ha)⟩ hown (va_Nw.use rfl (hK.2.2.1 (30, 3) (by decide))) (fun x hx => hx) dX7_init_31 ?_
  refine kCallO (q := q3) (As := [.int 3, .ref (ar 2), .ref (ar 3)]) (rest := [.ref q3, .ref h0]) X hP hD hS hA hAz hz2 (mc_X2_3_2_3 l D ac ar z) cd_X2 ii_X2 im_X2 ⟨by decide +kernel, by decide +kernel⟩ rfl pl_X2 ml_X7_18 (Nat.le_of_ble_eq_true rfl) (Nat.le_of_ble_eq_true rfl) hl.1 rfl (Nat.le_of_ble_eq_true rfl) (Nat.le_of_ble_eq_true rfl) (Nat.le_of_ble_eq_true rfl) dX7_init_34 (fun g4 H locs hP hD hS => ?_)
  have hP : va_P D vwCl ((h0, .inr (7, [.ref q1, .null, .null])) :: ((([] : va_W) ++ (wd (mkAd ar (cAd q1 g2)) ac LS_X2_4_0_1 Zm)) ++ (wd (mkAd ar (cAd q3 g4)) ac LS_X2_3_2_3 Zm))) H := hP
  have hD : va_D (Ah h0 s.heap.size) ((h0, .inr (7, [.ref q1, .null, .null])) :: ((([] : va_W) ++ (wd (mkAd ar (cAd q1 g2)) ac LS_X2_4_0_1 Zm)) ++ (wd (mkAd ar (cAd q3 g4)) ac LS_X2_3_2_3 Zm))) := hD
  refine kPut (ty := (.object "StationPasses$Items")) X hP hD hS fl_X7_33 rfl (by decide +kernel) rfl rfl rfl rfl (Nat.le_of_ble_eq_true rfl) dX7_init_37 (fun H locs hP hD hS => ?_)
  have hP : va_P D vwCl ((h0, .inr (7, [.ref q1, .ref q3, .null])) :: ((([] : va_W) ++ (wd (mkAd ar (cAd q1 g2)) ac LS_X2_4_0_1 Zm)) ++ (wd (mkAd ar (cAd q3 g4)) ac LS_X2_3_2_3 Zm))) H := hP
  have hD : va_D (Ah h0 s.heap.size) ((h0, .inr (7, [.ref q1, .ref q3, .null])) :: ((([] : va_W) ++ (wd (mkAd ar (cAd q1 g2)) ac LS_X2_4_0_1 Zm)) ++ (wd (mkAd ar (cAd q3 g4)) ac LS_X2_3_2_3 Zm))) := hD
  refine lv_aload_n hx hb dX7_init_40 rfl (lv_at hl 0 rfl) ?_
  refine kNew (ci := 2) (vs := [.null, .null, .null, .int 0]) (q := (RX2, TX2, 4)) X hP hD hS hA rfl cok2 tyX2 tyX2_ok dv2 cl_X7_9 in_X2 ii_X2 (Nat.le_of_ble_eq_true rfl) (Nat.le_of_ble_eq_true rfl) dX7_init_41 (fun q5 H hP hD hS => ?_)
  refine lv_dup hx hb dX7_init_44 rfl ?_
  refine lv_iconst (v := 4) hx hb dX7_init_45 (by decide) ?_
  refine va_getsN (A := fun a => z ≤ a) (C := "StationPasses") (n := stN.getD 4 "") (d := "[I") (v := .ref (ar 4)) (host := "StationPasses") (ref := "StationPasses") hx hb (hK.2.2.2.2.2 4 _ _ rfl).1 ⟨hS.1, fun a h1 h2 => hS.2.1 a h1 (fun h => h2 (hAz a h)), fun a ha => hAz _ (hS.2.2 a ha)⟩ hown (va_Nw.use rfl (hK.2.2.1 (36, 4) (by decide))) (fun x hx => hx) dX7_init_46 ?_
  refine va_getsN (A := fun a => z ≤ a) (C := "StationPasses") (n := stN.getD 5 "") (d := "[I") (v := .ref (ar 5)) (host := "StationPasses") (ref := "StationPasses") hx hb (hK.2.2.2.2.2 5 _ _ rfl).1 ⟨hS.1, fun a h1 h2 => hS.2.1 a h1 (fun h => h2 (hAz a h)), fun a ha => hAz _ (hS.2.2 a ha)⟩ hown (va_Nw.use rfl (hK.2.2.1 (39, 5) (by decide))) (fun x hx => hx) dX7_init_49 ?_
  refine kCallO (q := q5) (As := [.int 4, .ref (ar 4), .ref (ar 5)]) (rest := [.ref q5, .ref h0]) X hP hD hS hA hAz hz2 (mc_X2_4_4_5 l D ac ar z) cd_X2 ii_X2 im_X2 ⟨by decide +kernel, by decide +kernel⟩ rfl pl_X2 ml_X7_18 (Nat.le_of_ble_eq_true rfl) (Nat.le_of_ble_eq_true rfl) hl.1 rfl (Nat.le_of_ble_eq_true rfl) (Nat.le_of_ble_eq_true rfl) (Nat.le_of_ble_eq_true rfl) dX7_init_52 (fun g6 H locs hP hD hS => ?_)
  have hP : va_P D vwCl ((h0, .inr (7, [.ref q1, .ref q3, .null])) :: (((([] : va_W) ++ (wd (mkAd ar (cAd q1 g2)) ac LS_X2_4_0_1 Zm)) ++ (wd (mkAd ar (cAd q3 g4)) ac LS_X2_3_2_3 Zm)) ++ (wd (mkAd ar (cAd q5 g6)) ac LS_X2_4_4_5 Zm))) H := hP
  have hD : va_D (Ah h0 s.heap.size) ((h0, .inr (7, [.ref q1, .ref q3, .null])) :: (((([] : va_W) ++ (wd (mkAd ar (cAd q1 g2)) ac LS_X2_4_0_1 Zm)) ++ (wd (mkAd ar (cAd q3 g4)) ac LS_X2_3_2_3 Zm)) ++ (wd (mkAd ar (cAd q5 g6)) ac LS_X2_4_4_5 Zm))) := hD
  refine kPut (ty := (.object "StationPasses$Items")) X hP hD hS fl_X7_42 rfl (by decide +kernel) rfl rfl rfl rfl (Nat.le_of_ble_eq_true rfl) dX7_init_55 (fun H locs hP hD hS => ?_)
  have hP : va_P D vwCl ((h0, .inr (7, [.ref q1, .ref q3, .ref q5])) :: (((([] : va_W) ++ (wd (mkAd ar (cAd q1 g2)) ac LS_X2_4_0_1 Zm)) ++ (wd (mkAd ar (cAd q3 g4)) ac LS_X2_3_2_3 Zm)) ++ (wd (mkAd ar (cAd q5 g6)) ac LS_X2_4_4_5 Zm))) H := hP
  have hD : va_D (Ah h0 s.heap.size) ((h0, .inr (7, [.ref q1, .ref q3, .ref q5])) :: (((([] : va_W) ++ (wd (mkAd ar (cAd q1 g2)) ac LS_X2_4_0_1 Zm)) ++ (wd (mkAd ar (cAd q3 g4)) ac LS_X2_3_2_3 Zm)) ++ (wd (mkAd ar (cAd q5 g6)) ac LS_X2_4_4_5 Zm))) := hD
  exact kRet X (fun k => ([q1, g2 0, g2 1, g2 2, g2 3, g2 4, q3, g4 0, g4 1, g4 2, g4 3, q5, g6 0, g6 1, g6 2, g6 3, g6 4] : List Nat).getD k 0) rfl hP hD hS dX7_init_58
theorem oi_X4 : Cond.methodLink RX4 3 objectInit ∈ wg := (wg_m1 50 (by decide +kernel) rfl)
theorem cl_X4_9 : Cond.classLink RX4 9 RX7 ∈ wg := (wg_m1 51 (by decide +kernel) rfl)
theorem in_X7 : Cond.instantiable RX7 3 ∈ wg := (wg_m1 52 (by decide +kernel) rfl)
theorem ii_X7 : Cond.initialized RX7 ∈ wg := (wg_m1 4 (by decide +kernel) rfl)
theorem cd_X7 : Cond.code yX7_init cX7_init 1 none ∈ wg := (wg_m1 55 (by decide +kernel) rfl)
theorem im_X7 : Cond.instanceMethod yX7_init ∈ wg := (wg_m1 54 (by decide +kernel) rfl)
theorem cl_X4_18 : Cond.classLink RX4 18 RX5 ∈ wg := (wg_m1 117 (by decide +kernel) rfl)
theorem in_X5 : Cond.instantiable RX5 7 ∈ wg := (wg_m1 118 (by decide +kernel) rfl)
theorem ii_X5 : Cond.initialized RX5 ∈ wg := (wg_m1 6 (by decide +kernel) rfl)
theorem cd_X5 : Cond.code yX5_init cX5_init 1 none ∈ wg := (wg_m1 121 (by decide +kernel) rfl)
theorem im_X5 : Cond.instanceMethod yX5_init ∈ wg := (wg_m1 120 (by decide +kernel) rfl)
theorem cl_X4_25 : Cond.classLink RX4 25 RX8 ∈ wg := (wg_m1 164 (by decide +kernel) rfl)
theorem in_X8 : Cond.instantiable RX8 3 ∈ wg := (wg_m1 165 (by decide +kernel) rfl)
theorem ii_X8 : Cond.initialized RX8 ∈ wg := (wg_m1 7 (by decide +kernel) rfl)
theorem cd_X8 : Cond.code yX8_init cX8_init 1 none ∈ wg := (wg_m1 168 (by decide +kernel) rfl)
theorem im_X8 : Cond.instanceMethod yX8_init ∈ wg := (wg_m1 167 (by decide +kernel) rfl)
def LS_X4 : List CD := [.inr (.inl (4, [some 1, some 19, some 26])), .inr (.inl (7, [some 2, some 8, some 13])), .inr (.inl (2, [some 1000, some 1001, some 3, none])), .inr (.inr (3, [4, 5, 6, 7])), .inl (0, 5), .inl (0, 5), .inl (0, 5), .inl (0, 5), .inr (.inl (2, [some 1002, some 1003, some 9, none])), .inr (.inr (3, [10, 11, 12])), .inl (0, 2), .inl (0, 2), .inl (0, 2), .inr (.inl (2, [some 1004, some 1005, some 14, none])), .inr (.inr (3, [15, 16, 17, 18])), .inl (0, 3), .inl (0, 3), .inl (0, 3), .inl (0, 3), .inr (.inl (5, [some 20, some 21, some 22, some 23, some 24, some 25, none])), .inl (0, 24), .inl (0, 24), .inl (0, 24), .inl (0, 24), .inl (0, 24), .inl (0, 24), .inr (.inl (8, [some 27, some 28, some 29])), .inl (0, 24), .inl (0, 4), .inl (0, 4)]
set_option maxRecDepth 8000 in
theorem mc_X4 (l : Launch) (D : va_G) (ac : Nat → ClassId) (ar : Nat → Nat) (z : Nat) : MtC l D ac ar z yX4_init cX4_init 1 3 [] 4 [.null, .null, .null] LS_X4 29 250 := by
  refine MtC.of (own := RX4) (by decide) rfl rfl (Nat.le_of_ble_eq_true rfl) ?_
  intro p e s m below meth c ls h0 X hz hz2 hP hD hl
  obtain ⟨hx, hb, hml, hown, hts, hr, hlk, hin, hK⟩ := id X
  have hA : ∀ q, s.heap.size ≤ q → Ah h0 s.heap.size q := fun q h => Or.inr h
  have hAz : ∀ a, Ah h0 s.heap.size a → z ≤ a := fun a h => h.elim (fun e => e ▸ hz) (fun e => Nat.le_trans hz2 e)
  have hS : va_S (Ah h0 s.heap.size) s.heap s.heap [] := va_S.rf
  have hl : lv_has ls 1 [(0, .ref h0)] := hl
  have hP : va_P D vwCl ((h0, .inr (4, [.null, .null, .null])) :: ([] : va_W)) s.heap := hP
  have hD : va_D (Ah h0 s.heap.size) ((h0, .inr (4, [.null, .null, .null])) :: ([] : va_W)) := hD
  refine lv_aload_n hx hb dX4_init_0 rfl (lv_at hl 0 rfl) ?_
  refine kObj X oi_X4 oi_inst oi_code hl.1 (Nat.le_of_ble_eq_true rfl) (Nat.le_of_ble_eq_true rfl) dX4_init_1 ?_
  refine lv_aload_n hx hb dX4_init_4 rfl (lv_at hl 0 rfl) ?_
  refine kNew (ci := 7) (vs := [.null, .null, .null]) (q := (RX7, TX7, 3)) X hP hD hS hA rfl cok7 tyX7 tyX7_ok dv7 cl_X4_9 in_X7 ii_X7 (Nat.le_of_ble_eq_true rfl) (Nat.le_of_ble_eq_true rfl) dX4_init_5 (fun q1 H hP hD hS => ?_)
  refine lv_dup hx hb dX4_init_8 rfl ?_
  refine kCallN (q := q1) (As := []) (rest := [.ref q1, .ref h0]) X hP hD hS hA hAz hz2 (mc_X7 l D ac ar z) cd_X7 ii_X7 im_X7 ⟨by decide +kernel, by decide +kernel⟩ rfl pl_X7 (hK.2.1 ("StationPasses$Network", 11, "StationPasses$Setting") (by decide)) (Nat.le_of_ble_eq_true rfl) (Nat.le_of_ble_eq_true rfl) hl.1 rfl (Nat.le_of_ble_eq_true rfl) (Nat.le_of_ble_eq_true rfl) (Nat.le_of_ble_eq_true rfl) dX4_init_9 (fun g2 H locs hP hD hS => ?_)
  have hP : va_P D vwCl ((h0, .inr (4, [.null, .null, .null])) :: (([] : va_W) ++ (wd (mkAd ar (cAd q1 g2)) ac LS_X7 Zm))) H := hP
  have hD : va_D (Ah h0 s.heap.size) ((h0, .inr (4, [.null, .null, .null])) :: (([] : va_W) ++ (wd (mkAd ar (cAd q1 g2)) ac LS_X7 Zm))) := hD
  refine kPutW X hP hD hS fl_X4_12 fw_4_0 rfl rfl (Nat.le_of_ble_eq_true rfl) dX4_init_12 (fun H locs hP hD hS => ?_)
  have hP : va_P D vwCl ((h0, .inr (4, [.ref q1, .null, .null])) :: (([] : va_W) ++ (wd (mkAd ar (cAd q1 g2)) ac LS_X7 Zm))) H := hP
  have hD : va_D (Ah h0 s.heap.size) ((h0, .inr (4, [.ref q1, .null, .null])) :: (([] : va_W) ++ (wd (mkAd ar (cAd q1 g2)) ac LS_X7 Zm))) := hD
  refine lv_aload_n hx hb dX4_init_15 rfl (lv_at hl 0 rfl) ?_
  refine kNew (ci := 5) (vs := [.null, .null, .null, .null, .null, .null, .int 0]) (q := (RX5, TX5, 7)) X hP hD hS hA rfl cok5 tyX5 tyX5_ok dv5 cl_X4_18 in_X5 ii_X5 (Nat.le_of_ble_eq_true rfl) (Nat.le_of_ble_eq_true rfl) dX4_init_16 (fun q3 H hP hD hS => ?_)
  refine lv_dup hx hb dX4_init_19 rfl ?_
  refine kCallN (q := q3) (As := []) (rest := [.ref q3, .ref h0]) X hP hD hS hA hAz hz2 (mc_X5 l D ac ar z) cd_X5 ii_X5 im_X5 ⟨by decide +kernel, by decide +kernel⟩ rfl pl_X5 (hK.2.1 ("StationPasses$Network", 20, "StationPasses$Passes") (by decide)) (Nat.le_of_ble_eq_true rfl) (Nat.le_of_ble_eq_true rfl) hl.1 rfl (Nat.le_of_ble_eq_true rfl) (Nat.le_of_ble_eq_true rfl) (Nat.le_of_ble_eq_true rfl) dX4_init_20 (fun g4 H locs hP hD hS => ?_)
  have hP : va_P D vwCl ((h0, .inr (4, [.ref q1, .null, .null])) :: ((([] : va_W) ++ (wd (mkAd ar (cAd q1 g2)) ac LS_X7 Zm)) ++ (wd (mkAd ar (cAd q3 g4)) ac LS_X5 Zm))) H := hP
  have hD : va_D (Ah h0 s.heap.size) ((h0, .inr (4, [.ref q1, .null, .null])) :: ((([] : va_W) ++ (wd (mkAd ar (cAd q1 g2)) ac LS_X7 Zm)) ++ (wd (mkAd ar (cAd q3 g4)) ac LS_X5 Zm))) := hD
  refine kPut (ty := (.object "StationPasses$Passes")) X hP hD hS fl_X4_21 rfl (by decide +kernel) rfl rfl rfl rfl (Nat.le_of_ble_eq_true rfl) dX4_init_23 (fun H locs hP hD hS => ?_)
  have hP : va_P D vwCl ((h0, .inr (4, [.ref q1, .ref q3, .null])) :: ((([] : va_W) ++ (wd (mkAd ar (cAd q1 g2)) ac LS_X7 Zm)) ++ (wd (mkAd ar (cAd q3 g4)) ac LS_X5 Zm))) H := hP
  have hD : va_D (Ah h0 s.heap.size) ((h0, .inr (4, [.ref q1, .ref q3, .null])) :: ((([] : va_W) ++ (wd (mkAd ar (cAd q1 g2)) ac LS_X7 Zm)) ++ (wd (mkAd ar (cAd q3 g4)) ac LS_X5 Zm))) := hD
  refine lv_aload_n hx hb dX4_init_26 rfl (lv_at hl 0 rfl) ?_
  refine kNew (ci := 8) (vs := [.null, .null, .null]) (q := (RX8, TX8, 3)) X hP hD hS hA rfl cok8 tyX8 tyX8_ok dv8 cl_X4_25 in_X8 ii_X8 (Nat.le_of_ble_eq_true rfl) (Nat.le_of_ble_eq_true rfl) dX4_init_27 (fun q5 H hP hD hS => ?_)
  refine lv_dup hx hb dX4_init_30 rfl ?_
  refine kCallN (q := q5) (As := []) (rest := [.ref q5, .ref h0]) X hP hD hS hA hAz hz2 (mc_X8 l D ac ar z) cd_X8 ii_X8 im_X8 ⟨by decide +kernel, by decide +kernel⟩ rfl pl_X8 (hK.2.1 ("StationPasses$Network", 27, "StationPasses$State") (by decide)) (Nat.le_of_ble_eq_true rfl) (Nat.le_of_ble_eq_true rfl) hl.1 rfl (Nat.le_of_ble_eq_true rfl) (Nat.le_of_ble_eq_true rfl) (Nat.le_of_ble_eq_true rfl) dX4_init_31 (fun g6 H locs hP hD hS => ?_)
  have hP : va_P D vwCl ((h0, .inr (4, [.ref q1, .ref q3, .null])) :: (((([] : va_W) ++ (wd (mkAd ar (cAd q1 g2)) ac LS_X7 Zm)) ++ (wd (mkAd ar (cAd q3 g4)) ac LS_X5 Zm)) ++ (wd (mkAd ar (cAd q5 g6)) ac LS_X8 Zm))) H := hP
  have hD : va_D (Ah h0 s.heap.size) ((h0, .inr (4, [.ref q1, .ref q3, .null])) :: (((([] : va_W) ++ (wd (mkAd ar (cAd q1 g2)) ac LS_X7 Zm)) ++ (wd (mkAd ar (cAd q3 g4)) ac LS_X5 Zm)) ++ (wd (mkAd ar (cAd q5 g6)) ac LS_X8 Zm))) := hD
  refine kPut (ty := (.object "StationPasses$State")) X hP hD hS fl_X4_28 rfl (by decide +kernel) rfl rfl rfl rfl (Nat.le_of_ble_eq_true rfl) dX4_init_34 (fun H locs hP hD hS => ?_)
  have hP : va_P D vwCl ((h0, .inr (4, [.ref q1, .ref q3, .ref q5])) :: (((([] : va_W) ++ (wd (mkAd ar (cAd q1 g2)) ac LS_X7 Zm)) ++ (wd (mkAd ar (cAd q3 g4)) ac LS_X5 Zm)) ++ (wd (mkAd ar (cAd q5 g6)) ac LS_X8 Zm))) H := hP
  have hD : va_D (Ah h0 s.heap.size) ((h0, .inr (4, [.ref q1, .ref q3, .ref q5])) :: (((([] : va_W) ++ (wd (mkAd ar (cAd q1 g2)) ac LS_X7 Zm)) ++ (wd (mkAd ar (cAd q3 g4)) ac LS_X5 Zm)) ++ (wd (mkAd ar (cAd q5 g6)) ac LS_X8 Zm))) := hD
  exact kRet X (fun k => ([q1, g2 0, g2 1, g2 2, g2 3, g2 4, g2 5, g2 6, g2 7, g2 8, g2 9, g2 10, g2 11, g2 12, g2 13, g2 14, g2 15, g2 16, q3, g4 0, g4 1, g4 2, g4 3, g4 4, g4 5, q5, g6 0, g6 1, g6 2] : List Nat).getD k 0) rfl hP hD hS dX4_init_37
