/-! helpers of the pure functions: each guard, and what it says when the whole is something -/
def FU : Nat := 100000
def mlet {α β : Type} (a : α) (f : α → β) : β := f a
theorem mlet_some {α β : Type} {a : α} {f : α → Option β} {r : β} (h : mlet a f = some r) : ∃ b, b = a ∧ f b = some r := ⟨a, rfl, h⟩
def gIn {α : Type} (i : Int32) (n : Nat) (k : Option α) : Option α := if i < 0 ∨ n ≤ i.toNatClampNeg then none else k
theorem gIn_some {α : Type} {i : Int32} {n : Nat} {k : Option α} {r : α} (h : gIn i n k = some r) : vp_in i n ∧ k = some r := by
  unfold gIn at h
  by_cases hc : i < 0 ∨ n ≤ i.toNatClampNeg
  · rw [if_pos hc] at h; cases h
  · rw [if_neg hc] at h; exact ⟨hc, h⟩
theorem gIn_ok {α : Type} {i : Int32} {n : Nat} {k : Option α} (h : vp_in i n) : gIn i n k = k := if_neg h
def gNz {α : Type} (y : Int32) (k : Option α) : Option α := if y = 0 then none else k
theorem gNz_some {α : Type} {y : Int32} {k : Option α} {r : α} (h : gNz y k = some r) : ¬ y = 0 ∧ k = some r := by
  unfold gNz at h
  by_cases hc : y = 0
  · rw [if_pos hc] at h; cases h
  · rw [if_neg hc] at h; exact ⟨hc, h⟩
theorem gNz_ok {α : Type} {y : Int32} {k : Option α} (h : ¬ y = 0) : gNz y k = k := if_neg h
def gB {α : Type} (x : Int32) (k : Option α) : Option α := if x = 0 ∨ x = 1 then k else none
theorem gB_some {α : Type} {x : Int32} {k : Option α} {r : α} (h : gB x k = some r) : narrow .boolean (.int x) = .int x ∧ k = some r := by
  unfold gB at h
  by_cases hc : x = 0 ∨ x = 1
  · rw [if_pos hc] at h
    rcases hc with rfl | rfl
    · exact ⟨rfl, h⟩
    · exact ⟨rfl, h⟩
  · rw [if_neg hc] at h; cases h
theorem gB_ok {α : Type} {x : Int32} {k : Option α} (h : x = 0 ∨ x = 1) : gB x k = k := if_pos h
def gCh {α : Type} (x : Int32) (k : Option α) : Option α := if vp_nar .char x = x then k else none
theorem gCh_some {α : Type} {x : Int32} {k : Option α} {r : α} (h : gCh x k = some r) : narrow .char (.int x) = .int x ∧ k = some r := by
  unfold gCh at h
  by_cases hc : vp_nar .char x = x
  · rw [if_pos hc] at h
    rw [vp_nar_char] at hc
    refine ⟨?_, h⟩
    show Value.int x.toUInt32.toUInt16.toUInt32.toInt32 = .int x
    rw [hc]
  · rw [if_neg hc] at h; cases h
theorem gCh_ok {α : Type} {x : Int32} {k : Option α} (h : vp_nar .char x = x) : gCh x k = k := if_pos h
def bd1 {α β : Type} (o : Option α) (k : α → Option β) : Option β := match o with
  | none => none
  | some v => k v
theorem bd1_some {α β : Type} {o : Option α} {k : α → Option β} {r : β} (h : bd1 o k = some r) : ∃ v, o = some v ∧ k v = some r := by
  cases o with
  | none => cases h
  | some v => exact ⟨v, rfl, h⟩
def bdh {β : Type} (o : Option Mm) (k : Mm → Option β) : Option β := bd1 o k
theorem bdh_some {β : Type} {o : Option Mm} {k : Mm → Option β} {r : β} (h : bdh o k = some r) : ∃ v, o = some v ∧ k v = some r := bd1_some h
def bd2 {β : Type} (o : Option (Int32 × Mm)) (k : Int32 → Mm → Option β) : Option β := match o with
  | none => none
  | some q => k q.1 q.2
theorem bd2_some {β : Type} {o : Option (Int32 × Mm)} {k : Int32 → Mm → Option β} {r : β} (h : bd2 o k = some r) : ∃ v h1, o = some (v, h1) ∧ k v h1 = some r := by
  cases o with
  | none => cases h
  | some q => exact ⟨q.1, q.2, rfl, h⟩
def gCp {α : Type} (sp dp n : Int32) (n0 n1 : Nat) (k : Option α) : Option α := if ¬ sp < 0 ∧ ¬ dp < 0 ∧ ¬ n < 0 ∧ sp.toNatClampNeg + n.toNatClampNeg ≤ n0 ∧ dp.toNatClampNeg + n.toNatClampNeg ≤ n1 then k else none
theorem gCp_some {α : Type} {sp dp n : Int32} {n0 n1 : Nat} {k : Option α} {r : α} (h : gCp sp dp n n0 n1 k = some r) : (¬ sp < 0 ∧ ¬ dp < 0 ∧ ¬ n < 0 ∧ sp.toNatClampNeg + n.toNatClampNeg ≤ n0 ∧ dp.toNatClampNeg + n.toNatClampNeg ≤ n1) ∧ k = some r := by
  unfold gCp at h
  by_cases hc : ¬ sp < 0 ∧ ¬ dp < 0 ∧ ¬ n < 0 ∧ sp.toNatClampNeg + n.toNatClampNeg ≤ n0 ∧ dp.toNatClampNeg + n.toNatClampNeg ≤ n1
  · rw [if_pos hc] at h; exact ⟨hc, h⟩
  · rw [if_neg hc] at h; cases h
theorem vp_lt {i : Int32} {n : Nat} (h : vp_in i n) : i.toNatClampNeg < n := Nat.not_le.mp fun q => h (Or.inr q)
section CALLS2
variable {p : Program} {l : Launch} {e : Env} {s : State} {m : MethodId} {args : Array Value} {below : List Frame} {meth : Method} {c : Code} {H : Heap} {locs : List Loc} {Q : State → Prop}
variable {cc : ByteArray} {nL : Nat} {own : String} {ret : Option FieldType} {D : va_G} {ad : Nat → Nat} {ac : Nat → ClassId} {L : List CD} {rl : RomL} {h h' : Mm} {pc : Nat} {ls : Array Slot} {rest st : List Value} {k ci index n d d1 : Nat} {fs : List (Option Nat)}
variable {y : MethodName} {cc1 : ByteArray} {nL1 : Nat} {ret1 : Option FieldType} {As : List Value} {v : Int32}
theorem cVi (X : Fx p s m args meth c cc nL own ret D ad ac L rl) (hH : Hp D ad ac L h s H locs) (hC : CL own index y cc1 nL1 ret1 n) (hV : CLv y) (hM : Mt l D ad ac L rl y cc1 nL1 ret1 d1 (.ref (ad k) :: As) h (some (.int v)) h') (hk : L[k]? = some (.inr (.inl (ci, fs)))) (hc : (vwCl[ci]?).map (fun q => q.1) = some y.cls) (hn : As.length = n) (hd : d1 + 1 ≤ d) (hls : ls.size = nL) (hst : st = As.reverse ++ .ref (ad k) :: rest) (hW : (rest.map fun v => v.category).sum ≤ 8) (hdg : decode cc pc = .ok (.invokevirtual index, 3))
    (kk : ∀ (H1 : Heap) (locs1 : List Loc), Hp D ad ac L h' s H1 locs1 → W p l e (rmD d) s m args below meth c H1 locs1 0 0 Q (F0 m (pc + 3) ls (.int v :: rest))) : W p l e (rmD d) s m args below meth c H locs 0 0 Q (F0 m pc ls st) := cV X hH hC hV hM hk hc hn hd hls hst hW hdg kk
theorem cVv (X : Fx p s m args meth c cc nL own ret D ad ac L rl) (hH : Hp D ad ac L h s H locs) (hC : CL own index y cc1 nL1 ret1 n) (hV : CLv y) (hM : Mt l D ad ac L rl y cc1 nL1 ret1 d1 (.ref (ad k) :: As) h none h') (hk : L[k]? = some (.inr (.inl (ci, fs)))) (hc : (vwCl[ci]?).map (fun q => q.1) = some y.cls) (hn : As.length = n) (hd : d1 + 1 ≤ d) (hls : ls.size = nL) (hst : st = As.reverse ++ .ref (ad k) :: rest) (hW : (rest.map fun v => v.category).sum ≤ 8) (hdg : decode cc pc = .ok (.invokevirtual index, 3))
    (kk : ∀ (H1 : Heap) (locs1 : List Loc), Hp D ad ac L h' s H1 locs1 → W p l e (rmD d) s m args below meth c H1 locs1 0 0 Q (F0 m (pc + 3) ls rest)) : W p l e (rmD d) s m args below meth c H locs 0 0 Q (F0 m pc ls st) := cV X hH hC hV hM hk hc hn hd hls hst hW hdg kk
theorem cSi (X : Fx p s m args meth c cc nL own ret D ad ac L rl) (hH : Hp D ad ac L h s H locs) (hC : CL own index y cc1 nL1 ret1 n) (hV : Cond.static y ∈ wg) (hM : Mt l D ad ac L rl y cc1 nL1 ret1 d1 As h (some (.int v)) h') (hn : As.length = n) (hd : d1 + 1 ≤ d) (hls : ls.size = nL) (hst : st = As.reverse ++ rest) (hW : (rest.map fun v => v.category).sum ≤ 8) (hdg : decode cc pc = .ok (.invokestatic index, 3))
    (kk : ∀ (H1 : Heap) (locs1 : List Loc), Hp D ad ac L h' s H1 locs1 → W p l e (rmD d) s m args below meth c H1 locs1 0 0 Q (F0 m (pc + 3) ls (.int v :: rest))) : W p l e (rmD d) s m args below meth c H locs 0 0 Q (F0 m pc ls st) := cS X hH hC hV hM hn hd hls hst hW hdg kk
theorem cSv (X : Fx p s m args meth c cc nL own ret D ad ac L rl) (hH : Hp D ad ac L h s H locs) (hC : CL own index y cc1 nL1 ret1 n) (hV : Cond.static y ∈ wg) (hM : Mt l D ad ac L rl y cc1 nL1 ret1 d1 As h none h') (hn : As.length = n) (hd : d1 + 1 ≤ d) (hls : ls.size = nL) (hst : st = As.reverse ++ rest) (hW : (rest.map fun v => v.category).sum ≤ 8) (hdg : decode cc pc = .ok (.invokestatic index, 3))
    (kk : ∀ (H1 : Heap) (locs1 : List Loc), Hp D ad ac L h' s H1 locs1 → W p l e (rmD d) s m args below meth c H1 locs1 0 0 Q (F0 m (pc + 3) ls rest)) : W p l e (rmD d) s m args below meth c H locs 0 0 Q (F0 m pc ls st) := cS X hH hC hV hM hn hd hls hst hW hdg kk
end CALLS2
theorem wg_m1 {w : Cond} (i : Nat) (h : tables_1_1[i]? = some w) (hg : goodWord w = true) : w ∈ wg := List.mem_filter.mpr ⟨List.mem_append_right _ (show w ∈ tables_1 from (List.mem_append_left _ (List.mem_of_getElem? h))), hg⟩
theorem wg_m2 {w : Cond} (i : Nat) (h : tables_1_2[i]? = some w) (hg : goodWord w = true) : w ∈ wg := List.mem_filter.mpr ⟨List.mem_append_right _ (show w ∈ tables_1 from (List.mem_append_right _ (List.mem_append_left _ (List.mem_of_getElem? h)))), hg⟩
theorem wg_m3 {w : Cond} (i : Nat) (h : tables_1_3[i]? = some w) (hg : goodWord w = true) : w ∈ wg := List.mem_filter.mpr ⟨List.mem_append_right _ (show w ∈ tables_1 from (List.mem_append_right _ (List.mem_append_right _ (List.mem_append_left _ (List.mem_of_getElem? h))))), hg⟩
theorem wg_m4 {w : Cond} (i : Nat) (h : tables_1_4[i]? = some w) (hg : goodWord w = true) : w ∈ wg := List.mem_filter.mpr ⟨List.mem_append_right _ (show w ∈ tables_1 from (List.mem_append_right _ (List.mem_append_right _ (List.mem_append_right _ (List.mem_append_left _ (List.mem_of_getElem? h)))))), hg⟩
theorem wg_m5 {w : Cond} (i : Nat) (h : tables_1_5[i]? = some w) (hg : goodWord w = true) : w ∈ wg := List.mem_filter.mpr ⟨List.mem_append_right _ (show w ∈ tables_1 from (List.mem_append_right _ (List.mem_append_right _ (List.mem_append_right _ (List.mem_append_right _ (List.mem_of_getElem? h)))))), hg⟩
theorem ly_0_0 : u_lay RX0 TX0 0 ∈ wg := (wg_m2 25 (by decide +kernel) rfl)
theorem ly_0_1 : u_lay RX0 TX0 1 ∈ wg := (wg_m2 27 (by decide +kernel) rfl)
theorem ly_0_2 : u_lay RX0 TX0 2 ∈ wg := (wg_m2 29 (by decide +kernel) rfl)
theorem ly_0_3 : u_lay RX0 TX0 3 ∈ wg := (wg_m2 31 (by decide +kernel) rfl)
theorem cok0 : clOk (RX0, TX0, 4) := by
  refine ⟨fun w hw => ?_, ⟨tyX0, tyX0_ok⟩, nmX0⟩
  obtain ⟨k, hk, rfl⟩ := List.mem_map.mp hw
  have hk : k < 4 := List.mem_range.mp hk
  match k, hk with
  | 0, _ => exact ly_0_0
  | 1, _ => exact ly_0_1
  | 2, _ => exact ly_0_2
  | 3, _ => exact ly_0_3
  | k + 4, h => exact absurd h (by omega)
theorem ly_1_0 : u_lay RX1 TX1 0 ∈ wg := (wg_m1 219 (by decide +kernel) rfl)
theorem ly_1_1 : u_lay RX1 TX1 1 ∈ wg := (wg_m1 221 (by decide +kernel) rfl)
theorem ly_1_2 : u_lay RX1 TX1 2 ∈ wg := (wg_m1 223 (by decide +kernel) rfl)
theorem cok1 : clOk (RX1, TX1, 3) := by
  refine ⟨fun w hw => ?_, ⟨tyX1, tyX1_ok⟩, nmX1⟩
  obtain ⟨k, hk, rfl⟩ := List.mem_map.mp hw
  have hk : k < 3 := List.mem_range.mp hk
  match k, hk with
  | 0, _ => exact ly_1_0
  | 1, _ => exact ly_1_1
  | 2, _ => exact ly_1_2
  | k + 3, h => exact absurd h (by omega)
theorem ly_2_0 : u_lay RX2 TX2 0 ∈ wg := (wg_m1 80 (by decide +kernel) rfl)
theorem ly_2_1 : u_lay RX2 TX2 1 ∈ wg := (wg_m1 82 (by decide +kernel) rfl)
theorem ly_2_2 : u_lay RX2 TX2 2 ∈ wg := (wg_m1 84 (by decide +kernel) rfl)
theorem ly_2_3 : u_lay RX2 TX2 3 ∈ wg := (wg_m1 86 (by decide +kernel) rfl)
theorem cok2 : clOk (RX2, TX2, 4) := by
  refine ⟨fun w hw => ?_, ⟨tyX2, tyX2_ok⟩, nmX2⟩
  obtain ⟨k, hk, rfl⟩ := List.mem_map.mp hw
  have hk : k < 4 := List.mem_range.mp hk
  match k, hk with
  | 0, _ => exact ly_2_0
  | 1, _ => exact ly_2_1
  | 2, _ => exact ly_2_2
  | 3, _ => exact ly_2_3
  | k + 4, h => exact absurd h (by omega)
theorem ly_3_0 : u_lay RX3 TX3 0 ∈ wg := (wg_m1 39 (by decide +kernel) rfl)
theorem ly_3_1 : u_lay RX3 TX3 1 ∈ wg := (wg_m1 41 (by decide +kernel) rfl)
theorem cok3 : clOk (RX3, TX3, 2) := by
  refine ⟨fun w hw => ?_, ⟨tyX3, tyX3_ok⟩, nmX3⟩
  obtain ⟨k, hk, rfl⟩ := List.mem_map.mp hw
  have hk : k < 2 := List.mem_range.mp hk
  match k, hk with
  | 0, _ => exact ly_3_0
  | 1, _ => exact ly_3_1
  | k + 2, h => exact absurd h (by omega)
theorem ly_4_0 : u_lay RX4 TX4 0 ∈ wg := (wg_m1 199 (by decide +kernel) rfl)
theorem ly_4_1 : u_lay RX4 TX4 1 ∈ wg := (wg_m1 201 (by decide +kernel) rfl)
theorem ly_4_2 : u_lay RX4 TX4 2 ∈ wg := (wg_m1 203 (by decide +kernel) rfl)
theorem cok4 : clOk (RX4, TX4, 3) := by
  refine ⟨fun w hw => ?_, ⟨tyX4, tyX4_ok⟩, nmX4⟩
  obtain ⟨k, hk, rfl⟩ := List.mem_map.mp hw
  have hk : k < 3 := List.mem_range.mp hk
  match k, hk with
  | 0, _ => exact ly_4_0
  | 1, _ => exact ly_4_1
  | 2, _ => exact ly_4_2
  | k + 3, h => exact absurd h (by omega)
theorem ly_5_0 : u_lay RX5 TX5 0 ∈ wg := (wg_m1 149 (by decide +kernel) rfl)
theorem ly_5_1 : u_lay RX5 TX5 1 ∈ wg := (wg_m1 151 (by decide +kernel) rfl)
theorem ly_5_2 : u_lay RX5 TX5 2 ∈ wg := (wg_m1 153 (by decide +kernel) rfl)
theorem ly_5_3 : u_lay RX5 TX5 3 ∈ wg := (wg_m1 155 (by decide +kernel) rfl)
theorem ly_5_4 : u_lay RX5 TX5 4 ∈ wg := (wg_m1 157 (by decide +kernel) rfl)
theorem ly_5_5 : u_lay RX5 TX5 5 ∈ wg := (wg_m1 159 (by decide +kernel) rfl)
theorem ly_5_6 : u_lay RX5 TX5 6 ∈ wg := (wg_m1 161 (by decide +kernel) rfl)
theorem cok5 : clOk (RX5, TX5, 7) := by
  refine ⟨fun w hw => ?_, ⟨tyX5, tyX5_ok⟩, nmX5⟩
  obtain ⟨k, hk, rfl⟩ := List.mem_map.mp hw
  have hk : k < 7 := List.mem_range.mp hk
  match k, hk with
  | 0, _ => exact ly_5_0
  | 1, _ => exact ly_5_1
  | 2, _ => exact ly_5_2
  | 3, _ => exact ly_5_3
  | 4, _ => exact ly_5_4
  | 5, _ => exact ly_5_5
  | 6, _ => exact ly_5_6
  | k + 7, h => exact absurd h (by omega)
theorem ly_6_0 : u_lay RX6 TX6 0 ∈ wg := (wg_m2 60 (by decide +kernel) rfl)
theorem ly_6_1 : u_lay RX6 TX6 1 ∈ wg := (wg_m2 62 (by decide +kernel) rfl)
theorem ly_6_2 : u_lay RX6 TX6 2 ∈ wg := (wg_m2 64 (by decide +kernel) rfl)
theorem ly_6_3 : u_lay RX6 TX6 3 ∈ wg := (wg_m2 66 (by decide +kernel) rfl)
theorem ly_6_4 : u_lay RX6 TX6 4 ∈ wg := (wg_m2 68 (by decide +kernel) rfl)
theorem ly_6_5 : u_lay RX6 TX6 5 ∈ wg := (wg_m2 70 (by decide +kernel) rfl)
theorem ly_6_6 : u_lay RX6 TX6 6 ∈ wg := (wg_m2 72 (by decide +kernel) rfl)
theorem ly_6_7 : u_lay RX6 TX6 7 ∈ wg := (wg_m2 74 (by decide +kernel) rfl)
theorem ly_6_8 : u_lay RX6 TX6 8 ∈ wg := (wg_m2 76 (by decide +kernel) rfl)
theorem ly_6_9 : u_lay RX6 TX6 9 ∈ wg := (wg_m2 78 (by decide +kernel) rfl)
theorem ly_6_10 : u_lay RX6 TX6 10 ∈ wg := (wg_m2 80 (by decide +kernel) rfl)
theorem ly_6_11 : u_lay RX6 TX6 11 ∈ wg := (wg_m2 82 (by decide +kernel) rfl)
theorem ly_6_12 : u_lay RX6 TX6 12 ∈ wg := (wg_m2 84 (by decide +kernel) rfl)
theorem ly_6_13 : u_lay RX6 TX6 13 ∈ wg := (wg_m2 86 (by decide +kernel) rfl)
theorem ly_6_14 : u_lay RX6 TX6 14 ∈ wg := (wg_m2 88 (by decide +kernel) rfl)
theorem ly_6_15 : u_lay RX6 TX6 15 ∈ wg := (wg_m2 90 (by decide +kernel) rfl)
theorem ly_6_16 : u_lay RX6 TX6 16 ∈ wg := (wg_m2 92 (by decide +kernel) rfl)
theorem cok6 : clOk (RX6, TX6, 17) := by
  refine ⟨fun w hw => ?_, ⟨tyX6, tyX6_ok⟩, nmX6⟩
  obtain ⟨k, hk, rfl⟩ := List.mem_map.mp hw
  have hk : k < 17 := List.mem_range.mp hk
  match k, hk with
  | 0, _ => exact ly_6_0
  | 1, _ => exact ly_6_1
  | 2, _ => exact ly_6_2
  | 3, _ => exact ly_6_3
  | 4, _ => exact ly_6_4
  | 5, _ => exact ly_6_5
  | 6, _ => exact ly_6_6
  | 7, _ => exact ly_6_7
  | 8, _ => exact ly_6_8
  | 9, _ => exact ly_6_9
  | 10, _ => exact ly_6_10
  | 11, _ => exact ly_6_11
  | 12, _ => exact ly_6_12
  | 13, _ => exact ly_6_13
  | 14, _ => exact ly_6_14
  | 15, _ => exact ly_6_15
  | 16, _ => exact ly_6_16
  | k + 17, h => exact absurd h (by omega)
theorem ly_7_0 : u_lay RX7 TX7 0 ∈ wg := (wg_m1 110 (by decide +kernel) rfl)
theorem ly_7_1 : u_lay RX7 TX7 1 ∈ wg := (wg_m1 112 (by decide +kernel) rfl)
theorem ly_7_2 : u_lay RX7 TX7 2 ∈ wg := (wg_m1 114 (by decide +kernel) rfl)
theorem cok7 : clOk (RX7, TX7, 3) := by
  refine ⟨fun w hw => ?_, ⟨tyX7, tyX7_ok⟩, nmX7⟩
  obtain ⟨k, hk, rfl⟩ := List.mem_map.mp hw
  have hk : k < 3 := List.mem_range.mp hk
  match k, hk with
  | 0, _ => exact ly_7_0
  | 1, _ => exact ly_7_1
  | 2, _ => exact ly_7_2
  | k + 3, h => exact absurd h (by omega)
theorem ly_8_0 : u_lay RX8 TX8 0 ∈ wg := (wg_m1 180 (by decide +kernel) rfl)
theorem ly_8_1 : u_lay RX8 TX8 1 ∈ wg := (wg_m1 182 (by decide +kernel) rfl)
theorem ly_8_2 : u_lay RX8 TX8 2 ∈ wg := (wg_m1 184 (by decide +kernel) rfl)
theorem cok8 : clOk (RX8, TX8, 3) := by
  refine ⟨fun w hw => ?_, ⟨tyX8, tyX8_ok⟩, nmX8⟩
  obtain ⟨k, hk, rfl⟩ := List.mem_map.mp hw
  have hk : k < 3 := List.mem_range.mp hk
  match k, hk with
  | 0, _ => exact ly_8_0
  | 1, _ => exact ly_8_1
  | 2, _ => exact ly_8_2
  | k + 3, h => exact absurd h (by omega)
theorem ly_9_0 : u_lay RX9 TX9 0 ∈ wg := (wg_m2 2 (by decide +kernel) rfl)
theorem ly_9_1 : u_lay RX9 TX9 1 ∈ wg := (wg_m2 4 (by decide +kernel) rfl)
theorem ly_9_2 : u_lay RX9 TX9 2 ∈ wg := (wg_m2 6 (by decide +kernel) rfl)
theorem ly_9_3 : u_lay RX9 TX9 3 ∈ wg := (wg_m2 8 (by decide +kernel) rfl)
theorem ly_9_4 : u_lay RX9 TX9 4 ∈ wg := (wg_m2 10 (by decide +kernel) rfl)
theorem cok9 : clOk (RX9, TX9, 5) := by
  refine ⟨fun w hw => ?_, ⟨tyX9, tyX9_ok⟩, nmX9⟩
  obtain ⟨k, hk, rfl⟩ := List.mem_map.mp hw
  have hk : k < 5 := List.mem_range.mp hk
  match k, hk with
  | 0, _ => exact ly_9_0
  | 1, _ => exact ly_9_1
  | 2, _ => exact ly_9_2
  | 3, _ => exact ly_9_3
  | 4, _ => exact ly_9_4
  | k + 5, h => exact absurd h (by omega)
theorem ly_10_0 : u_lay RX10 TX10 0 ∈ wg := (wg_m3 14 (by decide +kernel) rfl)
theorem ly_10_1 : u_lay RX10 TX10 1 ∈ wg := (wg_m3 16 (by decide +kernel) rfl)
theorem ly_10_2 : u_lay RX10 TX10 2 ∈ wg := (wg_m3 18 (by decide +kernel) rfl)
theorem ly_10_3 : u_lay RX10 TX10 3 ∈ wg := (wg_m3 20 (by decide +kernel) rfl)
theorem ly_10_4 : u_lay RX10 TX10 4 ∈ wg := (wg_m3 22 (by decide +kernel) rfl)
theorem ly_10_5 : u_lay RX10 TX10 5 ∈ wg := (wg_m3 24 (by decide +kernel) rfl)
theorem ly_10_6 : u_lay RX10 TX10 6 ∈ wg := (wg_m3 26 (by decide +kernel) rfl)
theorem cok10 : clOk (RX10, TX10, 7) := by
  refine ⟨fun w hw => ?_, ⟨tyX10, tyX10_ok⟩, nmX10⟩
  obtain ⟨k, hk, rfl⟩ := List.mem_map.mp hw
  have hk : k < 7 := List.mem_range.mp hk
  match k, hk with
  | 0, _ => exact ly_10_0
  | 1, _ => exact ly_10_1
  | 2, _ => exact ly_10_2
  | 3, _ => exact ly_10_3
  | 4, _ => exact ly_10_4
  | 5, _ => exact ly_10_5
  | 6, _ => exact ly_10_6
  | k + 7, h => exact absurd h (by omega)
theorem ly_11_0 : u_lay RX11 TX11 0 ∈ wg := (wg_m4 152 (by decide +kernel) rfl)
theorem ly_11_1 : u_lay RX11 TX11 1 ∈ wg := (wg_m4 154 (by decide +kernel) rfl)
theorem ly_11_2 : u_lay RX11 TX11 2 ∈ wg := (wg_m4 156 (by decide +kernel) rfl)
theorem ly_11_3 : u_lay RX11 TX11 3 ∈ wg := (wg_m4 158 (by decide +kernel) rfl)
theorem ly_11_4 : u_lay RX11 TX11 4 ∈ wg := (wg_m4 160 (by decide +kernel) rfl)
theorem ly_11_5 : u_lay RX11 TX11 5 ∈ wg := (wg_m4 162 (by decide +kernel) rfl)
theorem ly_11_6 : u_lay RX11 TX11 6 ∈ wg := (wg_m4 164 (by decide +kernel) rfl)
theorem ly_11_7 : u_lay RX11 TX11 7 ∈ wg := (wg_m4 166 (by decide +kernel) rfl)
theorem ly_11_8 : u_lay RX11 TX11 8 ∈ wg := (wg_m4 168 (by decide +kernel) rfl)
theorem ly_11_9 : u_lay RX11 TX11 9 ∈ wg := (wg_m4 170 (by decide +kernel) rfl)
theorem ly_11_10 : u_lay RX11 TX11 10 ∈ wg := (wg_m4 172 (by decide +kernel) rfl)
theorem ly_11_11 : u_lay RX11 TX11 11 ∈ wg := (wg_m4 174 (by decide +kernel) rfl)
theorem ly_11_12 : u_lay RX11 TX11 12 ∈ wg := (wg_m4 176 (by decide +kernel) rfl)
theorem ly_11_13 : u_lay RX11 TX11 13 ∈ wg := (wg_m4 178 (by decide +kernel) rfl)
theorem ly_11_14 : u_lay RX11 TX11 14 ∈ wg := (wg_m4 180 (by decide +kernel) rfl)
theorem ly_11_15 : u_lay RX11 TX11 15 ∈ wg := (wg_m4 182 (by decide +kernel) rfl)
theorem ly_11_16 : u_lay RX11 TX11 16 ∈ wg := (wg_m4 184 (by decide +kernel) rfl)
theorem ly_11_17 : u_lay RX11 TX11 17 ∈ wg := (wg_m4 186 (by decide +kernel) rfl)
theorem ly_11_18 : u_lay RX11 TX11 18 ∈ wg := (wg_m4 188 (by decide +kernel) rfl)
theorem ly_11_19 : u_lay RX11 TX11 19 ∈ wg := (wg_m4 190 (by decide +kernel) rfl)
theorem ly_11_20 : u_lay RX11 TX11 20 ∈ wg := (wg_m4 192 (by decide +kernel) rfl)
theorem ly_11_21 : u_lay RX11 TX11 21 ∈ wg := (wg_m4 194 (by decide +kernel) rfl)
theorem ly_11_22 : u_lay RX11 TX11 22 ∈ wg := (wg_m4 196 (by decide +kernel) rfl)
theorem ly_11_23 : u_lay RX11 TX11 23 ∈ wg := (wg_m4 198 (by decide +kernel) rfl)
theorem ly_11_24 : u_lay RX11 TX11 24 ∈ wg := (wg_m4 200 (by decide +kernel) rfl)
theorem ly_11_25 : u_lay RX11 TX11 25 ∈ wg := (wg_m4 202 (by decide +kernel) rfl)
theorem ly_11_26 : u_lay RX11 TX11 26 ∈ wg := (wg_m4 204 (by decide +kernel) rfl)
theorem ly_11_27 : u_lay RX11 TX11 27 ∈ wg := (wg_m4 206 (by decide +kernel) rfl)
theorem cok11 : clOk (RX11, TX11, 28) := by
  refine ⟨fun w hw => ?_, ⟨tyX11, tyX11_ok⟩, nmX11⟩
  obtain ⟨k, hk, rfl⟩ := List.mem_map.mp hw
  have hk : k < 28 := List.mem_range.mp hk
  match k, hk with
  | 0, _ => exact ly_11_0
  | 1, _ => exact ly_11_1
  | 2, _ => exact ly_11_2
  | 3, _ => exact ly_11_3
  | 4, _ => exact ly_11_4
  | 5, _ => exact ly_11_5
  | 6, _ => exact ly_11_6
  | 7, _ => exact ly_11_7
  | 8, _ => exact ly_11_8
  | 9, _ => exact ly_11_9
  | 10, _ => exact ly_11_10
  | 11, _ => exact ly_11_11
  | 12, _ => exact ly_11_12
  | 13, _ => exact ly_11_13
  | 14, _ => exact ly_11_14
  | 15, _ => exact ly_11_15
  | 16, _ => exact ly_11_16
  | 17, _ => exact ly_11_17
  | 18, _ => exact ly_11_18
  | 19, _ => exact ly_11_19
  | 20, _ => exact ly_11_20
  | 21, _ => exact ly_11_21
  | 22, _ => exact ly_11_22
  | 23, _ => exact ly_11_23
  | 24, _ => exact ly_11_24
  | 25, _ => exact ly_11_25
  | 26, _ => exact ly_11_26
  | 27, _ => exact ly_11_27
  | k + 28, h => exact absurd h (by omega)
def LC : List CD := [.inr (.inl (10, [some 1, some 3, some 66, some 15, some 17, some 22, some 48])), .inr (.inl (3, [some 2, none])), .inl (1, 200), .inr (.inl (4, [some 30, some 4, some 11])), .inr (.inl (5, [some 5, some 6, some 7, some 8, some 9, some 10, none])), .inl (0, 24), .inl (0, 24), .inl (0, 24), .inl (0, 24), .inl (0, 24), .inl (0, 24), .inr (.inl (8, [some 12, some 13, some 14])), .inl (0, 24), .inl (0, 4), .inl (0, 4), .inr (.inl (9, [some 16, none, none, none, none])), .inl (0, 60), .inr (.inl (0, [some 18, some 19, some 20, some 21])), .inl (0, 25), .inl (0, 25), .inl (0, 25), .inl (0, 25), .inr (.inl (6, [some 23, some 24, some 25, some 26, some 27, some 28, none, none, none, none, none, none, none, none, some 29, none, none])), .inl (0, 6), .inl (0, 36), .inl (0, 6), .inl (0, 128), .inl (0, 64), .inl (0, 6), .inl (0, 6), .inr (.inl (7, [some 31, some 37, some 42])), .inr (.inl (2, [some 1000, some 1001, some 32, none])), .inr (.inr (3, [33, 34, 35, 36])), .inl (0, 5), .inl (0, 5), .inl (0, 5), .inl (0, 5), .inr (.inl (2, [some 1002, some 1003, some 38, none])), .inr (.inr (3, [39, 40, 41])), .inl (0, 2), .inl (0, 2), .inl (0, 2), .inr (.inl (2, [some 1004, some 1005, some 43, none])), .inr (.inr (3, [44, 45, 46, 47])), .inl (0, 3), .inl (0, 3), .inl (0, 3), .inl (0, 3), .inr (.inl (7, [some 49, some 55, some 60])), .inr (.inl (2, [some 1000, some 1001, some 50, none])), .inr (.inr (3, [51, 52, 53, 54])), .inl (0, 5), .inl (0, 5), .inl (0, 5), .inl (0, 5), .inr (.inl (2, [some 1002, some 1003, some 56, none])), .inr (.inr (3, [57, 58, 59])), .inl (0, 2), .inl (0, 2), .inl (0, 2), .inr (.inl (2, [some 1004, some 1005, some 61, none])), .inr (.inr (3, [62, 63, 64, 65])), .inl (0, 3), .inl (0, 3), .inl (0, 3), .inl (0, 3), .inr (.inl (1, [some 67, none, none])), .inr (.inr (2, [68, 72, 76, 80, 84, 88])), .inr (.inl (8, [some 69, some 70, some 71])), .inl (0, 24), .inl (0, 4), .inl (0, 4), .inr (.inl (8, [some 73, some 74, some 75])), .inl (0, 24), .inl (0, 4), .inl (0, 4), .inr (.inl (8, [some 77, some 78, some 79])), .inl (0, 24), .inl (0, 4), .inl (0, 4), .inr (.inl (8, [some 81, some 82, some 83])), .inl (0, 24), .inl (0, 4), .inl (0, 4), .inr (.inl (8, [some 85, some 86, some 87])), .inl (0, 24), .inl (0, 4), .inl (0, 4), .inr (.inl (8, [some 89, some 90, some 91])), .inl (0, 24), .inl (0, 4), .inl (0, 4)]
theorem lC_0 : LC[0]? = some (.inr (.inl (10, [some 1, some 3, some 66, some 15, some 17, some 22, some 48]))) := rfl
theorem lC_1 : LC[1]? = some (.inr (.inl (3, [some 2, none]))) := rfl
theorem lC_2 : LC[2]? = some (.inl (1, 200)) := rfl
theorem lC_3 : LC[3]? = some (.inr (.inl (4, [some 30, some 4, some 11]))) := rfl
theorem lC_4 : LC[4]? = some (.inr (.inl (5, [some 5, some 6, some 7, some 8, some 9, some 10, none]))) := rfl
theorem lC_5 : LC[5]? = some (.inl (0, 24)) := rfl
theorem lC_6 : LC[6]? = some (.inl (0, 24)) := rfl
theorem lC_7 : LC[7]? = some (.inl (0, 24)) := rfl
theorem lC_8 : LC[8]? = some (.inl (0, 24)) := rfl
theorem lC_9 : LC[9]? = some (.inl (0, 24)) := rfl
theorem lC_10 : LC[10]? = some (.inl (0, 24)) := rfl
theorem lC_11 : LC[11]? = some (.inr (.inl (8, [some 12, some 13, some 14]))) := rfl
theorem lC_12 : LC[12]? = some (.inl (0, 24)) := rfl
theorem lC_13 : LC[13]? = some (.inl (0, 4)) := rfl
theorem lC_14 : LC[14]? = some (.inl (0, 4)) := rfl
theorem lC_15 : LC[15]? = some (.inr (.inl (9, [some 16, none, none, none, none]))) := rfl
theorem lC_16 : LC[16]? = some (.inl (0, 60)) := rfl
theorem lC_17 : LC[17]? = some (.inr (.inl (0, [some 18, some 19, some 20, some 21]))) := rfl
theorem lC_18 : LC[18]? = some (.inl (0, 25)) := rfl
theorem lC_19 : LC[19]? = some (.inl (0, 25)) := rfl
theorem lC_20 : LC[20]? = some (.inl (0, 25)) := rfl
theorem lC_21 : LC[21]? = some (.inl (0, 25)) := rfl
theorem lC_22 : LC[22]? = some (.inr (.inl (6, [some 23, some 24, some 25, some 26, some 27, some 28, none, none, none, none, none, none, none, none, some 29, none, none]))) := rfl
theorem lC_23 : LC[23]? = some (.inl (0, 6)) := rfl
theorem lC_24 : LC[24]? = some (.inl (0, 36)) := rfl
theorem lC_25 : LC[25]? = some (.inl (0, 6)) := rfl
theorem lC_26 : LC[26]? = some (.inl (0, 128)) := rfl
theorem lC_27 : LC[27]? = some (.inl (0, 64)) := rfl
theorem lC_28 : LC[28]? = some (.inl (0, 6)) := rfl
theorem lC_29 : LC[29]? = some (.inl (0, 6)) := rfl
theorem lC_30 : LC[30]? = some (.inr (.inl (7, [some 31, some 37, some 42]))) := rfl
theorem lC_31 : LC[31]? = some (.inr (.inl (2, [some 1000, some 1001, some 32, none]))) := rfl
theorem lC_32 : LC[32]? = some (.inr (.inr (3, [33, 34, 35, 36]))) := rfl
theorem lC_33 : LC[33]? = some (.inl (0, 5)) := rfl
theorem lC_34 : LC[34]? = some (.inl (0, 5)) := rfl
theorem lC_35 : LC[35]? = some (.inl (0, 5)) := rfl
theorem lC_36 : LC[36]? = some (.inl (0, 5)) := rfl
theorem lC_37 : LC[37]? = some (.inr (.inl (2, [some 1002, some 1003, some 38, none]))) := rfl
theorem lC_38 : LC[38]? = some (.inr (.inr (3, [39, 40, 41]))) := rfl
theorem lC_39 : LC[39]? = some (.inl (0, 2)) := rfl
theorem lC_40 : LC[40]? = some (.inl (0, 2)) := rfl
theorem lC_41 : LC[41]? = some (.inl (0, 2)) := rfl
theorem lC_42 : LC[42]? = some (.inr (.inl (2, [some 1004, some 1005, some 43, none]))) := rfl
theorem lC_43 : LC[43]? = some (.inr (.inr (3, [44, 45, 46, 47]))) := rfl
theorem lC_44 : LC[44]? = some (.inl (0, 3)) := rfl
theorem lC_45 : LC[45]? = some (.inl (0, 3)) := rfl
theorem lC_46 : LC[46]? = some (.inl (0, 3)) := rfl
theorem lC_47 : LC[47]? = some (.inl (0, 3)) := rfl
theorem lC_48 : LC[48]? = some (.inr (.inl (7, [some 49, some 55, some 60]))) := rfl
theorem lC_49 : LC[49]? = some (.inr (.inl (2, [some 1000, some 1001, some 50, none]))) := rfl
theorem lC_50 : LC[50]? = some (.inr (.inr (3, [51, 52, 53, 54]))) := rfl
theorem lC_51 : LC[51]? = some (.inl (0, 5)) := rfl
theorem lC_52 : LC[52]? = some (.inl (0, 5)) := rfl
theorem lC_53 : LC[53]? = some (.inl (0, 5)) := rfl
theorem lC_54 : LC[54]? = some (.inl (0, 5)) := rfl
theorem lC_55 : LC[55]? = some (.inr (.inl (2, [some 1002, some 1003, some 56, none]))) := rfl
theorem lC_56 : LC[56]? = some (.inr (.inr (3, [57, 58, 59]))) := rfl
theorem lC_57 : LC[57]? = some (.inl (0, 2)) := rfl
theorem lC_58 : LC[58]? = some (.inl (0, 2)) := rfl
theorem lC_59 : LC[59]? = some (.inl (0, 2)) := rfl
theorem lC_60 : LC[60]? = some (.inr (.inl (2, [some 1004, some 1005, some 61, none]))) := rfl
theorem lC_61 : LC[61]? = some (.inr (.inr (3, [62, 63, 64, 65]))) := rfl
theorem lC_62 : LC[62]? = some (.inl (0, 3)) := rfl
theorem lC_63 : LC[63]? = some (.inl (0, 3)) := rfl
theorem lC_64 : LC[64]? = some (.inl (0, 3)) := rfl
theorem lC_65 : LC[65]? = some (.inl (0, 3)) := rfl
theorem lC_66 : LC[66]? = some (.inr (.inl (1, [some 67, none, none]))) := rfl
theorem lC_67 : LC[67]? = some (.inr (.inr (2, [68, 72, 76, 80, 84, 88]))) := rfl
theorem lC_68 : LC[68]? = some (.inr (.inl (8, [some 69, some 70, some 71]))) := rfl
theorem lC_69 : LC[69]? = some (.inl (0, 24)) := rfl
theorem lC_70 : LC[70]? = some (.inl (0, 4)) := rfl
theorem lC_71 : LC[71]? = some (.inl (0, 4)) := rfl
theorem lC_72 : LC[72]? = some (.inr (.inl (8, [some 73, some 74, some 75]))) := rfl
theorem lC_73 : LC[73]? = some (.inl (0, 24)) := rfl
theorem lC_74 : LC[74]? = some (.inl (0, 4)) := rfl
theorem lC_75 : LC[75]? = some (.inl (0, 4)) := rfl
theorem lC_76 : LC[76]? = some (.inr (.inl (8, [some 77, some 78, some 79]))) := rfl
theorem lC_77 : LC[77]? = some (.inl (0, 24)) := rfl
theorem lC_78 : LC[78]? = some (.inl (0, 4)) := rfl
theorem lC_79 : LC[79]? = some (.inl (0, 4)) := rfl
theorem lC_80 : LC[80]? = some (.inr (.inl (8, [some 81, some 82, some 83]))) := rfl
theorem lC_81 : LC[81]? = some (.inl (0, 24)) := rfl
theorem lC_82 : LC[82]? = some (.inl (0, 4)) := rfl
theorem lC_83 : LC[83]? = some (.inl (0, 4)) := rfl
theorem lC_84 : LC[84]? = some (.inr (.inl (8, [some 85, some 86, some 87]))) := rfl
theorem lC_85 : LC[85]? = some (.inl (0, 24)) := rfl
theorem lC_86 : LC[86]? = some (.inl (0, 4)) := rfl
theorem lC_87 : LC[87]? = some (.inl (0, 4)) := rfl
theorem lC_88 : LC[88]? = some (.inr (.inl (8, [some 89, some 90, some 91]))) := rfl
theorem lC_89 : LC[89]? = some (.inl (0, 24)) := rfl
theorem lC_90 : LC[90]? = some (.inl (0, 4)) := rfl
theorem lC_91 : LC[91]? = some (.inl (0, 4)) := rfl
def LM : List CD := [.inr (.inl (11, [none, some 1, none, some 2, some 3, some 4, some 5, some 6, some 7, some 8, some 9, some 10, some 11, some 12, some 13, some 14, none, some 15, some 16, none, some 17, some 18, some 19, some 20, some 21, some 22, some 23, some 24])), .inl (0, 200), .inl (0, 20), .inl (0, 6), .inl (0, 12), .inl (0, 3), .inl (0, 20), .inl (0, 6), .inl (0, 12), .inl (0, 3), .inl (0, 24), .inl (0, 24), .inl (0, 24), .inl (0, 24), .inl (0, 24), .inl (0, 32), .inl (0, 192), .inl (0, 25), .inl (0, 25), .inl (0, 25), .inl (0, 24), .inl (0, 6), .inl (0, 4), .inl (0, 4), .inl (0, 240)]
theorem lM_0 : LM[0]? = some (.inr (.inl (11, [none, some 1, none, some 2, some 3, some 4, some 5, some 6, some 7, some 8, some 9, some 10, some 11, some 12, some 13, some 14, none, some 15, some 16, none, some 17, some 18, some 19, some 20, some 21, some 22, some 23, some 24]))) := rfl
theorem lM_1 : LM[1]? = some (.inl (0, 200)) := rfl
theorem lM_2 : LM[2]? = some (.inl (0, 20)) := rfl
theorem lM_3 : LM[3]? = some (.inl (0, 6)) := rfl
theorem lM_4 : LM[4]? = some (.inl (0, 12)) := rfl
theorem lM_5 : LM[5]? = some (.inl (0, 3)) := rfl
theorem lM_6 : LM[6]? = some (.inl (0, 20)) := rfl
theorem lM_7 : LM[7]? = some (.inl (0, 6)) := rfl
theorem lM_8 : LM[8]? = some (.inl (0, 12)) := rfl
theorem lM_9 : LM[9]? = some (.inl (0, 3)) := rfl
theorem lM_10 : LM[10]? = some (.inl (0, 24)) := rfl
theorem lM_11 : LM[11]? = some (.inl (0, 24)) := rfl
theorem lM_12 : LM[12]? = some (.inl (0, 24)) := rfl
theorem lM_13 : LM[13]? = some (.inl (0, 24)) := rfl
theorem lM_14 : LM[14]? = some (.inl (0, 24)) := rfl
theorem lM_15 : LM[15]? = some (.inl (0, 32)) := rfl
theorem lM_16 : LM[16]? = some (.inl (0, 192)) := rfl
theorem lM_17 : LM[17]? = some (.inl (0, 25)) := rfl
theorem lM_18 : LM[18]? = some (.inl (0, 25)) := rfl
theorem lM_19 : LM[19]? = some (.inl (0, 25)) := rfl
theorem lM_20 : LM[20]? = some (.inl (0, 24)) := rfl
theorem lM_21 : LM[21]? = some (.inl (0, 6)) := rfl
theorem lM_22 : LM[22]? = some (.inl (0, 4)) := rfl
theorem lM_23 : LM[23]? = some (.inl (0, 4)) := rfl
theorem lM_24 : LM[24]? = some (.inl (0, 240)) := rfl
theorem gk_32 {i : Int32} (h : vp_in i 4) : ([33, 34, 35, 36] : List Nat)[i.toNatClampNeg]? = some (33 + i.toNatClampNeg) := by
  have hl := vp_lt h
  generalize i.toNatClampNeg = j at hl ⊢
  match j, hl with
  | 0, _ => rfl
  | 1, _ => rfl
  | 2, _ => rfl
  | 3, _ => rfl
  | q + 4, hl => exact absurd hl (by omega)
theorem gl_32 {j : Nat} (hl : j < 4) : LC[33 + j]? = some (.inl (0, 5)) := by
  match j, hl with
  | 0, _ => rfl
  | 1, _ => rfl
  | 2, _ => rfl
  | 3, _ => rfl
  | q + 4, hl => exact absurd hl (by omega)
theorem gk_38 {i : Int32} (h : vp_in i 3) : ([39, 40, 41] : List Nat)[i.toNatClampNeg]? = some (39 + i.toNatClampNeg) := by
  have hl := vp_lt h
  generalize i.toNatClampNeg = j at hl ⊢
  match j, hl with
  | 0, _ => rfl
  | 1, _ => rfl
  | 2, _ => rfl
  | q + 3, hl => exact absurd hl (by omega)
theorem gl_38 {j : Nat} (hl : j < 3) : LC[39 + j]? = some (.inl (0, 2)) := by
  match j, hl with
  | 0, _ => rfl
  | 1, _ => rfl
  | 2, _ => rfl
  | q + 3, hl => exact absurd hl (by omega)
theorem gk_43 {i : Int32} (h : vp_in i 4) : ([44, 45, 46, 47] : List Nat)[i.toNatClampNeg]? = some (44 + i.toNatClampNeg) := by
  have hl := vp_lt h
  generalize i.toNatClampNeg = j at hl ⊢
  match j, hl with
  | 0, _ => rfl
  | 1, _ => rfl
  | 2, _ => rfl
  | 3, _ => rfl
  | q + 4, hl => exact absurd hl (by omega)
theorem gl_43 {j : Nat} (hl : j < 4) : LC[44 + j]? = some (.inl (0, 3)) := by
  match j, hl with
  | 0, _ => rfl
  | 1, _ => rfl
  | 2, _ => rfl
  | 3, _ => rfl
  | q + 4, hl => exact absurd hl (by omega)
theorem gk_50 {i : Int32} (h : vp_in i 4) : ([51, 52, 53, 54] : List Nat)[i.toNatClampNeg]? = some (51 + i.toNatClampNeg) := by
  have hl := vp_lt h
  generalize i.toNatClampNeg = j at hl ⊢
  match j, hl with
  | 0, _ => rfl
  | 1, _ => rfl
  | 2, _ => rfl
  | 3, _ => rfl
  | q + 4, hl => exact absurd hl (by omega)
theorem gl_50 {j : Nat} (hl : j < 4) : LC[51 + j]? = some (.inl (0, 5)) := by
  match j, hl with
  | 0, _ => rfl
  | 1, _ => rfl
  | 2, _ => rfl
  | 3, _ => rfl
  | q + 4, hl => exact absurd hl (by omega)
theorem gk_56 {i : Int32} (h : vp_in i 3) : ([57, 58, 59] : List Nat)[i.toNatClampNeg]? = some (57 + i.toNatClampNeg) := by
  have hl := vp_lt h
  generalize i.toNatClampNeg = j at hl ⊢
  match j, hl with
  | 0, _ => rfl
  | 1, _ => rfl
  | 2, _ => rfl
  | q + 3, hl => exact absurd hl (by omega)
theorem gl_56 {j : Nat} (hl : j < 3) : LC[57 + j]? = some (.inl (0, 2)) := by
  match j, hl with
  | 0, _ => rfl
  | 1, _ => rfl
  | 2, _ => rfl
  | q + 3, hl => exact absurd hl (by omega)
theorem gk_61 {i : Int32} (h : vp_in i 4) : ([62, 63, 64, 65] : List Nat)[i.toNatClampNeg]? = some (62 + i.toNatClampNeg) := by
  have hl := vp_lt h
  generalize i.toNatClampNeg = j at hl ⊢
  match j, hl with
  | 0, _ => rfl
  | 1, _ => rfl
  | 2, _ => rfl
  | 3, _ => rfl
  | q + 4, hl => exact absurd hl (by omega)
theorem gl_61 {j : Nat} (hl : j < 4) : LC[62 + j]? = some (.inl (0, 3)) := by
  match j, hl with
  | 0, _ => rfl
  | 1, _ => rfl
  | 2, _ => rfl
  | 3, _ => rfl
  | q + 4, hl => exact absurd hl (by omega)
theorem gk_67 {i : Int32} (h : vp_in i 6) : ([68, 72, 76, 80, 84, 88] : List Nat)[i.toNatClampNeg]? = some (68 + 4 * i.toNatClampNeg) := by
  have hl := vp_lt h
  generalize i.toNatClampNeg = j at hl ⊢
  match j, hl with
  | 0, _ => rfl
  | 1, _ => rfl
  | 2, _ => rfl
  | 3, _ => rfl
  | 4, _ => rfl
  | 5, _ => rfl
  | q + 6, hl => exact absurd hl (by omega)
theorem gl_67_0 {j : Nat} (hl : j < 6) : LC[68 + 4 * j]? = some (.inr (.inl (8, [some (69 + 4 * j), some (70 + 4 * j), some (71 + 4 * j)]))) := by
  match j, hl with
  | 0, _ => rfl
  | 1, _ => rfl
  | 2, _ => rfl
  | 3, _ => rfl
  | 4, _ => rfl
  | 5, _ => rfl
  | q + 6, hl => exact absurd hl (by omega)
theorem gl_67_1 {j : Nat} (hl : j < 6) : LC[69 + 4 * j]? = some (.inl (0, 24)) := by
  match j, hl with
  | 0, _ => rfl
  | 1, _ => rfl
  | 2, _ => rfl
  | 3, _ => rfl
  | 4, _ => rfl
  | 5, _ => rfl
  | q + 6, hl => exact absurd hl (by omega)
theorem gl_67_2 {j : Nat} (hl : j < 6) : LC[70 + 4 * j]? = some (.inl (0, 4)) := by
  match j, hl with
  | 0, _ => rfl
  | 1, _ => rfl
  | 2, _ => rfl
  | 3, _ => rfl
  | 4, _ => rfl
  | 5, _ => rfl
  | q + 6, hl => exact absurd hl (by omega)
theorem gl_67_3 {j : Nat} (hl : j < 6) : LC[71 + 4 * j]? = some (.inl (0, 4)) := by
  match j, hl with
  | 0, _ => rfl
  | 1, _ => rfl
  | 2, _ => rfl
  | 3, _ => rfl
  | 4, _ => rfl
  | 5, _ => rfl
  | q + 6, hl => exact absurd hl (by omega)
def rom0 : Nat → Int32 := fun j => ([0, 6, 0, 1, 0] : List Int32).getD j 0
def rom1 : Nat → Int32 := fun j => ([59, 60, 1, 99, 9] : List Int32).getD j 0
def rom2 : Nat → Int32 := fun j => ([0, 1] : List Int32).getD j 0
def rom3 : Nat → Int32 := fun j => ([59, 9] : List Int32).getD j 0
def rom4 : Nat → Int32 := fun j => ([0, 0, 0] : List Int32).getD j 0
def rom5 : Nat → Int32 := fun j => ([2, 2, 5] : List Int32).getD j 0
def rlC : RomL := [(1000, 5, rom0), (1001, 5, rom1), (1002, 2, rom2), (1003, 2, rom3), (1004, 3, rom4), (1005, 3, rom5)]
theorem ac_nat : Cond.native arraycopyName ∈ wg := (wg_m3 164 (by decide +kernel) rfl)
theorem ac_stat : Cond.static arraycopyName ∈ wg := (wg_m3 163 (by decide +kernel) rfl)
theorem ac_ini : Cond.initialized "java/lang/System" ∈ wg := (wg_m1 19 (by decide +kernel) rfl)
section ACP
variable {p : Program} {l : Launch} {e : Env} {s : State} {m : MethodId} {args : Array Value} {below : List Frame} {meth : Method} {c : Code} {H : Heap} {locs : List Loc} {Q : State → Prop}
variable {cc : ByteArray} {nL : Nat} {own : String} {ret : Option FieldType} {D : va_G} {ad : Nat → Nat} {ac : Nat → ClassId} {L : List CD} {rl : RomL} {h : Mm} {pc : Nat} {ls : Array Slot} {rest : List Value} {k0 k1 n0 n1 index d : Nat}
/-- System.arraycopy between two int arrays of the world -/
theorem acp (X : Fx p s m args meth c cc nL own ret D ad ac L rl) (hH : Hp D ad ac L h s H locs) (hlink : Cond.methodLink own index arraycopyName ∈ wg) (hk0 : L[k0]? = some (.inl (0, n0))) (hk1 : L[k1]? = some (.inl (0, n1))) {sp dp n : Int32} (hg : ¬ sp < 0 ∧ ¬ dp < 0 ∧ ¬ n < 0 ∧ sp.toNatClampNeg + n.toNatClampNeg ≤ n0 ∧ dp.toNatClampNeg + n.toNatClampNeg ≤ n1) (hd : 1 ≤ d) (hls : ls.size = nL) (hW : (rest.map fun v => v.category).sum ≤ 8) (hdg : decode cc pc = .ok (.invokestatic index, 3))
    (kk : ∀ (H1 : Heap) (locs1 : List Loc), Hp D ad ac L (va_up h k1 (va_cpy (h k0) (h k1) sp.toNatClampNeg dp.toNatClampNeg n.toNatClampNeg)) s H1 locs1 → W p l e (rmD d) s m args below meth c H1 locs1 0 0 Q (F0 m (pc + 3) ls rest)) : W p l e (rmD d) s m args below meth c H locs 0 0 Q (F0 m pc ls (.int n :: .int dp :: .ref (ad k1) :: .int sp :: .ref (ad k0) :: rest)) := by
  obtain ⟨h1, h2, h3, h4, h5⟩ := hg
  have hts := X.2.2.2.2.1
  have hN : nativeFrameWords "java/lang/System" "arraycopy" 5 ≤ 20 := by decide
  refine va_copyi (D := D) X.1 X.2.1 (X.2.2.1.trans hls.symm) X.2.2.2.1 (hts _ hlink) (hts _ ac_nat) (hts _ ac_stat) (hts _ ac_ini) X.2.2.2.2.2.2.2.1.1 hH.1 (hpD X) hH.2 k0 k1 0 0 (wd_at hk0) (wd_at hk1) rfl rfl rfl h1 h2 h3 h4 h5 (fun _ _ => rfl) hd ?_ hdg (fun H1 locs1 hP _ hS => kk H1 locs1 (hpPut X hk1 rfl hP hS))
  show (rest.map fun v => v.category).sum + (nativeFrameWords "java/lang/System" "arraycopy" 5 + 11) ≤ 40 * d
  omega
end ACP
