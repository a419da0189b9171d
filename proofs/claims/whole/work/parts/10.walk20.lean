/-! X5_find -/
def mX5_find_78 (k7 : Int32 → Mm → Option Mm) (k15 : Int32 → Int32 → Mm → Option Mm) (k29 : Int32 → Int32 → Int32 → Mm → Option Mm) (x2 : Int32) (x3 : Int32) (x4 : Int32) (h : Mm) : Option Mm := k29 x2 x3 (x4 + 1) h
set_option maxRecDepth 4000 in
theorem wX5_find_78 {p : Program} {l : Launch} {e : Env} {s : State} {m : MethodId} {args : Array Value} {below : List Frame} {meth : Method} {c : Code} {D : va_G} {ad : Nat → Nat} {ac : Nat → ClassId} {L : List CD} {h' : Mm} (X : Fx p s m args meth c cX5_find 5 RX5 none D ad ac L rlC) (lk : LkC L) {k7 : Int32 → Mm → Option Mm} {k15 : Int32 → Int32 → Mm → Option Mm} {k29 : Int32 → Int32 → Int32 → Mm → Option Mm} (ih7 : ∀ (x2 : Int32) (h : Mm) (H : Heap) (locs : List Loc) (ls : Array Slot), k7 x2 h = some h' → Hp D ad ac L h s H locs → lv_has ls 5 [(0, .ref (ad 4)), (1, .ref (ad 48)), (2, .int x2)] → W p l e (rmD 3) s m args below meth c H locs 0 0 (MQ below (QU D ad ac L none h' s.heap.size) args s 0 0 (Aa ad L.length s.heap.size)) (F0 m 7 ls [])) (ih15 : ∀ (x2 : Int32) (x3 : Int32) (h : Mm) (H : Heap) (locs : List Loc) (ls : Array Slot), k15 x2 x3 h = some h' → Hp D ad ac L h s H locs → lv_has ls 5 [(0, .ref (ad 4)), (1, .ref (ad 48)), (2, .int x2), (3, .int x3)] → W p l e (rmD 3) s m args below meth c H locs 0 0 (MQ below (QU D ad ac L none h' s.heap.size) args s 0 0 (Aa ad L.length s.heap.size)) (F0 m 15 ls [])) (ih29 : ∀ (x2 : Int32) (x3 : Int32) (x4 : Int32) (h : Mm) (H : Heap) (locs : List Loc) (ls : Array Slot), k29 x2 x3 x4 h = some h' → Hp D ad ac L h s H locs → lv_has ls 5 [(0, .ref (ad 4)), (1, .ref (ad 48)), (2, .int x2), (3, .int x3), (4, .int x4)] → W p l e (rmD 3) s m args below meth c H locs 0 0 (MQ below (QU D ad ac L none h' s.heap.size) args s 0 0 (Aa ad L.length s.heap.size)) (F0 m 29 ls [])) : ∀ (x2 : Int32) (x3 : Int32) (x4 : Int32) (h : Mm) (H : Heap) (locs : List Loc) (ls : Array Slot), mX5_find_78 k7 k15 k29 x2 x3 x4 h = some h' → Hp D ad ac L h s H locs → lv_has ls 5 [(0, .ref (ad 4)), (1, .ref (ad 48)), (2, .int x2), (3, .int x3), (4, .int x4)] → W p l e (rmD 3) s m args below meth c H locs 0 0 (MQ below (QU D ad ac L none h' s.heap.size) args s 0 0 (Aa ad L.length s.heap.size)) (F0 m 78 ls []) := by
  obtain ⟨hx, hb, hml, hown, hts, hr, hlk, hC, hI, hR⟩ := id X
  intro x2 x3 x4 h H locs ls hm hH hl
  rw [mX5_find_78] at hm
  refine lv_iinc (k := 4) (v := (x4 + 1)) (lv' := [(4, .int (x4 + 1)), (0, .ref (ad 4)), (1, .ref (ad 48)), (2, .int x2), (3, .int x3)]) hx hb dX5_find_78 hl rfl rfl (by decide) rfl (fun ls hl => ?_)
  refine lv_goto hx hb dX5_find_81 (tgt := 29) (by decide) ?_
  exact ih29 x2 x3 (x4 + 1) h _ _ _ hm hH (lv_sub hl [1, 2, 3, 4, 0] rfl)
def mX5_find_69 (k7 : Int32 → Mm → Option Mm) (k15 : Int32 → Int32 → Mm → Option Mm) (k29 : Int32 → Int32 → Int32 → Mm → Option Mm) (x2 : Int32) (x3 : Int32) (x4 : Int32) (h : Mm) : Option Mm := bdh (mX5_append h x3 x4 x2) (fun h1 => mX5_find_78 k7 k15 k29 x2 x3 x4 h1)
set_option maxRecDepth 4000 in
theorem wX5_find_69 {p : Program} {l : Launch} {e : Env} {s : State} {m : MethodId} {args : Array Value} {below : List Frame} {meth : Method} {c : Code} {D : va_G} {ad : Nat → Nat} {ac : Nat → ClassId} {L : List CD} {h' : Mm} (X : Fx p s m args meth c cX5_find 5 RX5 none D ad ac L rlC) (lk : LkC L) {k7 : Int32 → Mm → Option Mm} {k15 : Int32 → Int32 → Mm → Option Mm} {k29 : Int32 → Int32 → Int32 → Mm → Option Mm} (ih7 : ∀ (x2 : Int32) (h : Mm) (H : Heap) (locs : List Loc) (ls : Array Slot), k7 x2 h = some h' → Hp D ad ac L h s H locs → lv_has ls 5 [(0, .ref (ad 4)), (1, .ref (ad 48)), (2, .int x2)] → W p l e (rmD 3) s m args below meth c H locs 0 0 (MQ below (QU D ad ac L none h' s.heap.size) args s 0 0 (Aa ad L.length s.heap.size)) (F0 m 7 ls [])) (ih15 : ∀ (x2 : Int32) (x3 : Int32) (h : Mm) (H : Heap) (locs : List Loc) (ls : Array Slot), k15 x2 x3 h = some h' → Hp D ad ac L h s H locs → lv_has ls 5 [(0, .ref (ad 4)), (1, .ref (ad 48)), (2, .int x2), (3, .int x3)] → W p l e (rmD 3) s m args below meth c H locs 0 0 (MQ below (QU D ad ac L none h' s.heap.size) args s 0 0 (Aa ad L.length s.heap.size)) (F0 m 15 ls [])) (ih29 : ∀ (x2 : Int32) (x3 : Int32) (x4 : Int32) (h : Mm) (H : Heap) (locs : List Loc) (ls : Array Slot), k29 x2 x3 x4 h = some h' → Hp D ad ac L h s H locs → lv_has ls 5 [(0, .ref (ad 4)), (1, .ref (ad 48)), (2, .int x2), (3, .int x3), (4, .int x4)] → W p l e (rmD 3) s m args below meth c H locs 0 0 (MQ below (QU D ad ac L none h' s.heap.size) args s 0 0 (Aa ad L.length s.heap.size)) (F0 m 29 ls [])) : ∀ (x2 : Int32) (x3 : Int32) (x4 : Int32) (h : Mm) (H : Heap) (locs : List Loc) (ls : Array Slot), mX5_find_69 k7 k15 k29 x2 x3 x4 h = some h' → Hp D ad ac L h s H locs → lv_has ls 5 [(0, .ref (ad 4)), (1, .ref (ad 48)), (2, .int x2), (3, .int x3), (4, .int x4)] → W p l e (rmD 3) s m args below meth c H locs 0 0 (MQ below (QU D ad ac L none h' s.heap.size) args s 0 0 (Aa ad L.length s.heap.size)) (F0 m 69 ls []) := by
  obtain ⟨hx, hb, hml, hown, hts, hr, hlk, hC, hI, hR⟩ := id X
  intro x2 x3 x4 h H locs ls hm hH hl
  rw [mX5_find_69] at hm
  refine lv_aload_n hx hb dX5_find_69 rfl (lv_at hl 0 rfl) ?_
  refine lv_aload_n hx hb dX5_find_70 rfl (lv_at hl 1 rfl) ?_
  refine lv_iload_n hx hb dX5_find_71 rfl (lv_at hl 3 rfl) ?_
  refine lv_iload hx hb dX5_find_72 (lv_at hl 4 rfl) ?_
  refine lv_iload_n hx hb dX5_find_74 rfl (lv_at hl 2 rfl) ?_
  obtain ⟨h1, hq, hm⟩ := bdh_some hm
  refine cVv X hH kl_X5_52 kv_X5_append (mt_X5_append lk hq) (lk 4 _ (by decide) (by decide) lC_4) rfl rfl (by decide) hl.1 rfl (Nat.le_of_ble_eq_true rfl) dX5_find_75 (fun H locs hH => ?_)
  exact wX5_find_78 X lk ih7 ih15 ih29 x2 x3 x4 h1 _ _ _ hm hH (lv_sub hl [0, 1, 2, 3, 4] rfl)
def mX5_find_29 (k7 : Int32 → Mm → Option Mm) (k15 : Int32 → Int32 → Mm → Option Mm) : Nat → Int32 → Int32 → Int32 → Mm → Option Mm
  | 0, _, _, _, _ => none
  | n + 1, x2, x3, x4, h => if (h 55 3) ≤ x4 then (k15 x2 (x3 + 1) h) else (bd1 (mX7_sees_48 h x3 x4 x2) (fun v1 => if v1 = 0 then (mX5_find_78 k7 k15 (mX5_find_29 k7 k15 n) x2 x3 x4 h) else (if x2 = 0 then (mX5_find_69 k7 k15 (mX5_find_29 k7 k15 n) x2 x3 x4 h) else (bd1 (mX7_sees_48 h x3 x4 (x2 - (1 : Int32))) (fun v2 => if v2 = 0 then (mX5_find_69 k7 k15 (mX5_find_29 k7 k15 n) x2 x3 x4 h) else (mX5_find_78 k7 k15 (mX5_find_29 k7 k15 n) x2 x3 x4 h))))))
set_option maxRecDepth 4000 in
theorem wX5_find_29 {p : Program} {l : Launch} {e : Env} {s : State} {m : MethodId} {args : Array Value} {below : List Frame} {meth : Method} {c : Code} {D : va_G} {ad : Nat → Nat} {ac : Nat → ClassId} {L : List CD} {h' : Mm} (X : Fx p s m args meth c cX5_find 5 RX5 none D ad ac L rlC) (lk : LkC L) {k7 : Int32 → Mm → Option Mm} {k15 : Int32 → Int32 → Mm → Option Mm} (ih7 : ∀ (x2 : Int32) (h : Mm) (H : Heap) (locs : List Loc) (ls : Array Slot), k7 x2 h = some h' → Hp D ad ac L h s H locs → lv_has ls 5 [(0, .ref (ad 4)), (1, .ref (ad 48)), (2, .int x2)] → W p l e (rmD 3) s m args below meth c H locs 0 0 (MQ below (QU D ad ac L none h' s.heap.size) args s 0 0 (Aa ad L.length s.heap.size)) (F0 m 7 ls [])) (ih15 : ∀ (x2 : Int32) (x3 : Int32) (h : Mm) (H : Heap) (locs : List Loc) (ls : Array Slot), k15 x2 x3 h = some h' → Hp D ad ac L h s H locs → lv_has ls 5 [(0, .ref (ad 4)), (1, .ref (ad 48)), (2, .int x2), (3, .int x3)] → W p l e (rmD 3) s m args below meth c H locs 0 0 (MQ below (QU D ad ac L none h' s.heap.size) args s 0 0 (Aa ad L.length s.heap.size)) (F0 m 15 ls [])) : ∀ (n : Nat) (x2 : Int32) (x3 : Int32) (x4 : Int32) (h : Mm) (H : Heap) (locs : List Loc) (ls : Array Slot), mX5_find_29 k7 k15 n x2 x3 x4 h = some h' → Hp D ad ac L h s H locs → lv_has ls 5 [(0, .ref (ad 4)), (1, .ref (ad 48)), (2, .int x2), (3, .int x3), (4, .int x4)] → W p l e (rmD 3) s m args below meth c H locs 0 0 (MQ below (QU D ad ac L none h' s.heap.size) args s 0 0 (Aa ad L.length s.heap.size)) (F0 m 29 ls []) := by
  obtain ⟨hx, hb, hml, hown, hts, hr, hlk, hC, hI, hR⟩ := id X
  intro n
  induction n with
  | zero => intro x2 x3 x4 h H locs ls hm; rw [mX5_find_29] at hm; cases hm
  | succ n ih =>
    intro x2 x3 x4 h H locs ls hm hH hl
    rw [mX5_find_29] at hm
    refine lv_iload hx hb dX5_find_29 (lv_at hl 4 rfl) ?_
    refine lv_aload_n hx hb dX5_find_31 rfl (lv_at hl 1 rfl) ?_
    refine gR X hH fl_X5_45 (lk 48 _ (by decide) (by decide) lC_48) rfl dX5_find_32 ?_
    refine gI X hH fl_X5_40 (lk 55 _ (by decide) (by decide) lC_55) rfl dX5_find_35 ?_
    refine lv_icmp_ge hx hb dX5_find_38 (tgt := 84) (by decide) (fun hc => ?_) (fun hc => ?_)
    · rw [if_pos hc] at hm
      refine lv_iinc (k := 3) (v := (x3 + 1)) (lv' := [(3, .int (x3 + 1)), (0, .ref (ad 4)), (1, .ref (ad 48)), (2, .int x2), (4, .int x4)]) hx hb dX5_find_84 hl rfl rfl (by decide) rfl (fun ls hl => ?_)
      refine lv_goto hx hb dX5_find_87 (tgt := 15) (by decide) ?_
      exact ih15 x2 (x3 + 1) h _ _ _ hm hH (lv_sub hl [1, 2, 3, 0] rfl)
    · rw [if_neg hc] at hm
      refine lv_aload_n hx hb dX5_find_41 rfl (lv_at hl 1 rfl) ?_
      refine lv_iload_n hx hb dX5_find_42 rfl (lv_at hl 3 rfl) ?_
      refine lv_iload hx hb dX5_find_43 (lv_at hl 4 rfl) ?_
      refine lv_iload_n hx hb dX5_find_45 rfl (lv_at hl 2 rfl) ?_
      obtain ⟨v1, hq, hm⟩ := bd1_some hm
      refine cVi X hH kl_X5_48 kv_X7_sees (mt_X7_sees_48 lk hq) (lk 48 _ (by decide) (by decide) lC_48) rfl rfl (by decide) hl.1 rfl (Nat.le_of_ble_eq_true rfl) dX5_find_46 (fun H locs hH => ?_)
      refine lv_if_eq hx hb dX5_find_49 (tgt := 78) (by decide) (fun hc => ?_) (fun hc => ?_)
      · rw [if_pos hc] at hm
        exact wX5_find_78 X lk ih7 ih15 ih x2 x3 x4 h _ _ _ hm hH (lv_sub hl [0, 1, 2, 3, 4] rfl)
      · rw [if_neg hc] at hm
        refine lv_iload_n hx hb dX5_find_52 rfl (lv_at hl 2 rfl) ?_
        refine lv_if_eq hx hb dX5_find_53 (tgt := 69) (by decide) (fun hc => ?_) (fun hc => ?_)
        · rw [if_pos hc] at hm
          exact wX5_find_69 X lk ih7 ih15 ih x2 x3 x4 h _ _ _ hm hH (lv_sub hl [0, 1, 2, 3, 4] rfl)
        · rw [if_neg hc] at hm
          refine lv_aload_n hx hb dX5_find_56 rfl (lv_at hl 1 rfl) ?_
          refine lv_iload_n hx hb dX5_find_57 rfl (lv_at hl 3 rfl) ?_
          refine lv_iload hx hb dX5_find_58 (lv_at hl 4 rfl) ?_
          refine lv_iload_n hx hb dX5_find_60 rfl (lv_at hl 2 rfl) ?_
          refine lv_iconst (v := 1) hx hb dX5_find_61 (by decide) ?_
          refine lv_isub hx hb dX5_find_62 ?_
          obtain ⟨v2, hq, hm⟩ := bd1_some hm
          refine cVi X hH kl_X5_48 kv_X7_sees (mt_X7_sees_48 lk hq) (lk 48 _ (by decide) (by decide) lC_48) rfl rfl (by decide) hl.1 rfl (Nat.le_of_ble_eq_true rfl) dX5_find_63 (fun H locs hH => ?_)
          refine lv_if_ne hx hb dX5_find_66 (tgt := 78) (by decide) (fun hc => ?_) (fun hc => ?_)
          · rw [if_neg hc] at hm
            exact wX5_find_78 X lk ih7 ih15 ih x2 x3 x4 h _ _ _ hm hH (lv_sub hl [0, 1, 2, 3, 4] rfl)
          · rw [if_pos hc] at hm
            exact wX5_find_69 X lk ih7 ih15 ih x2 x3 x4 h _ _ _ hm hH (lv_sub hl [0, 1, 2, 3, 4] rfl)
def mX5_find_15 (k7 : Int32 → Mm → Option Mm) : Nat → Int32 → Int32 → Mm → Option Mm
  | 0, _, _, _ => none
  | n + 1, x2, x3, h => if (h 49 3) ≤ x3 then (k7 (x2 + 1) h) else (mX5_find_29 k7 (mX5_find_15 k7 n) FU x2 x3 (0 : Int32) h)
set_option maxRecDepth 4000 in
theorem wX5_find_15 {p : Program} {l : Launch} {e : Env} {s : State} {m : MethodId} {args : Array Value} {below : List Frame} {meth : Method} {c : Code} {D : va_G} {ad : Nat → Nat} {ac : Nat → ClassId} {L : List CD} {h' : Mm} (X : Fx p s m args meth c cX5_find 5 RX5 none D ad ac L rlC) (lk : LkC L) {k7 : Int32 → Mm → Option Mm} (ih7 : ∀ (x2 : Int32) (h : Mm) (H : Heap) (locs : List Loc) (ls : Array Slot), k7 x2 h = some h' → Hp D ad ac L h s H locs → lv_has ls 5 [(0, .ref (ad 4)), (1, .ref (ad 48)), (2, .int x2)] → W p l e (rmD 3) s m args below meth c H locs 0 0 (MQ below (QU D ad ac L none h' s.heap.size) args s 0 0 (Aa ad L.length s.heap.size)) (F0 m 7 ls [])) : ∀ (n : Nat) (x2 : Int32) (x3 : Int32) (h : Mm) (H : Heap) (locs : List Loc) (ls : Array Slot), mX5_find_15 k7 n x2 x3 h = some h' → Hp D ad ac L h s H locs → lv_has ls 5 [(0, .ref (ad 4)), (1, .ref (ad 48)), (2, .int x2), (3, .int x3)] → W p l e (rmD 3) s m args below meth c H locs 0 0 (MQ below (QU D ad ac L none h' s.heap.size) args s 0 0 (Aa ad L.length s.heap.size)) (F0 m 15 ls []) := by
  obtain ⟨hx, hb, hml, hown, hts, hr, hlk, hC, hI, hR⟩ := id X
  intro n
  induction n with
  | zero => intro x2 x3 h H locs ls hm; rw [mX5_find_15] at hm; cases hm
  | succ n ih =>
    intro x2 x3 h H locs ls hm hH hl
    rw [mX5_find_15] at hm
    refine lv_iload_n hx hb dX5_find_15 rfl (lv_at hl 3 rfl) ?_
    refine lv_aload_n hx hb dX5_find_16 rfl (lv_at hl 1 rfl) ?_
    refine gR X hH fl_X5_34 (lk 48 _ (by decide) (by decide) lC_48) rfl dX5_find_17 ?_
    refine gI X hH fl_X5_40 (lk 49 _ (by decide) (by decide) lC_49) rfl dX5_find_20 ?_
    refine lv_icmp_ge hx hb dX5_find_23 (tgt := 90) (by decide) (fun hc => ?_) (fun hc => ?_)
    · rw [if_pos hc] at hm
      refine lv_iinc (k := 2) (v := (x2 + 1)) (lv' := [(2, .int (x2 + 1)), (0, .ref (ad 4)), (1, .ref (ad 48)), (3, .int x3)]) hx hb dX5_find_90 hl rfl rfl (by decide) rfl (fun ls hl => ?_)
      refine lv_goto hx hb dX5_find_93 (tgt := 7) (by decide) ?_
      exact ih7 (x2 + 1) h _ _ _ hm hH (lv_sub hl [1, 2, 0] rfl)
    · rw [if_neg hc] at hm
      refine lv_iconst (v := 0) hx hb dX5_find_26 (by decide) ?_
      refine lv_istore (lv' := [(4, .int (0 : Int32)), (0, .ref (ad 4)), (1, .ref (ad 48)), (2, .int x2), (3, .int x3)]) hx hb dX5_find_27 hl (by decide) rfl (fun ls hl => ?_)
      exact wX5_find_29 X lk ih7 ih FU x2 x3 (0 : Int32) h _ _ _ hm hH (lv_sub hl [1, 2, 3, 4, 0] rfl)
def mX5_find_7 : Nat → Int32 → Mm → Option Mm
  | 0, _, _ => none
  | n + 1, x2, h => if (60 : Int32) ≤ x2 then (some h) else (mX5_find_15 (mX5_find_7 n) FU x2 (0 : Int32) h)
set_option maxRecDepth 4000 in
theorem wX5_find_7 {p : Program} {l : Launch} {e : Env} {s : State} {m : MethodId} {args : Array Value} {below : List Frame} {meth : Method} {c : Code} {D : va_G} {ad : Nat → Nat} {ac : Nat → ClassId} {L : List CD} {h' : Mm} (X : Fx p s m args meth c cX5_find 5 RX5 none D ad ac L rlC) (lk : LkC L) : ∀ (n : Nat) (x2 : Int32) (h : Mm) (H : Heap) (locs : List Loc) (ls : Array Slot), mX5_find_7 n x2 h = some h' → Hp D ad ac L h s H locs → lv_has ls 5 [(0, .ref (ad 4)), (1, .ref (ad 48)), (2, .int x2)] → W p l e (rmD 3) s m args below meth c H locs 0 0 (MQ below (QU D ad ac L none h' s.heap.size) args s 0 0 (Aa ad L.length s.heap.size)) (F0 m 7 ls []) := by
  obtain ⟨hx, hb, hml, hown, hts, hr, hlk, hC, hI, hR⟩ := id X
  intro n
  induction n with
  | zero => intro x2 h H locs ls hm; rw [mX5_find_7] at hm; cases hm
  | succ n ih =>
    intro x2 h H locs ls hm hH hl
    rw [mX5_find_7] at hm
    refine lv_iload_n hx hb dX5_find_7 rfl (lv_at hl 2 rfl) ?_
    refine lv_bipush (v := 60) hx hb dX5_find_8 (by decide) ?_
    refine lv_icmp_ge hx hb dX5_find_10 (tgt := 96) (by decide) (fun hc => ?_) (fun hc => ?_)
    · rw [if_pos hc] at hm
      cases hm
      exact retV X hH dX5_find_96
    · rw [if_neg hc] at hm
      refine lv_iconst (v := 0) hx hb dX5_find_13 (by decide) ?_
      refine lv_istore_n (lv' := [(3, .int (0 : Int32)), (0, .ref (ad 4)), (1, .ref (ad 48)), (2, .int x2)]) hx hb dX5_find_14 rfl hl (by decide) rfl (fun ls hl => ?_)
      exact wX5_find_15 X lk ih FU x2 (0 : Int32) h _ _ _ hm hH (lv_sub hl [1, 2, 3, 0] rfl)
def mX5_find (h : Mm) : Option Mm := mlet (wr h 4 6 (0 : Int32)) (fun h1 => mX5_find_7 FU (0 : Int32) h1)
set_option maxRecDepth 4000 in
theorem mt_X5_find {l : Launch} {D : va_G} {ad : Nat → Nat} {ac : Nat → ClassId} {L : List CD} {h : Mm} {h' : Mm} (lk : LkC L) (hm : mX5_find h = some h') : Mt l D ad ac L rlC yX5_find cX5_find 5 none 3 [.ref (ad 4), .ref (ad 48)] h none h' := by
  refine Mt.of (own := RX5) (by decide) rfl (Nat.le_of_ble_eq_true rfl) ?_
  intro p e s m below meth c ls X hH hl
  obtain ⟨hx, hb, hml, hown, hts, hr, hlk, hC, hI, hR⟩ := id X
  have hl : lv_has ls 5 [(0, .ref (ad 4)), (1, .ref (ad 48))] := hl
  rw [mX5_find] at hm
  refine lv_aload_n hx hb dX5_find_0 rfl (lv_at hl 0 rfl) ?_
  refine lv_iconst (v := 0) hx hb dX5_find_1 (by decide) ?_
  obtain ⟨h1, eh1, hm⟩ := mlet_some hm
  refine pI X hH fl_X5_30 fw_5_6 (lk 4 _ (by decide) (by decide) lC_4) rfl dX5_find_2 (fun H locs hH => ?_)
  rw [← eh1] at hH
  refine lv_iconst (v := 0) hx hb dX5_find_5 (by decide) ?_
  refine lv_istore_n (lv' := [(2, .int (0 : Int32)), (0, .ref (ad 4)), (1, .ref (ad 48))]) hx hb dX5_find_6 rfl hl (by decide) rfl (fun ls hl => ?_)
  exact wX5_find_7 X lk FU (0 : Int32) h1 _ _ _ hm hH (lv_sub hl [1, 2, 0] rfl)
/-! J7_fill_53178_12 -/
def mJ7_fill_53178_12_5 : Nat → Int32 → Int32 → Int32 → Mm → Option Mm
  | 0, _, _, _, _ => none
  | n + 1, x1, x2, x3, h => if x3 ≤ x2 then (some h) else (gIn x2 24 (mlet (wr h 12 x2.toNatClampNeg x1) (fun h1 => mJ7_fill_53178_12_5 n x1 (x2 + 1) x3 h1)))
set_option maxRecDepth 4000 in
theorem wJ7_fill_53178_12_5 {p : Program} {l : Launch} {e : Env} {s : State} {m : MethodId} {args : Array Value} {below : List Frame} {meth : Method} {c : Code} {D : va_G} {ad : Nat → Nat} {ac : Nat → ClassId} {L : List CD} {h' : Mm} (X : Fx p s m args meth c cJ7_fill_53178 4 RJ7 none D ad ac L rlC) (lk : LkC L) : ∀ (n : Nat) (x1 : Int32) (x2 : Int32) (x3 : Int32) (h : Mm) (H : Heap) (locs : List Loc) (ls : Array Slot), mJ7_fill_53178_12_5 n x1 x2 x3 h = some h' → Hp D ad ac L h s H locs → lv_has ls 4 [(0, .ref (ad 12)), (1, .int x1), (2, .int x2), (3, .int x3)] → W p l e (rmD 0) s m args below meth c H locs 0 0 (MQ below (QU D ad ac L none h' s.heap.size) args s 0 0 (Aa ad L.length s.heap.size)) (F0 m 5 ls []) := by
  obtain ⟨hx, hb, hml, hown, hts, hr, hlk, hC, hI, hR⟩ := id X
  intro n
  induction n with
  | zero => intro x1 x2 x3 h H locs ls hm; rw [mJ7_fill_53178_12_5] at hm; cases hm
  | succ n ih =>
    intro x1 x2 x3 h H locs ls hm hH hl
    rw [mJ7_fill_53178_12_5] at hm
    refine lv_iload_n hx hb dJ7_fill_53178_5 rfl (lv_at hl 2 rfl) ?_
    refine lv_iload_n hx hb dJ7_fill_53178_6 rfl (lv_at hl 3 rfl) ?_
    refine lv_icmp_ge hx hb dJ7_fill_53178_7 (tgt := 20) (by decide) (fun hc => ?_) (fun hc => ?_)
    · rw [if_pos hc] at hm
      cases hm
      exact retV X hH dJ7_fill_53178_20
    · rw [if_neg hc] at hm
      refine lv_aload_n hx hb dJ7_fill_53178_10 rfl (lv_at hl 0 rfl) ?_
      refine lv_iload_n hx hb dJ7_fill_53178_11 rfl (lv_at hl 2 rfl) ?_
      refine lv_iload_n hx hb dJ7_fill_53178_12 rfl (lv_at hl 1 rfl) ?_
      obtain ⟨hin2, hm⟩ := gIn_some hm
      obtain ⟨h1, eh1, hm⟩ := mlet_some hm
      refine ist X hH (lk 12 _ (by decide) (by decide) lC_12) hin2 dJ7_fill_53178_13 (fun H locs hH => ?_)
      rw [← eh1] at hH
      refine lv_iinc (k := 2) (v := (x2 + 1)) (lv' := [(2, .int (x2 + 1)), (0, .ref (ad 12)), (1, .int x1), (3, .int x3)]) hx hb dJ7_fill_53178_14 hl rfl rfl (by decide) rfl (fun ls hl => ?_)
      refine lv_goto hx hb dJ7_fill_53178_17 (tgt := 5) (by decide) ?_
      exact ih x1 (x2 + 1) x3 h1 _ _ _ hm hH (lv_sub hl [1, 2, 0, 3] rfl)
def mJ7_fill_53178_12 (h : Mm) (a1 : Int32) : Option Mm := mlet (nI 24) (fun u1 => mJ7_fill_53178_12_5 FU a1 (0 : Int32) u1 h)
set_option maxRecDepth 4000 in
theorem mt_J7_fill_53178_12 {l : Launch} {D : va_G} {ad : Nat → Nat} {ac : Nat → ClassId} {L : List CD} {h : Mm} {a1 : Int32} {h' : Mm} (lk : LkC L) (hm : mJ7_fill_53178_12 h a1 = some h') : Mt l D ad ac L rlC yJ7_fill_53178 cJ7_fill_53178 4 none 0 [.ref (ad 12), .int a1] h none h' := by
  refine Mt.of (own := RJ7) (by decide) rfl (Nat.le_of_ble_eq_true rfl) ?_
  intro p e s m below meth c ls X hH hl
  obtain ⟨hx, hb, hml, hown, hts, hr, hlk, hC, hI, hR⟩ := id X
  have hl : lv_has ls 4 [(0, .ref (ad 12)), (1, .int a1)] := hl
  rw [mJ7_fill_53178_12] at hm
  refine lv_iconst (v := 0) hx hb dJ7_fill_53178_0 (by decide) ?_
  refine lv_istore_n (lv' := [(2, .int (0 : Int32)), (0, .ref (ad 12)), (1, .int a1)]) hx hb dJ7_fill_53178_1 rfl hl (by decide) rfl (fun ls hl => ?_)
  refine lv_aload_n hx hb dJ7_fill_53178_2 rfl (lv_at hl 1 rfl) ?_
  refine aln X hH (lk 12 _ (by decide) (by decide) lC_12) (by decide) dJ7_fill_53178_3 ?_
  obtain ⟨u1, eu1, hm⟩ := mlet_some hm
  refine W.eq (g2 := F0 m 4 ls (.int u1 :: [])) (by rw [eu1]) ?_
  refine lv_istore_n (lv' := [(3, .int u1), (2, .int (0 : Int32)), (0, .ref (ad 12)), (1, .int a1)]) hx hb dJ7_fill_53178_4 rfl hl (by decide) rfl (fun ls hl => ?_)
  exact wJ7_fill_53178_12_5 X lk FU a1 (0 : Int32) u1 h _ _ _ hm hH (lv_sub hl [2, 3, 1, 0] rfl)
/-! J7_fill_53178_13 -/
def mJ7_fill_53178_13_5 : Nat → Int32 → Int32 → Int32 → Mm → Option Mm
  | 0, _, _, _, _ => none
  | n + 1, x1, x2, x3, h => if x3 ≤ x2 then (some h) else (gIn x2 4 (mlet (wr h 13 x2.toNatClampNeg x1) (fun h1 => mJ7_fill_53178_13_5 n x1 (x2 + 1) x3 h1)))
set_option maxRecDepth 4000 in
theorem wJ7_fill_53178_13_5 {p : Program} {l : Launch} {e : Env} {s : State} {m : MethodId} {args : Array Value} {below : List Frame} {meth : Method} {c : Code} {D : va_G} {ad : Nat → Nat} {ac : Nat → ClassId} {L : List CD} {h' : Mm} (X : Fx p s m args meth c cJ7_fill_53178 4 RJ7 none D ad ac L rlC) (lk : LkC L) : ∀ (n : Nat) (x1 : Int32) (x2 : Int32) (x3 : Int32) (h : Mm) (H : Heap) (locs : List Loc) (ls : Array Slot), mJ7_fill_53178_13_5 n x1 x2 x3 h = some h' → Hp D ad ac L h s H locs → lv_has ls 4 [(0, .ref (ad 13)), (1, .int x1), (2, .int x2), (3, .int x3)] → W p l e (rmD 0) s m args below meth c H locs 0 0 (MQ below (QU D ad ac L none h' s.heap.size) args s 0 0 (Aa ad L.length s.heap.size)) (F0 m 5 ls []) := by
  obtain ⟨hx, hb, hml, hown, hts, hr, hlk, hC, hI, hR⟩ := id X
  intro n
  induction n with
  | zero => intro x1 x2 x3 h H locs ls hm; rw [mJ7_fill_53178_13_5] at hm; cases hm
  | succ n ih =>
    intro x1 x2 x3 h H locs ls hm hH hl
    rw [mJ7_fill_53178_13_5] at hm
    refine lv_iload_n hx hb dJ7_fill_53178_5 rfl (lv_at hl 2 rfl) ?_
    refine lv_iload_n hx hb dJ7_fill_53178_6 rfl (lv_at hl 3 rfl) ?_
    refine lv_icmp_ge hx hb dJ7_fill_53178_7 (tgt := 20) (by decide) (fun hc => ?_) (fun hc => ?_)
    · rw [if_pos hc] at hm
      cases hm
      exact retV X hH dJ7_fill_53178_20
    · rw [if_neg hc] at hm
      refine lv_aload_n hx hb dJ7_fill_53178_10 rfl (lv_at hl 0 rfl) ?_
      refine lv_iload_n hx hb dJ7_fill_53178_11 rfl (lv_at hl 2 rfl) ?_
      refine lv_iload_n hx hb dJ7_fill_53178_12 rfl (lv_at hl 1 rfl) ?_
      obtain ⟨hin2, hm⟩ := gIn_some hm
      obtain ⟨h1, eh1, hm⟩ := mlet_some hm
      refine ist X hH (lk 13 _ (by decide) (by decide) lC_13) hin2 dJ7_fill_53178_13 (fun H locs hH => ?_)
      rw [← eh1] at hH
      refine lv_iinc (k := 2) (v := (x2 + 1)) (lv' := [(2, .int (x2 + 1)), (0, .ref (ad 13)), (1, .int x1), (3, .int x3)]) hx hb dJ7_fill_53178_14 hl rfl rfl (by decide) rfl (fun ls hl => ?_)
      refine lv_goto hx hb dJ7_fill_53178_17 (tgt := 5) (by decide) ?_
      exact ih x1 (x2 + 1) x3 h1 _ _ _ hm hH (lv_sub hl [1, 2, 0, 3] rfl)
def mJ7_fill_53178_13 (h : Mm) (a1 : Int32) : Option Mm := mlet (nI 4) (fun u1 => mJ7_fill_53178_13_5 FU a1 (0 : Int32) u1 h)
set_option maxRecDepth 4000 in
theorem mt_J7_fill_53178_13 {l : Launch} {D : va_G} {ad : Nat → Nat} {ac : Nat → ClassId} {L : List CD} {h : Mm} {a1 : Int32} {h' : Mm} (lk : LkC L) (hm : mJ7_fill_53178_13 h a1 = some h') : Mt l D ad ac L rlC yJ7_fill_53178 cJ7_fill_53178 4 none 0 [.ref (ad 13), .int a1] h none h' := by
  refine Mt.of (own := RJ7) (by decide) rfl (Nat.le_of_ble_eq_true rfl) ?_
  intro p e s m below meth c ls X hH hl
  obtain ⟨hx, hb, hml, hown, hts, hr, hlk, hC, hI, hR⟩ := id X
  have hl : lv_has ls 4 [(0, .ref (ad 13)), (1, .int a1)] := hl
  rw [mJ7_fill_53178_13] at hm
  refine lv_iconst (v := 0) hx hb dJ7_fill_53178_0 (by decide) ?_
  refine lv_istore_n (lv' := [(2, .int (0 : Int32)), (0, .ref (ad 13)), (1, .int a1)]) hx hb dJ7_fill_53178_1 rfl hl (by decide) rfl (fun ls hl => ?_)
  refine lv_aload_n hx hb dJ7_fill_53178_2 rfl (lv_at hl 1 rfl) ?_
  refine aln X hH (lk 13 _ (by decide) (by decide) lC_13) (by decide) dJ7_fill_53178_3 ?_
  obtain ⟨u1, eu1, hm⟩ := mlet_some hm
  refine W.eq (g2 := F0 m 4 ls (.int u1 :: [])) (by rw [eu1]) ?_
  refine lv_istore_n (lv' := [(3, .int u1), (2, .int (0 : Int32)), (0, .ref (ad 13)), (1, .int a1)]) hx hb dJ7_fill_53178_4 rfl hl (by decide) rfl (fun ls hl => ?_)
  exact wJ7_fill_53178_13_5 X lk FU a1 (0 : Int32) u1 h _ _ _ hm hH (lv_sub hl [2, 3, 1, 0] rfl)
/-! J7_fill_53178_14 -/
def mJ7_fill_53178_14_5 : Nat → Int32 → Int32 → Int32 → Mm → Option Mm
  | 0, _, _, _, _ => none
  | n + 1, x1, x2, x3, h => if x3 ≤ x2 then (some h) else (gIn x2 4 (mlet (wr h 14 x2.toNatClampNeg x1) (fun h1 => mJ7_fill_53178_14_5 n x1 (x2 + 1) x3 h1)))
set_option maxRecDepth 4000 in
theorem wJ7_fill_53178_14_5 {p : Program} {l : Launch} {e : Env} {s : State} {m : MethodId} {args : Array Value} {below : List Frame} {meth : Method} {c : Code} {D : va_G} {ad : Nat → Nat} {ac : Nat → ClassId} {L : List CD} {h' : Mm} (X : Fx p s m args meth c cJ7_fill_53178 4 RJ7 none D ad ac L rlC) (lk : LkC L) : ∀ (n : Nat) (x1 : Int32) (x2 : Int32) (x3 : Int32) (h : Mm) (H : Heap) (locs : List Loc) (ls : Array Slot), mJ7_fill_53178_14_5 n x1 x2 x3 h = some h' → Hp D ad ac L h s H locs → lv_has ls 4 [(0, .ref (ad 14)), (1, .int x1), (2, .int x2), (3, .int x3)] → W p l e (rmD 0) s m args below meth c H locs 0 0 (MQ below (QU D ad ac L none h' s.heap.size) args s 0 0 (Aa ad L.length s.heap.size)) (F0 m 5 ls []) := by
  obtain ⟨hx, hb, hml, hown, hts, hr, hlk, hC, hI, hR⟩ := id X
  intro n
  induction n with
  | zero => intro x1 x2 x3 h H locs ls hm; rw [mJ7_fill_53178_14_5] at hm; cases hm
  | succ n ih =>
    intro x1 x2 x3 h H locs ls hm hH hl
    rw [mJ7_fill_53178_14_5] at hm
    refine lv_iload_n hx hb dJ7_fill_53178_5 rfl (lv_at hl 2 rfl) ?_
    refine lv_iload_n hx hb dJ7_fill_53178_6 rfl (lv_at hl 3 rfl) ?_
    refine lv_icmp_ge hx hb dJ7_fill_53178_7 (tgt := 20) (by decide) (fun hc => ?_) (fun hc => ?_)
    · rw [if_pos hc] at hm
      cases hm
      exact retV X hH dJ7_fill_53178_20
    · rw [if_neg hc] at hm
      refine lv_aload_n hx hb dJ7_fill_53178_10 rfl (lv_at hl 0 rfl) ?_
      refine lv_iload_n hx hb dJ7_fill_53178_11 rfl (lv_at hl 2 rfl) ?_
      refine lv_iload_n hx hb dJ7_fill_53178_12 rfl (lv_at hl 1 rfl) ?_
      obtain ⟨hin2, hm⟩ := gIn_some hm
      obtain ⟨h1, eh1, hm⟩ := mlet_some hm
      refine ist X hH (lk 14 _ (by decide) (by decide) lC_14) hin2 dJ7_fill_53178_13 (fun H locs hH => ?_)
      rw [← eh1] at hH
      refine lv_iinc (k := 2) (v := (x2 + 1)) (lv' := [(2, .int (x2 + 1)), (0, .ref (ad 14)), (1, .int x1), (3, .int x3)]) hx hb dJ7_fill_53178_14 hl rfl rfl (by decide) rfl (fun ls hl => ?_)
      refine lv_goto hx hb dJ7_fill_53178_17 (tgt := 5) (by decide) ?_
      exact ih x1 (x2 + 1) x3 h1 _ _ _ hm hH (lv_sub hl [1, 2, 0, 3] rfl)
def mJ7_fill_53178_14 (h : Mm) (a1 : Int32) : Option Mm := mlet (nI 4) (fun u1 => mJ7_fill_53178_14_5 FU a1 (0 : Int32) u1 h)
set_option maxRecDepth 4000 in
theorem mt_J7_fill_53178_14 {l : Launch} {D : va_G} {ad : Nat → Nat} {ac : Nat → ClassId} {L : List CD} {h : Mm} {a1 : Int32} {h' : Mm} (lk : LkC L) (hm : mJ7_fill_53178_14 h a1 = some h') : Mt l D ad ac L rlC yJ7_fill_53178 cJ7_fill_53178 4 none 0 [.ref (ad 14), .int a1] h none h' := by
  refine Mt.of (own := RJ7) (by decide) rfl (Nat.le_of_ble_eq_true rfl) ?_
  intro p e s m below meth c ls X hH hl
  obtain ⟨hx, hb, hml, hown, hts, hr, hlk, hC, hI, hR⟩ := id X
  have hl : lv_has ls 4 [(0, .ref (ad 14)), (1, .int a1)] := hl
  rw [mJ7_fill_53178_14] at hm
  refine lv_iconst (v := 0) hx hb dJ7_fill_53178_0 (by decide) ?_
  refine lv_istore_n (lv' := [(2, .int (0 : Int32)), (0, .ref (ad 14)), (1, .int a1)]) hx hb dJ7_fill_53178_1 rfl hl (by decide) rfl (fun ls hl => ?_)
  refine lv_aload_n hx hb dJ7_fill_53178_2 rfl (lv_at hl 1 rfl) ?_
  refine aln X hH (lk 14 _ (by decide) (by decide) lC_14) (by decide) dJ7_fill_53178_3 ?_
  obtain ⟨u1, eu1, hm⟩ := mlet_some hm
  refine W.eq (g2 := F0 m 4 ls (.int u1 :: [])) (by rw [eu1]) ?_
  refine lv_istore_n (lv' := [(3, .int u1), (2, .int (0 : Int32)), (0, .ref (ad 14)), (1, .int a1)]) hx hb dJ7_fill_53178_4 rfl hl (by decide) rfl (fun ls hl => ?_)
  exact wJ7_fill_53178_14_5 X lk FU a1 (0 : Int32) u1 h _ _ _ hm hH (lv_sub hl [2, 3, 1, 0] rfl)
/-! X8_clear -/
def mX8_clear (h : Mm) : Option Mm := bdh (mJ7_fill_53178_12 h (-1 : Int32)) (fun h1 => bdh (mJ7_fill_53178_13 h1 (1 : Int32)) (fun h2 => bdh (mJ7_fill_53178_14 h2 (0 : Int32)) (fun h3 => some h3)))
set_option maxRecDepth 4000 in
theorem mt_X8_clear {l : Launch} {D : va_G} {ad : Nat → Nat} {ac : Nat → ClassId} {L : List CD} {h : Mm} {h' : Mm} (lk : LkC L) (hm : mX8_clear h = some h') : Mt l D ad ac L rlC yX8_clear cX8_clear 1 none 1 [.ref (ad 11)] h none h' := by
  refine Mt.of (own := RX8) (by decide) rfl (Nat.le_of_ble_eq_true rfl) ?_
  intro p e s m below meth c ls X hH hl
  obtain ⟨hx, hb, hml, hown, hts, hr, hlk, hC, hI, hR⟩ := id X
  have hl : lv_has ls 1 [(0, .ref (ad 11))] := hl
  rw [mX8_clear] at hm
  refine lv_aload_n hx hb dX8_clear_0 rfl (lv_at hl 0 rfl) ?_
  refine gR X hH fl_X8_9 (lk 11 _ (by decide) (by decide) lC_11) rfl dX8_clear_1 ?_
  refine lv_iconst (v := (-1)) hx hb dX8_clear_4 (by decide) ?_
  obtain ⟨h1, hq, hm⟩ := bdh_some hm
  refine cSv (As := [.ref (ad 12), .int (-1 : Int32)]) X hH kl_X8_21 ks_J7_fill_53178 (mt_J7_fill_53178_12 lk hq) rfl (by decide) hl.1 rfl (Nat.le_of_ble_eq_true rfl) dX8_clear_5 (fun H locs hH => ?_)
  refine lv_aload_n hx hb dX8_clear_8 rfl (lv_at hl 0 rfl) ?_
  refine gR X hH fl_X8_15 (lk 11 _ (by decide) (by decide) lC_11) rfl dX8_clear_9 ?_
  refine lv_iconst (v := 1) hx hb dX8_clear_12 (by decide) ?_
  obtain ⟨h2, hq, hm⟩ := bdh_some hm
  refine cSv (As := [.ref (ad 13), .int (1 : Int32)]) X hH kl_X8_21 ks_J7_fill_53178 (mt_J7_fill_53178_13 lk hq) rfl (by decide) hl.1 rfl (Nat.le_of_ble_eq_true rfl) dX8_clear_13 (fun H locs hH => ?_)
  refine lv_aload_n hx hb dX8_clear_16 rfl (lv_at hl 0 rfl) ?_
  refine gR X hH fl_X8_18 (lk 11 _ (by decide) (by decide) lC_11) rfl dX8_clear_17 ?_
  refine lv_iconst (v := 0) hx hb dX8_clear_20 (by decide) ?_
  obtain ⟨h3, hq, hm⟩ := bdh_some hm
  refine cSv (As := [.ref (ad 14), .int (0 : Int32)]) X hH kl_X8_21 ks_J7_fill_53178 (mt_J7_fill_53178_14 lk hq) rfl (by decide) hl.1 rfl (Nat.le_of_ble_eq_true rfl) dX8_clear_21 (fun H locs hH => ?_)
  cases hm
  exact retV X hH dX8_clear_24
/-! X1_clear -/
def mX1_clear (h : Mm) : Option Mm := mlet (wr h 66 2 (0 : Int32)) (fun h1 => some h1)
set_option maxRecDepth 4000 in
theorem mt_X1_clear {l : Launch} {D : va_G} {ad : Nat → Nat} {ac : Nat → ClassId} {L : List CD} {h : Mm} {h' : Mm} (lk : LkC L) (hm : mX1_clear h = some h') : Mt l D ad ac L rlC yX1_clear cX1_clear 1 none 0 [.ref (ad 66)] h none h' := by
  refine Mt.of (own := RX1) (by decide) rfl (Nat.le_of_ble_eq_true rfl) ?_
  intro p e s m below meth c ls X hH hl
  obtain ⟨hx, hb, hml, hown, hts, hr, hlk, hC, hI, hR⟩ := id X
  have hl : lv_has ls 1 [(0, .ref (ad 66))] := hl
  rw [mX1_clear] at hm
  refine lv_aload_n hx hb dX1_clear_0 rfl (lv_at hl 0 rfl) ?_
  refine lv_iconst (v := 0) hx hb dX1_clear_1 (by decide) ?_
  obtain ⟨h1, eh1, hm⟩ := mlet_some hm
  refine pI X hH fl_X1_18 fw_1_2 (lk 66 _ (by decide) (by decide) lC_66) rfl dX1_clear_2 (fun H locs hH => ?_)
  rw [← eh1] at hH
  cases hm
  exact retV X hH dX1_clear_5
