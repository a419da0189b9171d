/-! calls out of any room -/
section CALLG
variable {p : Program} {l : Launch} {e : Env} {R : Room} {s : State} {m : MethodId} {args : Array Value} {below : List Frame} {meth : Method} {c : Code} {H : Heap} {locs : List Loc} {cells slots : Nat} {Q : State → Prop}
variable {cc : ByteArray} {nL : Nat} {own : String} {ret : Option FieldType} {D : va_G} {ad : Nat → Nat} {ac : Nat → ClassId} {L : List CD} {rl : RomL} {h h' : Mm} {pc : Nat} {ls : Array Slot} {rest st : List Value} {k ci index n d1 : Nat} {fs : List (Option Nat)}
variable {y : MethodName} {cc1 : ByteArray} {nL1 : Nat} {ret1 : Option FieldType} {As : List Value} {r : Option Value}
theorem CL.BG (hts : ∀ w ∈ wg, w.before args s = true) (hC : CL own index y cc1 nL1 ret1 n) (hfr : d1 + 1 ≤ R.frames) (hlo : 39 + 40 * d1 ≤ R.locals) : CallB R s args own index y cc1 nL1 ret1 (wsy y cc1 nL1 ret1) (rmD d1) 0 0 n := by
  obtain ⟨h1, h2, h3, h4, h5, h6⟩ := hC
  refine ⟨rfl, rfl, hfr, ?_, ?_, List.mem_cons_self, hts _ h1, hts _ h3, h4, fun sig hs => ?_, hts _ h2⟩
  · show 8 + (nL1 + 11) + 40 * d1 ≤ R.locals
    omega
  · intro w hw
    rcases List.mem_cons.mp hw with rfl | hw
    · exact wg_pay hts _ h1
    · exact wg_pay hts _ hw
  · rw [hs] at h5
    exact (Option.some.inj h5).symm
theorem callGoG {A1 : Array Value} (X : Fx p s m args meth c cc nL own ret D ad ac L rl) (hH : Hp D ad ac L h s H locs)
    (hr : va_Run p l e R s m args below meth c H locs cells slots 0 0 (F0 m pc ls st) rest (QU D ad ac L r h' H.size A1) (Aa ad L.length H.size))
    (kk : ∀ (H1 : Heap) (locs1 : List Loc), Hp D ad ac L h' s H1 locs1 → W p l e R s m args below meth c H1 locs1 cells slots Q (F0 m (pc + 3) ls (r.toList ++ rest))) : W p l e R s m args below meth c H locs cells slots Q (F0 m pc ls st) := by
  intro T hT X1
  obtain ⟨v, st₀, t, T', L1, h0, X', hL, e1, e2, ⟨hv, hp, hz, hk⟩, stp⟩ := hr T hT X1
  cases hv
  rw [h0] at hz hk
  obtain ⟨t2, a1, b1⟩ := kk T'.heap (locs ++ L1) ⟨by rw [e1]; exact hp, Nat.le_trans hH.2.1 (by rw [e1]; exact hz), fun q h1 h2 => by
      rw [e1, hk q (Nat.lt_of_lt_of_le h1 hH.2.1) (fun z => h2 (Aa.le hH.2.1 z))]
      exact hH.2.2.1 q h1 h2, fun q hq => by
      rcases List.mem_append.mp hq with h | h
      · exact hH.2.2.2 q h
      · exact Aa.le hH.2.1 (hL q h)⟩ T' rfl X'
  exact ⟨t2, stp t2 a1, b1⟩
theorem cVG (X : Fx p s m args meth c cc nL own ret D ad ac L rl) (hH : Hp D ad ac L h s H locs) (hC : CL own index y cc1 nL1 ret1 n) (hV : CLv y) (hM : Mt l D ad ac L rl y cc1 nL1 ret1 d1 (.ref (ad k) :: As) h r h') (hk : L[k]? = some (.inr (.inl (ci, fs)))) (hc : (vwCl[ci]?).map (fun q => q.1) = some y.cls) (hn : As.length = n) (hfr : d1 + 1 ≤ R.frames) (hlo : 39 + 40 * d1 ≤ R.locals) (hcs : cells ≤ R.cells ∧ slots ≤ R.slots) (hls : ls.size = nL) (hst : st = As.reverse ++ .ref (ad k) :: rest) (hW : (rest.map fun v => v.category).sum ≤ 8) (hdg : decode cc pc = .ok (.invokevirtual index, 3))
    (kk : ∀ (H1 : Heap) (locs1 : List Loc), Hp D ad ac L h' s H1 locs1 → W p l e R s m args below meth c H1 locs1 cells slots Q (F0 m (pc + 3) ls (r.toList ++ rest))) : W p l e R s m args below meth c H locs cells slots Q (F0 m pc ls st) := by
  have hq : ∃ q : vw_C, vwCl[ci]? = some q ∧ q.1 = y.cls := by
    cases hv : vwCl[ci]? with
    | none => rw [hv] at hc; cases hc
    | some q => rw [hv] at hc; exact ⟨q, rfl, Option.some.inj hc⟩
  obtain ⟨q, hq1, hq2⟩ := hq
  have hrecv := va_recv (D := D) X.2.2.2.2.2.2.2.1.1 hH.1 hq1 (wd_at hk)
  rw [hq2] at hrecv
  exact callGoG X hH (va_runV (C := y.cls) (As := As) ⟨X.1, X.2.1, X.2.2.1, X.2.2.2.1, X.2.2.2.2.1⟩ (hM H.size) ⟨CL.BG X.2.2.2.2.1 hC hfr hlo, X.2.2.2.2.1 _ hV.1, X.2.2.2.2.1 _ hV.2⟩ ⟨PU.blind, hrecv, fun U hU hWm => ⟨rfl, PU.ready X hH hU hWm⟩⟩ rfl hn hls hst (lv_room hW) hdg ⟨hcs.1, hcs.2⟩) kk
theorem cVvG (X : Fx p s m args meth c cc nL own ret D ad ac L rl) (hH : Hp D ad ac L h s H locs) (hC : CL own index y cc1 nL1 ret1 n) (hV : CLv y) (hM : Mt l D ad ac L rl y cc1 nL1 ret1 d1 (.ref (ad k) :: As) h none h') (hk : L[k]? = some (.inr (.inl (ci, fs)))) (hc : (vwCl[ci]?).map (fun q => q.1) = some y.cls) (hn : As.length = n) (hfr : d1 + 1 ≤ R.frames) (hlo : 39 + 40 * d1 ≤ R.locals) (hcs : cells ≤ R.cells ∧ slots ≤ R.slots) (hls : ls.size = nL) (hst : st = As.reverse ++ .ref (ad k) :: rest) (hW : (rest.map fun v => v.category).sum ≤ 8) (hdg : decode cc pc = .ok (.invokevirtual index, 3))
    (kk : ∀ (H1 : Heap) (locs1 : List Loc), Hp D ad ac L h' s H1 locs1 → W p l e R s m args below meth c H1 locs1 cells slots Q (F0 m (pc + 3) ls rest)) : W p l e R s m args below meth c H locs cells slots Q (F0 m pc ls st) := cVG X hH hC hV hM hk hc hn hfr hlo hcs hls hst hW hdg kk
end CALLG
