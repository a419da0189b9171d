/-! PURE LAYER 15: the planner's tables -/
/-- contacts outside the window, and those of the window, as masks -/
def q_O (m : Mm) (f : Nat) : Nat := q_mk (fun p => q_co (m 15) p && !decide (f ≤ p ∧ p < f + q_wd m f)) (q_np m)
def q_N (m : Mm) (f : Nat) : Nat := q_mk (fun k => q_co (m 15) (f + k)) (q_wd m f)
def PS (c m : Mm) (law f cc : Nat) (x : Mm) : Prop := (∀ k, (k ≤ 14 ∨ 30 ≤ k) → x k = c k) ∧ x 22 6 = nI (q_O m f) ∧ x 22 7 = nI (q_N m f) ∧ x 22 8 = nI (q_wd m f) ∧ x 22 10 = nI law ∧ x 22 11 = nI f ∧ x 22 12 = nI cc
/-- an antenna that a pass of the window could have beside the contacts outside -/
def q_op (m : Mm) (f w a : Nat) : Bool := q_ft m (m 15) (f + w) a && decide (q_lw m (m 15) (q_O m f) (f + w) a (q_np m) = 0)
def q_sh (m : Mm) (f w v : Nat) : Bool := decide (q_wh m (f + v) = q_wh m (f + w)) && q_ov m (f + v) (f + w)
def q_ap (m : Mm) (f v w a : Nat) : Bool := !q_tg m (f + v) (f + w) a
/-- the contacts when those of the window are a mask's -/
def q_bo (m : Mm) (f M p : Nat) : Bool := if f ≤ p ∧ p < f + q_wd m f then M.testBit (p - f) else q_co (m 15) p
def q_vm (m : Mm) (f M : Nat) : Nat := fb_sm (fun k => if M.testBit k = true then q_vo m (f + k) else 0) (q_wd m f)
def q_lW (m : Mm) (law f M : Nat) : Int := if law = 0 then -(q_vm m f M : Int) else (q_ls m (q_bo m f M) (q_ns m) : Int)
def q_tc (m : Mm) (f M : Nat) : Nat → Nat := fb_ct (fun k => M.testBit k ^^ q_co (m 15) (f + k))
def q_lf (m : Mm) (law f cc M : Nat) : Int := if q_tc m f M (q_wd m f) ≤ cc then (q_lW m law f M * 8 + fb_ct M.testBit (q_wd m f)) * 8 + q_tc m f M (q_wd m f) else 1073741824
def q_ol (m : Mm) (law f cc : Nat) : Nat → Nat → Int
  | 0, M => q_lf m law f cc M
  | d + 1, M => if q_any (q_op m f (q_wd m f - d - 1)) (q_na m) = false then q_ol m law f cc d M else min (q_ol m law f cc d M) (q_ol m law f cc d (M + 2 ^ (q_wd m f - d - 1)))
theorem an_not {A B : Nat} : nI A &&& (nI B ^^^ (-1)) = nI (q_mk (fun j => A.testBit j && !B.testBit j) 32) := by
  apply Int32.toBitVec_inj.1
  show BitVec.ofNat 32 A &&& (BitVec.ofNat 32 B ^^^ BitVec.allOnes 32) = BitVec.ofNat 32 (q_mk (fun j => A.testBit j && !B.testBit j) 32)
  apply BitVec.eq_of_getLsbD_eq
  intro i hi
  rw [BitVec.getLsbD_and, BitVec.getLsbD_xor, BitVec.getLsbD_ofNat, BitVec.getLsbD_ofNat, BitVec.getLsbD_ofNat, BitVec.getLsbD_allOnes, mk_bit, decide_eq_true hi]
  cases A.testBit i <;> cases B.testBit i <;> rfl
section EV
variable {c m c' m' x y : Mm}
theorem PS.rw (R : RW c m) {law f cc : Nat} (P : PS c m law f cc x) : RW x m := R.sc (fun k hk => P.1 k (by omega))
theorem PS.fr {law f cc : Nat} (P : PS c m law f cc x) (h : ∀ k, (k ≤ 14 ∨ 30 ≤ k ∨ k = 22) → y k = x k) : PS c m law f cc y := by
  obtain ⟨a1, a2⟩ := P
  refine ⟨fun k hk => by rw [h k (by omega), a1 k hk], ?_⟩
  rw [h 22 (by omega)]
  exact a2
theorem O_lt (R : RW c m) (f : Nat) : q_O m f < 2147483648 := mk_31 _ (by have := R.np; omega)
theorem O_bit {f p : Nat} (hp : p < q_np m) : (q_O m f).testBit p = (q_co (m 15) p && !decide (f ≤ p ∧ p < f + q_wd m f)) := mk_tb hp
theorem N_lt (m : Mm) (f : Nat) : q_N m f < 2 ^ q_wd m f := mk_lt _ _
theorem p2_6 {n : Nat} (h : n ≤ 6) : 2 ^ n ≤ 64 := Nat.pow_le_pow_right (n := 2) (by omega) h
theorem fa_2 {n : Nat} (h : n < 31) : (1 : Int32) <<< (nI n &&& 31) = nI (2 ^ n) := sh_1 h
theorem open_c (R : RW c m) {law f cc : Nat} (hf : f < q_np m) (P : PS c m law f cc x) : ∃ y, mX6_findOpen x = some y ∧ (∀ k, k ≠ 23 → y k = x k) ∧ ∀ w, w < q_wd m f → y 23 w = nI (q_mk (q_op m f w) (q_na m)) := by
  have h0 := R.np; have h1 := R.na
  obtain ⟨d1, d2⟩ := wd_le m f
  obtain ⟨P1, P2, P3, P4, P5, P6, P7⟩ := id P
  unfold mX6_findOpen
  refine lo_up (fun u w y => mX6_findOpen_2 u (nI w) y) (fun z => ∃ y, z = some y ∧ (∀ k, k ≠ 23 → y k = x k) ∧ ∀ w, w < q_wd m f → y 23 w = nI (q_mk (q_op m f w) (q_na m))) (fun w y => (∀ k, k ≠ 23 → y k = x k) ∧ ∀ v, v < w → y 23 v = nI (q_mk (q_op m f v) (q_na m))) (q_wd m f) (fun u y hP => ?_) (fun u w y hw hP => ?_) FU 0 x (by omega) (fu_lt (by omega)) ⟨fun _ _ => rfl, fun v hv => by omega⟩
  · refine ⟨y, ?_, hP⟩
    show mX6_findOpen_2 (u + 1) _ _ = _
    rw [mX6_findOpen_2, hP.1 22 (by decide), P4, if_pos (nI_le (Nat.le_refl _) (by omega))]
  · show ∃ x', mX6_findOpen_2 (u + 1) (nI w) y = mX6_findOpen_2 u _ x' ∧ _
    rw [mX6_findOpen_2, hP.1 22 (by decide), P4, if_neg (nI_ge hw (by omega)), gIn_nI (by omega) (by omega), cl_n (by omega), mlet_s]
    refine lo_up (fun v a z => mX6_findOpen_19 (mX6_findOpen_2 u) v (nI w) (nI a) z) (fun t => ∃ x', t = mX6_findOpen_2 u (nI (w + 1)) x' ∧ (∀ k, k ≠ 23 → x' k = x k) ∧ ∀ v, v < w + 1 → x' 23 v = nI (q_mk (q_op m f v) (q_na m))) (fun a z => (∀ k, k ≠ 23 → z k = x k) ∧ (∀ v, v < w → z 23 v = nI (q_mk (q_op m f v) (q_na m))) ∧ z 23 w = nI (q_mk (q_op m f w) a)) (q_na m) (fun v z hZ => ?_) (fun v a z ha hZ => ?_) FU 0 _ (by omega) (fu_lt (by omega)) ⟨fun k hk => by rw [wr_cell _ _ _ hk, hP.1 k hk], fun v hv => by rw [wr_slot _ _ _ (by omega), hP.2 v hv], wr_same _ _ _ _⟩
    · refine ⟨z, ?_, hZ.1, fun v hv => ?_⟩
      · show mX6_findOpen_19 _ (v + 1) _ _ _ = _
        rw [mX6_findOpen_19, hZ.1 42 (by decide), P1 42 (by omega), R.cna, if_pos (nI_le (Nat.le_refl _) (by omega)), ad_1]
      · by_cases e : v = w
        · subst e; exact hZ.2.2
        · exact hZ.2.1 v (by omega)
    · have Pz : PS c m law f cc z := P.fr (fun k hk => hZ.1 k (by omega))
      have Rz := Pz.rw R
      show ∃ x', mX6_findOpen_19 _ (v + 1) (nI w) (nI a) z = mX6_findOpen_19 _ v _ _ x' ∧ _
      rw [mX6_findOpen_19, hZ.1 42 (by decide), P1 42 (by omega), R.cna, if_neg (nI_ge ha (by omega)), Pz.2.2.2.2.2.1, nI_add, Pz.2.1, fits_c Rz (by omega) ha, clw_c Rz (p := f + w) (a := a) (M := q_O m f) (by omega) ha (O_lt R f) (fun q hq hb => by
        rw [O_bit hq] at hb
        rw [Bool.and_eq_true] at hb
        refine ⟨fun e => ?_, hb.1⟩
        subst e
        have := hb.2
        rw [decide_eq_true (by omega)] at this
        cases this), bd1_s, bd1_s, gIn_nI (by omega) (by omega), gIn_nI (by omega) (by omega), cl_n (by omega), hZ.2.2, or_bit (by omega) (mk_lt _ _), mlet_s]
      unfold mX6_findOpen_77
      rw [ad_1]
      have hlw : q_lw m (m 15) (q_O m f) (f + w) a (q_np m) ≤ 4 := by
        unfold q_lw
        repeat' split
        all_goals omega
      simp (disch := omega) only [bI_ifn, li_0, nz_eq]
      have hmk : q_mk (q_op m f w) (a + 1) = q_mk (q_op m f w) a + (if q_op m f w a then 2 ^ a else 0) := rfl
      have keep : q_op m f w a = false → ∃ x', mX6_findOpen_19 (mX6_findOpen_2 u) v (nI w) (nI (a + 1)) z = mX6_findOpen_19 (mX6_findOpen_2 u) v (nI w) (nI (a + 1)) x' ∧ (∀ k, k ≠ 23 → x' k = x k) ∧ (∀ v, v < w → x' 23 v = nI (q_mk (q_op m f v) (q_na m))) ∧ x' 23 w = nI (q_mk (q_op m f w) (a + 1)) := fun h => ⟨z, rfl, hZ.1, hZ.2.1, by rw [hmk, h]; exact hZ.2.2⟩
      cases hft : q_ft m (m 15) (f + w) a with
      | false =>
        rw [if_neg (by decide)]
        exact keep (by unfold q_op; rw [hft]; rfl)
      | true =>
        rw [if_pos rfl]
        by_cases hl : q_lw m (m 15) (q_O m f) (f + w) a (q_np m) = 0
        · rw [if_pos hl]
          refine ⟨_, rfl, fun k hk => by rw [wr_cell _ _ _ hk, hZ.1 k hk], fun v hv => by rw [wr_slot _ _ _ (by omega), hZ.2.1 v hv], ?_⟩
          rw [wr_same, hmk, show q_op m f w a = true from by unfold q_op; rw [hft, decide_eq_true hl]; rfl]
          rfl
        · rw [if_neg hl]
          exact keep (by unfold q_op; rw [hft, decide_eq_false hl]; rfl)
theorem apart_c (R : RW c m) {law f cc : Nat} (hf : f < q_np m) (P : PS c m law f cc x) : ∃ y, mX6_findApart x = some y ∧ (∀ k, k ≠ 24 → k ≠ 25 → y k = x k) ∧ (∀ w, w < q_wd m f → y 25 w = nI (q_mk (q_sh m f w) w)) ∧ ∀ w, w < q_wd m f → ∀ v, v < w → y 24 (v * 6 + w) = nI (q_mk (q_ap m f v w) (q_na m)) := by
  have h0 := R.np; have h1 := R.na
  obtain ⟨d1, d2⟩ := wd_le m f
  obtain ⟨P1, P2, P3, P4, P5, P6, P7⟩ := id P
  unfold mX6_findApart
  refine lo_up (fun u w y => mX6_findApart_2 u (nI w) y) (fun z => ∃ y, z = some y ∧ (∀ k, k ≠ 24 → k ≠ 25 → y k = x k) ∧ (∀ w, w < q_wd m f → y 25 w = nI (q_mk (q_sh m f w) w)) ∧ ∀ w, w < q_wd m f → ∀ v, v < w → y 24 (v * 6 + w) = nI (q_mk (q_ap m f v w) (q_na m))) (fun w y => (∀ k, k ≠ 24 → k ≠ 25 → y k = x k) ∧ (∀ i, i < w → y 25 i = nI (q_mk (q_sh m f i) i)) ∧ ∀ i, i < w → ∀ v, v < i → y 24 (v * 6 + i) = nI (q_mk (q_ap m f v i) (q_na m))) (q_wd m f) (fun u y hP => ?_) (fun u w y hw hP => ?_) FU 0 x (by omega) (fu_lt (by omega)) ⟨fun _ _ _ => rfl, fun v hv => by omega, fun v hv => by omega⟩
  · refine ⟨y, ?_, hP⟩
    show mX6_findApart_2 (u + 1) _ _ = _
    rw [mX6_findApart_2, hP.1 22 (by decide) (by decide), P4, if_pos (nI_le (Nat.le_refl _) (by omega))]
  · show ∃ x', mX6_findApart_2 (u + 1) (nI w) y = mX6_findApart_2 u _ x' ∧ _
    rw [mX6_findApart_2, hP.1 22 (by decide) (by decide), P4, if_neg (nI_ge hw (by omega)), gIn_nI (by omega) (by omega), cl_n (by omega), mlet_s]
    refine lo_up (fun g v z => mX6_findApart_19 (mX6_findApart_2 u) g (nI w) (nI v) z) (fun t => ∃ x', t = mX6_findApart_2 u (nI (w + 1)) x' ∧ (∀ k, k ≠ 24 → k ≠ 25 → x' k = x k) ∧ (∀ i, i < w + 1 → x' 25 i = nI (q_mk (q_sh m f i) i)) ∧ ∀ i, i < w + 1 → ∀ v, v < i → x' 24 (v * 6 + i) = nI (q_mk (q_ap m f v i) (q_na m))) (fun v z => (∀ k, k ≠ 24 → k ≠ 25 → z k = x k) ∧ ((∀ i, i < w → z 25 i = nI (q_mk (q_sh m f i) i)) ∧ z 25 w = nI (q_mk (q_sh m f w) v)) ∧ (∀ i, i < w → ∀ v, v < i → z 24 (v * 6 + i) = nI (q_mk (q_ap m f v i) (q_na m))) ∧ ∀ j, j < v → z 24 (j * 6 + w) = nI (q_mk (q_ap m f j w) (q_na m))) w (fun g z hZ => ?_) (fun g v z hv hZ => ?_) FU 0 _ (by omega) (fu_lt (by omega)) ⟨fun k k1 k2 => by rw [wr_cell _ _ _ k2, hP.1 k k1 k2], ⟨fun i hi => by rw [wr_slot _ _ _ (by omega), hP.2.1 i hi], wr_same _ _ _ _⟩, fun i hi v hv => by rw [wr_cell _ _ _ (by decide), hP.2.2 i hi v hv], fun j hj => by omega⟩
    · refine ⟨z, ?_, hZ.1, fun i hi => ?_, fun i hi v hv => ?_⟩
      · show mX6_findApart_19 _ (g + 1) _ _ _ = _
        rw [mX6_findApart_19, if_pos (nI_le (Nat.le_refl _) (by omega)), ad_1]
      · by_cases e : i = w
        · subst e; exact hZ.2.1.2
        · exact hZ.2.1.1 i (by omega)
      · by_cases e : i = w
        · subst e; exact hZ.2.2.2 v hv
        · exact hZ.2.2.1 i (by omega) v hv
    · have Pz : PS c m law f cc z := P.fr (fun k hk => hZ.1 k (by omega) (by omega))
      have Rz := Pz.rw R
      show ∃ x', mX6_findApart_19 _ (g + 1) (nI w) (nI v) z = mX6_findApart_19 _ g _ _ x' ∧ _
      rw [mX6_findApart_19, if_neg (nI_ge hv (by omega)), Pz.2.2.2.2.2.1, nI_add, nI_add, ov_c Rz (by omega) (by omega), bd1_s, gIn_nI (by omega) (by omega), gIn_nI (by omega) (by omega), cl_n (by omega), hZ.2.1.2, or_bit (by omega) (mk_lt _ _), mlet_s]
      have hsh : (decide (q_wh m (f + v) = q_wh m (f + w)) && q_ov m (f + v) (f + w)) = q_sh m f w v := rfl
      rw [hsh]
      simp only [bI_if]
      have hz1 : ∃ z1, (if q_sh m f w v = true then mX6_findApart_55 (mX6_findApart_2 u) (mX6_findApart_19 (mX6_findApart_2 u) g) (nI w) (nI v) (wr z 25 w (nI (q_mk (q_sh m f w) v + 2 ^ v))) else mX6_findApart_55 (mX6_findApart_2 u) (mX6_findApart_19 (mX6_findApart_2 u) g) (nI w) (nI v) z) = mX6_findApart_55 (mX6_findApart_2 u) (mX6_findApart_19 (mX6_findApart_2 u) g) (nI w) (nI v) z1 ∧ (∀ k, k ≠ 25 → z1 k = z k) ∧ (∀ i, i < w → z1 25 i = z 25 i) ∧ z1 25 w = nI (q_mk (q_sh m f w) (v + 1)) := by
        have hmk : q_mk (q_sh m f w) (v + 1) = q_mk (q_sh m f w) v + (if q_sh m f w v then 2 ^ v else 0) := rfl
        rw [hmk]
        cases q_sh m f w v with
        | true => exact ⟨_, rfl, fun k hk => wr_cell _ _ _ hk, fun i hi => wr_slot _ _ _ (by omega), wr_same _ _ _ _⟩
        | false => exact ⟨z, rfl, fun _ _ => rfl, fun _ _ => rfl, hZ.2.1.2⟩
      obtain ⟨z1, e1, e2, e3, e4⟩ := hz1
      rw [e1]
      unfold mX6_findApart_55
      rw [li_6, pk_mul, nI_add, gIn_nI (by omega) (by omega), cl_n (by omega), mlet_s]
      refine lo_up (fun s a t => mX6_findApart_70 (mX6_findApart_2 u) (mX6_findApart_19 (mX6_findApart_2 u) g) s (nI w) (nI v) (nI a) t) (fun t => ∃ x', t = mX6_findApart_19 (mX6_findApart_2 u) g (nI w) (nI (v + 1)) x' ∧ (∀ k, k ≠ 24 → k ≠ 25 → x' k = x k) ∧ ((∀ i, i < w → x' 25 i = nI (q_mk (q_sh m f i) i)) ∧ x' 25 w = nI (q_mk (q_sh m f w) (v + 1))) ∧ (∀ i, i < w → ∀ v, v < i → x' 24 (v * 6 + i) = nI (q_mk (q_ap m f v i) (q_na m))) ∧ ∀ j, j < v + 1 → x' 24 (j * 6 + w) = nI (q_mk (q_ap m f j w) (q_na m))) (fun a t => (∀ k, k ≠ 24 → t k = z1 k) ∧ (∀ s, s ≠ v * 6 + w → t 24 s = z 24 s) ∧ t 24 (v * 6 + w) = nI (q_mk (q_ap m f v w) a)) (q_na m) (fun s t hT => ?_) (fun s a t ha hT => ?_) FU 0 _ (by omega) (fu_lt (by omega)) ⟨fun k hk => wr_cell _ _ _ hk, fun s hs => by rw [wr_slot _ _ _ hs, e2 24 (by decide)], wr_same _ _ _ _⟩
      · refine ⟨t, ?_, fun k k1 k2 => by rw [hT.1 k k1, e2 k k2, hZ.1 k k1 k2], ⟨fun i hi => by rw [hT.1 25 (by decide), e3 i hi, hZ.2.1.1 i hi], by rw [hT.1 25 (by decide), e4]⟩, fun i hi j hj => by rw [hT.2.1 _ (by omega), hZ.2.2.1 i hi j hj], fun j hj => ?_⟩
        · show mX6_findApart_70 _ _ (s + 1) _ _ _ _ = _
          rw [mX6_findApart_70, hT.1 42 (by decide), e2 42 (by decide), Pz.1 42 (by omega), R.cna, if_pos (nI_le (Nat.le_refl _) (by omega)), ad_1]
        · by_cases e : j = v
          · subst e; exact hT.2.2
          · rw [hT.2.1 _ (by omega), hZ.2.2.2 j (by omega)]
      · have Pt : PS c m law f cc t := Pz.fr (fun k hk => by rw [hT.1 k (by omega), e2 k (by omega)])
        have Rt := Pt.rw R
        show ∃ x', mX6_findApart_70 _ _ (s + 1) (nI w) (nI v) (nI a) t = mX6_findApart_70 _ _ s _ _ _ x' ∧ _
        rw [mX6_findApart_70, Pt.1 42 (by omega), R.cna, if_neg (nI_ge ha (by omega)), Pt.2.2.2.2.2.1, nI_add, nI_add, tog_c Rt (by omega) (by omega) (by omega) ha, bd1_s, li_6, pk_mul, nI_add, gIn_nI (by omega) (by omega), gIn_nI (by omega) (by omega), cl_n (by omega), hT.2.2, or_bit (by omega) (mk_lt _ _), mlet_s]
        unfold mX6_findApart_124
        rw [ad_1]
        simp only [bI_if]
        have hmk : q_mk (q_ap m f v w) (a + 1) = q_mk (q_ap m f v w) a + (if q_ap m f v w a then 2 ^ a else 0) := rfl
        rw [hmk]
        unfold q_ap
        cases htg : q_tg m (f + v) (f + w) a with
        | true => exact ⟨t, rfl, hT.1, hT.2.1, hT.2.2⟩
        | false =>
          refine ⟨_, rfl, fun k hk => by rw [wr_cell _ _ _ hk, hT.1 k hk], fun i hi => by rw [wr_slot _ _ _ hi, hT.2.1 i hi], ?_⟩
          rw [wr_same]
          rfl
end EV
