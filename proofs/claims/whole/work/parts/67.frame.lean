/-! PURE LAYER 7: bound; what stays when other cells change -/
section EV
variable {c m : Mm}
theorem win_c (R : RW c m) {f : Nat} (hf : f < q_np m) : mX4_windowSize c (nI f) = some (nI (q_wd m f)) := by
  have h0 := R.np
  unfold mX4_windowSize mJ9_min_7cf53 q_wd
  rw [R.cnp, pk_sub (by omega), li_6]
  simp (disch := omega) only [nz_lt]
  by_cases h : q_np m - f < 6
  · rw [if_pos h, Nat.min_eq_right (by omega)]; rfl
  · rw [if_neg h, Nat.min_eq_left (by omega)]; rfl
theorem win_m (R : RW c m) {f : Nat} (hf : f < q_np m) : mX11_wide m (nI f) = some (nI (q_wd m f)) := by
  have h0 := R.np
  unfold mX11_wide q_wd
  rw [R.mnp, pk_sub (by omega), li_6]
  simp (disch := omega) only [nz_le]
  by_cases h : 6 ≤ q_np m - f
  · rw [if_pos h, Nat.min_eq_left (by omega)]
  · rw [if_neg h, Nat.min_eq_right (by omega)]
theorem wd_le (m : Mm) (f : Nat) : q_wd m f ≤ 6 ∧ q_wd m f ≤ q_np m - f := ⟨Nat.min_le_left _ _, Nat.min_le_right _ _⟩
def q_bd (m : Mm) (f : Nat) : Nat → Nat := fb_sm (fun k => if q_any (q_ft m (m 15) (f + k)) (q_na m) = true then q_vo m (f + k) else 0)
theorem go_bound (R : RW c m) (x : Int32) : ∃ v, mX10_bound c x = some v ∧ mX11_bound m x = some v := by
  have h0 := R.np; have h1 := R.na
  unfold mX10_bound mX11_bound
  rw [has5 R x, isP_m R x]
  simp only [bd1_s, bI_if]
  rcases inB_c x (n := q_np m) (by omega) with hx | ⟨f, hf, rfl⟩
  · rw [hx]; exact ⟨-1, rfl, rfl⟩
  rw [inB_t hf (by omega), if_pos rfl, if_pos rfl]
  obtain ⟨hw1, hw2⟩ := wd_le m f
  refine ⟨nI (q_bd m f (q_wd m f)), ?_, ?_⟩
  · refine lo_v (fun n i x => mX10_bound_20 c n (nI f) x (nI (f + i))) _ (fun i => nI (q_bd m f i)) (q_wd m f) (fun n => ?_) (fun n i hi => ?_) FU 0 (by omega) (fu_lt (by omega))
    · show mX10_bound_20 c (n + 1) _ _ _ = _
      rw [mX10_bound_20, win_c R hf, bd1_s, nI_add, if_pos (nI_le (Nat.le_refl _) (by omega))]
    · show mX10_bound_20 c (n + 1) _ _ _ = mX10_bound_20 c n _ _ _
      rw [mX10_bound_20, win_c R hf, bd1_s, nI_add, if_neg (nI_ge (by omega) (by omega)), fa_c R (by omega), bd1_s, q_bd, fb_sm_succ]
      unfold mX10_bound_60
      have e0 : (nI (q_mk (q_ft m (m 15) (f + i)) (q_na m)) = 0) = (q_any (q_ft m (m 15) (f + i)) (q_na m) = false) := by
        rw [li_0, nz_eq (mk_31 _ (by omega)) (by omega), mk_any]
      simp only [e0]
      rw [ad_1 (f + i), gIn_nI (by omega) (by omega), cl_n (by omega), (R.cpa (p := f + i) (by omega)).2.2.2.2.1, mlet_s, nI_add]
      cases q_any (q_ft m (m 15) (f + i)) (q_na m) <;> rfl
  · refine lo_v (fun n i x => mX11_bound_14 m n (nI f) x (nI (f + i))) _ (fun i => nI (q_bd m f i)) (q_wd m f) (fun n => ?_) (fun n i hi => ?_) FU 0 (by omega) (fu_lt (by omega))
    · show mX11_bound_14 m (n + 1) _ _ _ = _
      rw [mX11_bound_14, win_m R hf, bd1_s, nI_add, if_pos (nI_le (Nat.le_refl _) (by omega))]
    · show mX11_bound_14 m (n + 1) _ _ _ = mX11_bound_14 m n _ _ _
      rw [mX11_bound_14, win_m R hf, bd1_s, nI_add, if_neg (nI_ge (by omega) (by omega))]
      refine lo_v (fun k a x => mX11_bound_31 m (mX11_bound_14 m n) k (nI f) (nI (q_bd m f i)) (nI (f + i)) x (nI a)) _ (fun a => bI (q_any (q_ft m (m 15) (f + i)) a)) (q_na m) (fun k => ?_) (fun k a ha => ?_) FU 0 (by omega) (fu_lt (by omega))
      · show mX11_bound_31 m _ (k + 1) _ _ _ _ _ = _
        rw [mX11_bound_31, li_2, gIn_nI (by omega) (by omega), cl_n (by omega), R.mna, if_pos (nI_le (Nat.le_refl _) (by omega))]
        unfold mX11_bound_86
        rw [gIn_nI (by omega) (by omega), cl_n (by omega), (R.pas (p := f + i) (by omega)).2.2.2.2, mlet_s, mlet_s, ad_1 (f + i), nI_add, li_0, nI_add, q_bd, fb_sm_succ]
        simp only [bI_ifn]
        cases q_any (q_ft m (m 15) (f + i)) (q_na m) <;> rfl
      · show mX11_bound_31 m _ (k + 1) _ _ _ _ _ = mX11_bound_31 m _ k _ _ _ _ _
        rw [mX11_bound_31, li_2, gIn_nI (by omega) (by omega), cl_n (by omega), R.mna, if_neg (nI_ge ha (by omega)), fits_m R (by omega) ha]
        unfold mX11_bound_57 mX11_bound_62
        rw [bd1_s, ad_1 a]
        simp only [bI_if, q_any]
        cases q_any (q_ft m (m 15) (f + i)) a <;> cases q_ft m (m 15) (f + i) a <;> rfl
/-! what is laid stays -/
def SM (m m' : Mm) : Prop := (m' 2 = m 2 ∧ m' 3 = m 3 ∧ m' 4 = m 4 ∧ m' 5 = m 5) ∧ (m' 10 = m 10 ∧ m' 11 = m 11 ∧ m' 12 = m 12 ∧ m' 13 = m 13 ∧ m' 14 = m 14) ∧ m' 0 16 = m 0 16
def SC (c c' : Mm) : Prop := (∀ k, 5 ≤ k → k ≤ 10 → c' k = c k) ∧ (∀ k, 31 ≤ k → k ≤ 47 → c' k = c k) ∧ c' 4 6 = c 4 6
theorem SM.rfl' (m : Mm) : SM m m := ⟨⟨rfl, rfl, rfl, rfl⟩, ⟨rfl, rfl, rfl, rfl, rfl⟩, rfl⟩
theorem SC.rfl' (c : Mm) : SC c c := ⟨fun _ _ _ => rfl, fun _ _ _ => rfl, rfl⟩
theorem SM.tr {a b d : Mm} (h : SM a b) (g : SM b d) : SM a d := by
  obtain ⟨⟨a1, a2, a3, a4⟩, ⟨b1, b2, b3, b4, b5⟩, d1⟩ := h
  obtain ⟨⟨e1, e2, e3, e4⟩, ⟨f1, f2, f3, f4, f5⟩, g1⟩ := g
  exact ⟨⟨e1.trans a1, e2.trans a2, e3.trans a3, e4.trans a4⟩, ⟨f1.trans b1, f2.trans b2, f3.trans b3, f4.trans b4, f5.trans b5⟩, g1.trans d1⟩
theorem SC.tr {a b d : Mm} (h : SC a b) (g : SC b d) : SC a d := ⟨fun k h1 h2 => (g.1 k h1 h2).trans (h.1 k h1 h2), fun k h1 h2 => (g.2.1 k h1 h2).trans (h.2.1 k h1 h2), g.2.2.trans h.2.2⟩
variable {c' m' : Mm}
theorem SM.q (h : SM m m') : q_ns m' = q_ns m ∧ q_ng m' = q_ng m ∧ q_na m' = q_na m ∧ q_np m' = q_np m ∧ q_sa m' = q_sa m ∧ q_st m' = q_st m ∧ q_an m' = q_an m ∧ q_fi m' = q_fi m ∧ q_la m' = q_la m ∧ q_wh m' = q_wh m ∧ q_we m' = q_we m ∧ q_vo m' = q_vo m := by
  obtain ⟨⟨a1, a2, a3, a4⟩, ⟨b1, b2, b3, b4, b5⟩, d1⟩ := h
  refine ⟨?_, ?_, ?_, ?_, ?_, ?_, ?_, ?_, ?_, ?_, ?_, ?_⟩
  · unfold q_ns; rw [a4]
  · unfold q_ng; rw [a4]
  · unfold q_na; rw [a4]
  · unfold q_np; rw [d1]
  · funext i j; unfold q_sa; rw [a1]
  · funext i j; unfold q_st; rw [a2]
  · funext i j; unfold q_an; rw [a3]
  · funext i; unfold q_fi; rw [b1]
  · funext i; unfold q_la; rw [b2]
  · funext i; unfold q_wh; rw [b3]
  · funext i; unfold q_we; rw [b4]
  · funext i; unfold q_vo; rw [b5]
theorem SM.ft (h : SM m m') : q_ft m' = q_ft m := by
  obtain ⟨a1, a2, a3, a4, a5, a6, a7, a8, a9, a10, a11, a12⟩ := h.q
  funext r p a; unfold q_ft; rw [a7, a11, a5, a10, a8, a9]
theorem SM.tg (h : SM m m') : q_tg m' = q_tg m := by
  obtain ⟨a1, a2, a3, a4, a5, a6, a7, a8, a9, a10, a11, a12⟩ := h.q
  funext p q a; unfold q_tg; rw [a7, a8, a9]
theorem SM.ov (h : SM m m') : q_ov m' = q_ov m := by
  obtain ⟨a1, a2, a3, a4, a5, a6, a7, a8, a9, a10, a11, a12⟩ := h.q
  funext p q; unfold q_ov; rw [a8, a9]
theorem SM.rt (h : SM m m') : q_rt m' = q_rt m := by
  obtain ⟨a1, a2, a3, a4, a5, a6, a7, a8, a9, a10, a11, a12⟩ := h.q
  funext p q; unfold q_rt; rw [a5, a10, a8, a9]
theorem SM.wd (h : SM m m') : q_wd m' = q_wd m := by
  obtain ⟨a1, a2, a3, a4, a5, a6, a7, a8, a9, a10, a11, a12⟩ := h.q
  funext p; unfold q_wd; rw [a4]
theorem SM.ok (h : SM m m') : q_ok m' = q_ok m := by
  obtain ⟨a1, a2, a3, a4, a5, a6, a7, a8, a9, a10, a11, a12⟩ := h.q
  funext o r; unfold q_ok; rw [a3, a4, a10, h.ft, h.tg, h.ov]
theorem SM.st (h : SM m m') : RSt m' = RSt m := by
  obtain ⟨a1, a2, a3, a4, a5, a6, a7, a8, a9, a10, a11, a12⟩ := h.q
  funext a b c d; unfold RSt; rw [a3]
theorem RSet.fr (R : RSet 31 37 42 c m) (hc : SC c c') (h : SM m m') : RSet 31 37 42 c' m' := by
  obtain ⟨a1, a2, a3, a4, a5, a6, a7, a8, a9, a10, a11, a12⟩ := h.q
  obtain ⟨⟨s1, s2, s3⟩, s4, s5, s6, s7, s8, s9, s10, s11⟩ := R
  unfold RSet
  rw [a1, a2, a3, a5, a6, a7, h.1.2.2.2, h.1.1, h.1.2.1, h.1.2.2.1, hc.2.1 31 (by omega) (by omega), hc.2.1 37 (by omega) (by omega), hc.2.1 42 (by omega) (by omega)]
  refine ⟨⟨s1, s2, s3⟩, s4, s5, fun i hi j hj => ?_, fun i hi j hj => ?_, fun i hi j hj => ?_, s9, s10, s11⟩
  · rw [hc.2.1 (31 + 2 + i) (by omega) (by omega)]; exact s6 i hi j hj
  · rw [hc.2.1 (37 + 2 + i) (by omega) (by omega)]; exact s7 i hi j hj
  · rw [hc.2.1 (42 + 2 + i) (by omega) (by omega)]; exact s8 i hi j hj
theorem RPas.fr (R : RPas c m) (hc : SC c c') (h : SM m m') : RPas c' m' := by
  obtain ⟨a1, a2, a3, a4, a5, a6, a7, a8, a9, a10, a11, a12⟩ := h.q
  obtain ⟨⟨u1, u2, u3, u4⟩, ⟨b1, b2, b3, b4, b5⟩, d1⟩ := h
  unfold RPas
  rw [a1, a2, a4, a5, a8, a9, a10, a11, a12, b1, b2, b3, b4, b5, d1, hc.2.2, hc.1 5 (by omega) (by omega), hc.1 6 (by omega) (by omega), hc.1 7 (by omega) (by omega), hc.1 8 (by omega) (by omega), hc.1 9 (by omega) (by omega), hc.1 10 (by omega) (by omega)]
  exact R
/-- both at once, the state anew -/
theorem RW.fr (R : RW c m) (hc : SC c c') (h : SM m m') (hs : RSt m (c' 12) (c' 13) (c' 14) (m' 15)) : RW c' m' := ⟨R.1.fr hc h, R.2.1.fr hc h, by rw [h.st]; exact hs⟩
theorem RW.fr0 (R : RW c m) (hc : SC c c') (h : SM m m') (h12 : c' 12 = c 12) (h13 : c' 13 = c 13) (h14 : c' 14 = c 14) (h15 : m' 15 = m 15) : RW c' m' := R.fr hc h (by rw [h12, h13, h14, h15]; exact R.2.2)
end EV
