/-! PURE LAYER 9: give, take, out -/
theorem upd_eq (f : Nat → Int32) (i : Nat) (x : Int32) : upd f i x i = x := by simp [upd]
theorem upd_ne (f : Nat → Int32) {i k : Nat} (x : Int32) (h : k ≠ i) : upd f i x k = f k := by simp [upd, h]
section EV
variable {c m c' m' : Mm}
theorem nI_inj4 {a b : Nat} (ha : a < 4) (hb : b < 4) (h : nI a = nI b) : a = b := (nI_eq (by omega) (by omega)).mp h
theorem tg_sym (m : Mm) (p q a : Nat) : q_tg m p q a = q_tg m q p a := by
  unfold q_tg
  exact decide_eq_decide.mpr (by omega)
theorem ov_sym (m : Mm) (p q : Nat) : q_ov m p q = q_ov m q p := by
  unfold q_ov
  exact decide_eq_decide.mpr (by omega)
theorem RSt.upd' {ca cf ct r : Nat → Int32} {p : Nat} {x y : Int32} (R : RSt m ca cf ct r) (hp : p < 24) (h : x = -4 ∧ y = -1 ∨ ∃ a, a < q_na m ∧ x = nI a ∧ y = nI a) : RSt m (upd ca p y) cf ct (upd r p x) := by
  obtain ⟨a1, a2, a3⟩ := R
  have e1 : ∀ a, q_of (upd r p x) a = q_of r a := fun a => by unfold q_of; rw [upd_ne _ _ (by omega)]
  have e2 : ∀ a, q_ot (upd r p x) a = q_ot r a := fun a => by unfold q_ot; rw [upd_ne _ _ (by omega)]
  refine ⟨fun k hk => ?_, fun a ha => ?_, fun a ha => ?_⟩
  · by_cases e : k = p
    · subst e; rw [upd_eq, upd_eq]; exact h
    · rw [upd_ne _ _ e, upd_ne _ _ e]; exact a1 k hk
  · rw [e1, e2, upd_ne _ _ (by omega), upd_ne _ _ (by omega)]; exact a2 a ha
  · rw [e1, e2]; exact a3 a ha
theorem ft_out {r r' : Nat → Int32} {p a : Nat} (h : ∀ k, 24 ≤ k → r' k = r k) : q_ft m r' p a = q_ft m r p a := by
  unfold q_ft q_of q_ot
  rw [h _ (by omega), h _ (by omega)]
/-- fewer contacts, other times out -/
theorem ok_less {o o' r r' : Nat → Int32} (K : q_ok m o r) (h1 : ∀ p, p < q_np m → r' p = r p ∨ r' p = -4) (h2 : ∀ p, p < q_np m → ∀ a, a < q_na m → r' p = nI a → q_ft m o' p a = true) (hna : q_na m ≤ 4) : q_ok m o' r' := by
  intro p hp a e ha
  have n4 : ¬ (nI a = (-4 : Int32)) := by rw [nz_m4 (by omega)]; exact id
  have ep : r p = nI a := by
    rcases h1 p hp with h | h
    · rw [← h, e]
    · rw [h] at e; exact absurd e.symm n4
  obtain ⟨k1, k2⟩ := K p hp a ep ha
  refine ⟨h2 p hp a ha e, fun q hq hne => ⟨fun eq => ?_, fun hc hw => ?_⟩⟩
  · refine (k2 q hq hne).1 ?_
    rcases h1 q hq with h | h
    · rw [← h, eq]
    · rw [h] at eq; exact absurd eq.symm n4
  · refine (k2 q hq hne).2 ?_ hw
    rcases h1 q hq with h | h
    · unfold q_co at *; rw [← h]; exact hc
    · unfold q_co at hc; rw [h] at hc; exact absurd hc (by decide)
theorem okk_give {r : Nat → Int32} {p a : Nat} (K : q_ok m r r) (hp : p < q_np m) (hnp : q_np m ≤ 24) (ha : a < q_na m) (hna : q_na m ≤ 4) (hr : ∀ k, k < 24 → r k = -4 ∨ ∃ a, a < q_na m ∧ r k = nI a) (h : q_wn m r p a = 0) : q_ok m (upd r p (nI a)) (upd r p (nI a)) := by
  unfold q_wn at h
  have c1 : q_co r p = false := by
    cases hc : q_co r p with
    | false => rfl
    | true => rw [hc, if_pos rfl] at h; omega
  rw [c1, if_neg (by decide)] at h
  have c2 : q_ft m r p a = true := by
    cases hc : q_ft m r p a with
    | true => rfl
    | false => rw [hc, if_pos rfl] at h; omega
  rw [c2, if_neg (by decide)] at h
  have c3 : q_any (q_y3 m r p a) (q_np m) = false := by
    cases hc : q_any (q_y3 m r p a) (q_np m) with
    | false => rfl
    | true => rw [hc, if_pos rfl] at h; omega
  rw [c3, if_neg (by decide)] at h
  have c4 : q_any (q_y4 m r p) (q_np m) = false := by
    cases hc : q_any (q_y4 m r p) (q_np m) with
    | false => rfl
    | true => rw [hc, if_pos rfl] at h; omega
  have t3 : ∀ q, q < q_np m → q ≠ p → r q = nI a → q_tg m p q a = true := fun q hq hne e => by
    have := any_not.mp c3 q hq
    unfold q_y3 at this
    rw [decide_eq_true hne, decide_eq_true e, Bool.true_and, Bool.true_and] at this
    simpa using this
  have t4 : ∀ q, q < q_np m → q ≠ p → q_co r q = true → q_wh m q = q_wh m p → q_ov m p q = false := fun q hq hne e e2 => by
    have := any_not.mp c4 q hq
    unfold q_y4 at this
    rw [decide_eq_true hne, e, decide_eq_true e2, Bool.true_and, Bool.true_and, Bool.true_and] at this
    exact this
  have hf : ∀ p1 a1, q_ft m (upd r p (nI a)) p1 a1 = q_ft m r p1 a1 := fun p1 a1 => ft_out (fun k hk => upd_ne _ _ (by omega))
  have hco : ∀ q, q ≠ p → q_co (upd r p (nI a)) q = q_co r q := fun q hq => by unfold q_co; rw [upd_ne _ _ hq]
  intro p1 hp1 a1 e ha1
  rw [hf]
  by_cases e1 : p1 = p
  · subst e1
    rw [upd_eq] at e
    have : a1 = a := (nI_inj4 (by omega) (by omega) e).symm
    subst this
    refine ⟨c2, fun q hq hne => ?_⟩
    rw [upd_ne _ _ hne, hco q hne]
    exact ⟨t3 q hq hne, t4 q hq hne⟩
  · rw [upd_ne _ _ e1] at e
    obtain ⟨k1, k2⟩ := K p1 hp1 a1 e ha1
    refine ⟨k1, fun q hq hne => ?_⟩
    by_cases e2 : q = p
    · subst e2
      rw [upd_eq]
      refine ⟨fun e3 => ?_, fun _ e4 => ?_⟩
      · have : a = a1 := nI_inj4 (by omega) (by omega) e3
        subst this
        rw [tg_sym]
        exact t3 p1 hp1 (Ne.symm hne) e
      · rw [ov_sym]
        refine t4 p1 hp1 (Ne.symm hne) ?_ e4.symm
        unfold q_co
        rw [e]
        exact decide_eq_true (by rw [ne_eq, nz_m4 (by omega)]; exact id)
    · rw [upd_ne _ _ e2, hco q e2]
      exact k2 q hq hne
theorem SM.up15 (m : Mm) (f : Nat → Int32) : SM m (va_up m 15 f) := ⟨⟨va_up_ne _ _ (by decide), va_up_ne _ _ (by decide), va_up_ne _ _ (by decide), va_up_ne _ _ (by decide)⟩, ⟨va_up_ne _ _ (by decide), va_up_ne _ _ (by decide), va_up_ne _ _ (by decide), va_up_ne _ _ (by decide), va_up_ne _ _ (by decide)⟩, by rw [va_up_ne _ _ (by decide)]⟩
theorem SC.up12 (c : Mm) {k : Nat} (f : Nat → Int32) (hk : k = 12 ∨ k = 13 ∨ k = 14) : SC c (va_up c k f) := ⟨fun j h1 h2 => va_up_ne _ _ (by omega), fun j h1 h2 => va_up_ne _ _ (by omega), by rw [va_up_ne _ _ (by omega)]⟩
/-- a state's rows anew -/
theorem RC.now {fa ff ft r : Nat → Int32} (R : RC c m) (hs : RSt m fa ff ft r) (K : q_ok m r r) (h12 : c' 12 = fa) (h13 : c' 13 = ff) (h14 : c' 14 = ft) (h15 : m' 15 = r) (hc : ∀ k, k ≠ 12 → k ≠ 13 → k ≠ 14 → c' k = c k) (hm : ∀ k, k ≠ 15 → m' k = m k) : RC c' m' := by
  obtain ⟨a1, a2, a3, a4⟩ := R
  have hS : SM m m' := ⟨⟨hm 2 (by decide), hm 3 (by decide), hm 4 (by decide), hm 5 (by decide)⟩, ⟨hm 10 (by decide), hm 11 (by decide), hm 12 (by decide), hm 13 (by decide), hm 14 (by decide)⟩, by rw [hm 0 (by decide)]⟩
  have hC : SC c c' := ⟨fun j h1 h2 => hc j (by omega) (by omega) (by omega), fun j h1 h2 => hc j (by omega) (by omega) (by omega), by rw [hc 4 (by omega) (by omega) (by omega)]⟩
  refine ⟨a1.fr (hc 1 (by decide) (by decide) (by decide)) (hc 2 (by decide) (by decide) (by decide)) (by rw [hm 0 (by decide)]) (hm 1 (by decide)), a2.fr hC hS (by rw [h12, h13, h14, h15]; exact hs), by rw [hS.ok, h15]; exact K, a4.fr (fun k hk => hc k (by omega) (by omega) (by omega)) hS (hm 16 (by decide)) (by rw [hm 0 (by decide)])⟩
theorem go_give (R : RC c m) (x y : Int32) : ∃ v c1 m1, mX10_give c x y = some (v, c1) ∧ mX11_give m x y = some (v, m1) ∧ RC c1 m1 ∧ (c1 22 9 = 0 ∨ c1 = c ∧ m1 = m) := by
  have RR := R.2.1
  have h0 := RR.np; have h1 := RR.na
  unfold mX10_give mX11_give
  rw [has5 RR x, has42 RR y, isP_m RR x, isA_m RR y]
  simp only [bd1_s, bI_if]
  rcases inB_c x (n := q_np m) (by omega) with hx | ⟨p, hp, rfl⟩
  · rw [hx]; exact ⟨-1, c, m, rfl, rfl, R, Or.inr ⟨rfl, rfl⟩⟩
  rcases inB_c y (n := q_na m) (by omega) with hy | ⟨a, ha, rfl⟩
  · rw [hy, inB_t hp (by omega)]; exact ⟨-1, c, m, rfl, rfl, R, Or.inr ⟨rfl, rfl⟩⟩
  rw [inB_t hp (by omega), inB_t ha (by omega), if_pos rfl, if_pos rfl, if_pos rfl, if_pos rfl, why_c RR hp ha, why_m RR hp ha, bd1_s, bd1_s]
  have hw : q_wn m (m 15) p a ≤ 4 := by unfold q_wn; repeat' split
                                        all_goals omega
  simp (disch := omega) only [li_0, nz_eq, nz_le]
  by_cases h : q_wn m (m 15) p a = 0
  case neg =>
    rw [if_neg h, if_neg (by omega)]
    exact ⟨-2, c, m, rfl, rfl, R, Or.inr ⟨rfl, rfl⟩⟩
  rw [if_pos h, if_pos (by omega)]
  obtain ⟨c1, m1, e1, e2, R1, hS, e3, e4, e5, e6, e7⟩ := prep_ok R
  have hq := hS.q
  rw [e1, e2, bdh_s, bdh_s, gIn_nI (by omega) (by omega), gIn_nI (by omega) (by omega), cl_n (by omega), mlet_s, mlet_s]
  have e15 := e6 15 (by decide) (by decide)
  have RR1 := R1.2.1
  have R2 : RC (wr c1 12 p (nI a)) (wr m1 15 p (nI a)) := by
    refine R1.now (fa := upd (c1 12) p (nI a)) (r := upd (m1 15) p (nI a)) (RR1.2.2.upd' (by omega) (Or.inr ⟨a, by rw [hq.2.2.1]; exact ha, rfl, rfl⟩)) ?_ (wr_row _ _ _ _) (wr_cell _ _ _ (by decide)) (wr_cell _ _ _ (by decide)) (wr_row _ _ _ _) (fun k k1 _ _ => wr_cell _ _ _ k1) (fun k k1 => wr_cell _ _ _ k1)
    rw [hS.ok, e15]
    refine okk_give R.2.2.1 hp h0 ha h1 (fun k hk => ?_) h
    rcases RR.now hk with ⟨w1, w2⟩ | ⟨b, w1, w2, w3⟩
    · exact Or.inl w1
    · exact Or.inr ⟨b, w1, w2⟩
  rw [cb_c R2.2.1, co_m R2.2.1, bd1_s, bd1_s, bc_mk _ _ (by rw [show q_np (wr m1 15 p (nI a)) = q_np m from by unfold q_np; rw [wr_cell _ _ _ (by decide), e7 16 (by decide)]]; exact h0), bd1_s]
  exact ⟨_, _, _, rfl, rfl, R2, Or.inl (by rw [wr_cell _ _ _ (by decide), e3]; rfl)⟩
theorem go_take (R : RC c m) (x : Int32) : ∃ v c1 m1, mX10_take c x = some (v, c1) ∧ mX11_take m x = some (v, m1) ∧ RC c1 m1 ∧ (c1 22 9 = 0 ∨ c1 = c ∧ m1 = m) := by
  have RR := R.2.1
  have h0 := RR.np; have h1 := RR.na
  unfold mX10_take mX11_take
  rw [has5 RR x, isP_m RR x]
  simp only [bd1_s, bI_if]
  rcases inB_c x (n := q_np m) (by omega) with hx | ⟨p, hp, rfl⟩
  · rw [hx]; exact ⟨-1, c, m, rfl, rfl, R, Or.inr ⟨rfl, rfl⟩⟩
  rw [inB_t hp (by omega), if_pos rfl, if_pos rfl, gIn_nI (by omega) (by omega), gIn_nI (by omega) (by omega), cl_n (by omega), mlet_s, mlet_s]
  rcases co_m4 RR (p := p) (by omega) with ⟨w1, w2, w3⟩ | ⟨w1, w2, w3, w4⟩
  · rw [w2, w3]; exact ⟨-2, c, m, rfl, rfl, R, Or.inr ⟨rfl, rfl⟩⟩
  generalize q_ac (m 15) p = a at w2 w3 w4
  rw [w3, w4, if_neg (by rw [nz_m1 (by omega)]; exact id), if_neg (by rw [nz_m4 (by omega)]; exact id)]
  obtain ⟨c1, m1, e1, e2, R1, hS, e3, e4, e5, e6, e7⟩ := prep_ok R
  rw [e1, e2, bdh_s, bdh_s, gIn_nI (by omega) (by omega), gIn_nI (by omega) (by omega), mlet_s, mlet_s]
  have e15 := e6 15 (by decide) (by decide)
  refine ⟨nI a, _, _, rfl, rfl, ?_, Or.inl (by rw [wr_cell _ _ _ (by decide), e3])⟩
  refine R1.now (fa := upd (c1 12) p (-1)) (r := upd (m1 15) p (-4)) (R1.2.1.2.2.upd' (by omega) (Or.inl ⟨rfl, rfl⟩)) ?_ (wr_row _ _ _ _) (wr_cell _ _ _ (by decide)) (wr_cell _ _ _ (by decide)) (wr_row _ _ _ _) (fun k k1 _ _ => wr_cell _ _ _ k1) (fun k k1 => wr_cell _ _ _ k1)
  rw [hS.ok, e15]
  refine ok_less R.2.2.1 (fun q hq => ?_) (fun q hq b hb eq => ?_) h1
  · by_cases e : q = p
    · subst e; rw [upd_eq]; exact Or.inr rfl
    · rw [upd_ne _ _ e]; exact Or.inl rfl
  · by_cases e : q = p
    · subst e
      rw [upd_eq] at eq
      exact absurd eq.symm (by rw [nz_m4 (by omega)]; exact id)
    · rw [upd_ne _ _ e] at eq
      rw [ft_out (r := m 15) (fun k hk => upd_ne _ _ (by omega))]
      exact (R.2.2.1 q hq b eq hb).1
/-! contacts that don't fit go -/
def q_dr (m : Mm) (o : Nat → Int32) (a i k : Nat) : Bool := decide (k < i) && (decide (o k = nI a) && !q_ft m o k a)
theorem dr_at (m : Mm) (o : Nat → Int32) (a i : Nat) : q_dr m o a i i = false := by unfold q_dr; rw [decide_eq_false (by omega)]; rfl
theorem dr_s (m : Mm) (o : Nat → Int32) (a i k : Nat) : q_dr m o a (i + 1) k = if k = i then (decide (o k = nI a) && !q_ft m o k a) else q_dr m o a i k := by
  unfold q_dr
  by_cases e : k = i
  · rw [if_pos e, decide_eq_true (by omega), Bool.true_and]
  · rw [if_neg e, show decide (k < i + 1) = decide (k < i) from decide_eq_decide.mpr (by omega)]
def q_rm (m : Mm) (o : Nat → Int32) (a i : Nat) : Nat → Int32 := fun k => if q_dr m o a i k = true then -4 else o k
def q_rc (m : Mm) (o ca : Nat → Int32) (a i : Nat) : Nat → Int32 := fun k => if q_dr m o a i k = true then -1 else ca k
theorem rm_out {o : Nat → Int32} {a i k : Nat} (hi : i ≤ 24) (hk : 24 ≤ k) : q_rm m o a i k = o k := by
  unfold q_rm q_dr
  rw [decide_eq_false (by omega)]; rfl
theorem dr_rst {o ca cf ct : Nat → Int32} {a i : Nat} (hi : i ≤ 24) (R : RSt m ca cf ct o) : RSt m (q_rc m o ca a i) cf ct (q_rm m o a i) := by
  obtain ⟨a1, a2, a3⟩ := R
  have e1 : ∀ b, q_of (q_rm m o a i) b = q_of o b := fun b => by unfold q_of; rw [rm_out hi (by omega)]
  have e2 : ∀ b, q_ot (q_rm m o a i) b = q_ot o b := fun b => by unfold q_ot; rw [rm_out hi (by omega)]
  refine ⟨fun k hk => ?_, fun b hb => ?_, fun b hb => ?_⟩
  · unfold q_rc q_rm
    cases q_dr m o a i k with
    | true => exact Or.inl ⟨rfl, rfl⟩
    | false => exact a1 k hk
  · rw [e1, e2, rm_out hi (by omega), rm_out hi (by omega)]; exact a2 b hb
  · rw [e1, e2]; exact a3 b hb
theorem va_up_2 (h : Mm) (k : Nat) (f g : Nat → Int32) : va_up (va_up h k f) k g = va_up h k g := by
  funext j
  by_cases e : j = k
  · subst e; rw [va_up_self, va_up_self]
  · rw [va_up_ne _ _ e, va_up_ne _ _ e, va_up_ne _ _ e]
theorem va_up_id (h : Mm) (k : Nat) : va_up h k (h k) = h := by
  funext j
  by_cases e : j = k
  · subst e; rw [va_up_self]
  · rw [va_up_ne _ _ e]
/-- one turn of the loops that drop -/
theorem dr_one {o ca : Nat → Int32} {a i : Nat} (hb : (decide (o i = nI a) && !q_ft m o i a) = true) : upd (q_rm m o a i) i (-4) = q_rm m o a (i + 1) ∧ upd (q_rc m o ca a i) i (-1) = q_rc m o ca a (i + 1) := by
  constructor
  · funext k
    unfold q_rm
    rw [dr_s]
    by_cases e : k = i
    · subst e; rw [upd_eq, if_pos rfl, hb]; rfl
    · rw [upd_ne _ _ e, if_neg e]
  · funext k
    unfold q_rc
    rw [dr_s]
    by_cases e : k = i
    · subst e; rw [upd_eq, if_pos rfl, hb]; rfl
    · rw [upd_ne _ _ e, if_neg e]
theorem dr_no {o ca : Nat → Int32} {a i : Nat} (hb : (decide (o i = nI a) && !q_ft m o i a) = false) : q_rm m o a i = q_rm m o a (i + 1) ∧ q_rc m o ca a i = q_rc m o ca a (i + 1) := by
  have : ∀ k, q_dr m o a (i + 1) k = q_dr m o a i k := fun k => by
    rw [dr_s]
    by_cases e : k = i
    · subst e; rw [if_pos rfl, hb, dr_at]
    · rw [if_neg e]
  constructor
  · funext k; unfold q_rm; rw [this]
  · funext k; unfold q_rc; rw [this]
theorem drop_ok (R : RW c m) {a : Nat} (ha : a < q_na m) : ∃ v, mX4_dropContactsThatDoNotFit c (nI a) = some (v, va_up c 12 (q_rc m (m 15) (c 12) a (q_np m))) ∧ mX11_out_88 FU (nI a) 0 0 m = some (v, va_up m 15 (q_rm m (m 15) a (q_np m))) := by
  have h0 := R.np; have h1 := R.na
  have Ri : ∀ i, i ≤ 24 → RW (va_up c 12 (q_rc m (m 15) (c 12) a i)) (va_up m 15 (q_rm m (m 15) a i)) := fun i hi =>
    R.fr (SC.up12 c _ (Or.inl rfl)) (SM.up15 m _) (by rw [va_up_self, va_up_self, va_up_ne _ _ (by decide), va_up_ne _ _ (by decide)]; exact dr_rst hi R.2.2)
  have hft : ∀ i k, i ≤ 24 → q_ft (va_up m 15 (q_rm m (m 15) a i)) (va_up m 15 (q_rm m (m 15) a i) 15) k a = q_ft m (m 15) k a := fun i k hi => by
    rw [(SM.up15 m _).ft, va_up_self]
    exact ft_out (fun k hk => rm_out hi hk)
  have hnp : ∀ i, q_np (va_up m 15 (q_rm m (m 15) a i)) = q_np m := fun i => (SM.up15 m _).q.2.2.2.1
  have hna : ∀ i, q_na (va_up m 15 (q_rm m (m 15) a i)) = q_na m := fun i => (SM.up15 m _).q.2.2.1
  have z0 : ∀ k, q_dr m (m 15) a 0 k = false := fun k => by unfold q_dr; rw [decide_eq_false (by omega)]; rfl
  have e0 : q_rm m (m 15) a 0 = m 15 := by funext k; unfold q_rm; rw [z0]; rfl
  have e1 : q_rc m (m 15) (c 12) a 0 = c 12 := by funext k; unfold q_rc; rw [z0]; rfl
  refine ⟨nI (fb_ct (fun k => decide (m 15 k = nI a) && !q_ft m (m 15) k a) (q_np m)), ?_, ?_⟩
  · have := lo_v (fun n i (x : Int32 × Mm) => mX4_dropContactsThatDoNotFit_4 n (nI a) x.1 (nI i) x.2) (some (nI (fb_ct (fun k => decide (m 15 k = nI a) && !q_ft m (m 15) k a) (q_np m)), va_up c 12 (q_rc m (m 15) (c 12) a (q_np m)))) (fun i => (nI (fb_ct (fun k => decide (m 15 k = nI a) && !q_ft m (m 15) k a) i), va_up c 12 (q_rc m (m 15) (c 12) a i))) (q_np m) (fun n => ?_) (fun n i hi => ?_) FU 0 (by omega) (fu_lt (by omega))
    · simp only [e1, va_up_id] at this
      exact this
    · show mX4_dropContactsThatDoNotFit_4 (n + 1) _ _ _ _ = _
      dsimp only
      rw [mX4_dropContactsThatDoNotFit_4, va_up_ne _ _ (by decide), R.cnp, if_pos (nI_le (Nat.le_refl _) (by omega))]
    · show mX4_dropContactsThatDoNotFit_4 (n + 1) _ _ _ _ = mX4_dropContactsThatDoNotFit_4 n _ _ _ _
      have hf := fits_c (Ri i (by omega)) (p := i) (a := a) (by rw [hnp]; exact hi) (by rw [hna]; exact ha)
      rw [hft i i (by omega)] at hf
      have ec : (c 12 i = nI a) = (m 15 i = nI a) := by
        rcases R.now (p := i) (by omega) with ⟨w1, w2⟩ | ⟨b, w1, w2, w3⟩
        · rw [w1, w2]
          exact propext ⟨fun z => absurd z.symm (by rw [nz_m1 (by omega)]; exact id), fun z => absurd z.symm (by rw [nz_m4 (by omega)]; exact id)⟩
        · rw [w2, w3]
      dsimp only
      rw [mX4_dropContactsThatDoNotFit_4, va_up_ne _ _ (by decide), R.cnp, if_neg (nI_ge hi (by omega)), gIn_nI (by omega) (by omega), cl_n (by omega), hf, va_up_self]
      unfold mX4_dropContactsThatDoNotFit_50
      rw [show q_rc m (m 15) (c 12) a i i = c 12 i from by unfold q_rc; rw [dr_at]; rfl, bd1_s, gIn_nI (by omega) (by omega), mlet_s, ad_1 i, ad_1, fb_ct_succ]
      simp only [bI_if, ec]
      by_cases d1 : m 15 i = nI a
      · rw [if_pos d1]
        by_cases d2 : q_ft m (m 15) i a = true
        · have hb : (decide (m 15 i = nI a) && !q_ft m (m 15) i a) = false := by rw [d2]; simp
          rw [if_pos d2, hb, (dr_no (ca := c 12) hb).2]; rfl
        · have hb : (decide (m 15 i = nI a) && !q_ft m (m 15) i a) = true := by rw [decide_eq_true d1]; simpa using d2
          rw [if_neg d2, hb, if_pos rfl]
          have := (dr_one (ca := c 12) hb).2
          rw [show wr (va_up c 12 (q_rc m (m 15) (c 12) a i)) 12 i (-1) = va_up c 12 (q_rc m (m 15) (c 12) a (i + 1)) from by rw [wr, va_up_self, va_up_2, this]]
      · have hb : (decide (m 15 i = nI a) && !q_ft m (m 15) i a) = false := by rw [decide_eq_false d1]; rfl
        rw [if_neg d1, hb, (dr_no (ca := c 12) hb).2]; rfl
  · have := lo_v (fun n i (x : Int32 × Mm) => mX11_out_88 n (nI a) x.1 (nI i) x.2) (some (nI (fb_ct (fun k => decide (m 15 k = nI a) && !q_ft m (m 15) k a) (q_np m)), va_up m 15 (q_rm m (m 15) a (q_np m)))) (fun i => (nI (fb_ct (fun k => decide (m 15 k = nI a) && !q_ft m (m 15) k a) i), va_up m 15 (q_rm m (m 15) a i))) (q_np m) (fun n => ?_) (fun n i hi => ?_) FU 0 (by omega) (fu_lt (by omega))
    · simp only [e0, va_up_id] at this
      exact this
    · show mX11_out_88 (n + 1) _ _ _ _ = _
      dsimp only
      rw [mX11_out_88, va_up_ne _ _ (by decide), R.mnp, if_pos (nI_le (Nat.le_refl _) (by omega))]
    · show mX11_out_88 (n + 1) _ _ _ _ = mX11_out_88 n _ _ _ _
      have hf := fits_m (Ri i (by omega)) (p := i) (a := a) (by rw [hnp]; exact hi) (by rw [hna]; exact ha)
      rw [hft i i (by omega)] at hf
      dsimp only
      rw [mX11_out_88, va_up_ne _ _ (by decide), R.mnp, if_neg (nI_ge hi (by omega)), gIn_nI (by omega) (by omega), cl_n (by omega), hf, va_up_self]
      unfold mX11_out_130
      rw [show q_rm m (m 15) a i i = m 15 i from by unfold q_rm; rw [dr_at]; rfl, bd1_s, gIn_nI (by omega) (by omega), mlet_s, ad_1 i, ad_1, fb_ct_succ]
      simp only [bI_if]
      by_cases d1 : m 15 i = nI a
      · rw [if_pos d1]
        by_cases d2 : q_ft m (m 15) i a = true
        · have hb : (decide (m 15 i = nI a) && !q_ft m (m 15) i a) = false := by rw [d2]; simp
          rw [if_pos d2, hb, (dr_no (ca := c 12) hb).1]; rfl
        · have hb : (decide (m 15 i = nI a) && !q_ft m (m 15) i a) = true := by rw [decide_eq_true d1]; simpa using d2
          rw [if_neg d2, hb, if_pos rfl]
          have := (dr_one (ca := c 12) hb).1
          rw [show wr (va_up m 15 (q_rm m (m 15) a i)) 15 i (-4) = va_up m 15 (q_rm m (m 15) a (i + 1)) from by rw [wr, va_up_self, va_up_2, this]]
      · have hb : (decide (m 15 i = nI a) && !q_ft m (m 15) i a) = false := by rw [decide_eq_false d1]; rfl
        rw [if_neg d1, hb, (dr_no (ca := c 12) hb).1]; rfl
theorem go_out (R : RC c m) (x y z : Int32) : ∃ v c1 m1, mX10_out c x y z = some (v, c1) ∧ mX11_out m x y z = some (v, m1) ∧ RC c1 m1 ∧ (c1 22 9 = 0 ∨ c1 = c ∧ m1 = m) := by
  have RR := R.2.1
  have h0 := RR.np; have h1 := RR.na
  unfold mX10_out mX11_out
  rw [has42 RR x, isA_m RR x, slot_c y, slot_c z, in_60 y, in_60 z]
  simp only [bd1_s, bI_if]
  rcases inB_c x (n := q_na m) (by omega) with hx | ⟨a, ha, rfl⟩
  · rw [hx]; exact ⟨-1, c, m, rfl, rfl, R, Or.inr ⟨rfl, rfl⟩⟩
  rcases inB_c y (n := 60) (by omega) with hy | ⟨f, hf, rfl⟩
  · rw [hy, inB_t ha (by omega)]; exact ⟨-1, c, m, rfl, rfl, R, Or.inr ⟨rfl, rfl⟩⟩
  rcases inB_c z (n := 60) (by omega) with hz | ⟨t, ht, rfl⟩
  · rw [hz, inB_t ha (by omega), inB_t hf (by omega)]; exact ⟨-1, c, m, rfl, rfl, R, Or.inr ⟨rfl, rfl⟩⟩
  rw [inB_t ha (by omega), inB_t hf (by omega), inB_t ht (by omega)]
  simp only [if_true]
  obtain ⟨c1, m1, e1, e2, R1, hS, e3, e4, e5, e6, e7⟩ := prep_ok R
  rw [e1, e2, bdh_s, bdh_s, gIn_nI (by omega) (by omega), mlet_s, gIn_nI (by omega) (by omega), mlet_s, cl_n (by omega)]
  have hq := hS.q
  have RR1 := R1.2.1
  obtain ⟨k1, k2, k3, k4⟩ : (∃ f' t' : Nat, f' ≤ 59 ∧ t' ≤ 59 ∧ (f ≤ t ∧ f' = f ∧ t' = t ∨ t < f ∧ t' < f') ∧ (if nI f ≤ nI t then mX11_out_58 (nI a) (nI f) (nI t) (nI f) (24 + 2 * nI a) m1 else mX11_out_58 (nI a) (nI f) (nI t) 1 (24 + 2 * nI a) m1) = mX11_out_88 FU (nI a) 0 0 (wr (wr m1 15 (24 + 2 * a) (nI f')) 15 (24 + 2 * a + 1) (nI t'))) ∧ True ∧ True ∧ True := by
    refine ⟨?_, trivial, trivial, trivial⟩
    unfold mX11_out_58 mX11_out_81
    rw [mu_2, ad_24, ad_1]
    simp (disch := omega) only [mlet_s, nz_le, gIn_nI, cl_n]
    by_cases h : f ≤ t
    · refine ⟨f, t, by omega, by omega, Or.inl ⟨h, rfl, rfl⟩, ?_⟩
      rw [if_pos h, if_pos h]
    · refine ⟨1, 0, by omega, by omega, Or.inr ⟨by omega, by omega⟩, ?_⟩
      rw [if_neg h, if_neg h]
      rfl
  obtain ⟨f', t', b1, b2, b3, b4⟩ := k1
  rw [b4]
  generalize hm2 : wr (wr m1 15 (24 + 2 * a) (nI f')) 15 (24 + 2 * a + 1) (nI t') = m2
  generalize hc2 : wr (wr c1 13 a (nI f)) 14 a (nI t) = c2
  have em : ∀ k, k ≠ 15 → m2 k = m1 k := fun k hk => by rw [← hm2, wr_cell _ _ _ hk, wr_cell _ _ _ hk]
  have em15 : ∀ k, m2 15 k = if k = 24 + 2 * a + 1 then nI t' else if k = 24 + 2 * a then nI f' else m1 15 k := fun k => by
    rw [← hm2, wr_if, wr_if]
    simp only [true_and]
  have ec : ∀ k, k ≠ 13 → k ≠ 14 → c2 k = c1 k := fun k k1 k2 => by rw [← hc2, wr_cell _ _ _ k2, wr_cell _ _ _ k1]
  have ec13 : ∀ k, c2 13 k = if k = a then nI f else c1 13 k := fun k => by rw [← hc2, wr_cell _ _ _ (by decide), wr_if]; simp only [true_and]
  have ec14 : ∀ k, c2 14 k = if k = a then nI t else c1 14 k := fun k => by rw [← hc2, wr_if, wr_cell _ _ _ (by decide)]; simp only [true_and]
  have hS2 : SM m1 m2 := ⟨⟨em 2 (by decide), em 3 (by decide), em 4 (by decide), em 5 (by decide)⟩, ⟨em 10 (by decide), em 11 (by decide), em 12 (by decide), em 13 (by decide), em 14 (by decide)⟩, by rw [em 0 (by decide)]⟩
  have hC2 : SC c1 c2 := ⟨fun j h1 h2 => ec j (by omega) (by omega), fun j h1 h2 => ec j (by omega) (by omega), by rw [ec 4 (by omega) (by omega)]⟩
  have hof : ∀ b, q_of (m2 15) b = if b = a then f' else q_of (m1 15) b := fun b => by
    unfold q_of
    rw [em15, if_neg (by omega)]
    by_cases e : b = a
    · rw [if_pos (by omega), if_pos e, cl_n (by omega)]
    · rw [if_neg (by omega), if_neg e]
  have hot : ∀ b, q_ot (m2 15) b = if b = a then t' else q_ot (m1 15) b := fun b => by
    unfold q_ot
    rw [em15]
    by_cases e : b = a
    · rw [if_pos (by omega), if_pos e, cl_n (by omega)]
    · rw [if_neg (by omega), if_neg (by omega), if_neg e]
  have hst : RSt m1 (c2 12) (c2 13) (c2 14) (m2 15) := by
    obtain ⟨a1, a2, a3⟩ := RR1.2.2
    refine ⟨fun k hk => ?_, fun b hb => ?_, fun b hb => ?_⟩
    · rw [ec 12 (by decide) (by decide), em15, if_neg (by omega), if_neg (by omega)]; exact a1 k hk
    · rw [hof, hot, em15, em15, if_neg (by omega)]
      by_cases e : b = a
      · rw [if_pos (by omega), if_pos e, if_pos e, if_pos (by omega)]
        exact ⟨rfl, rfl, b1, b2⟩
      · rw [if_neg (by omega), if_neg e, if_neg e, if_neg (by omega), if_neg (by omega)]
        exact a2 b hb
    · rw [hof, hot, ec13, ec14]
      by_cases e : b = a
      · rw [if_pos e, if_pos e, if_pos e, if_pos e]
        exact ⟨f, t, rfl, rfl, by omega, by omega, by omega⟩
      · rw [if_neg e, if_neg e, if_neg e, if_neg e]
        exact a3 b hb
  have R2 : RW c2 m2 := RR1.fr hC2 hS2 hst
  have hna2 : q_na m2 = q_na m := by rw [hS2.q.2.2.1, hq.2.2.1]
  have hnp2 : q_np m2 = q_np m := by rw [hS2.q.2.2.2.1, hq.2.2.2.1]
  obtain ⟨v, d1, d2⟩ := drop_ok R2 (a := a) (by rw [hna2]; exact ha)
  rw [d1, d2, bd2_s]
  refine ⟨v, _, _, rfl, rfl, ?_, Or.inl ?_⟩
  · have hd : ∀ k : Nat, q_np m2 ≤ 24 := fun _ => by rw [hnp2]; exact h0
    refine R1.now (fa := q_rc m2 (m2 15) (c2 12) a (q_np m2)) (ff := c2 13) (ft := c2 14) (r := q_rm m2 (m2 15) a (q_np m2)) ?_ ?_ (va_up_self _ _ _) (va_up_ne _ _ (by decide)) (va_up_ne _ _ (by decide)) (va_up_self _ _ _) (fun k k1 k2 k3 => by rw [va_up_ne _ _ k1, ec k k2 k3]) (fun k k1 => by rw [va_up_ne _ _ k1, em k k1])
    · rw [← hS2.st]
      exact dr_rst (hd 0) (R2.2.2)
    · rw [← hS2.ok]
      have K1 : q_ok m2 (m1 15) (m1 15) := by rw [hS2.ok]; exact R1.2.2.1
      refine ok_less (r := m1 15) K1 (fun p hp => ?_) (fun p hp b hb e => ?_) (by rw [hna2]; exact h1)
      · unfold q_rm
        cases q_dr m2 (m2 15) a (q_np m2) p with
        | true => exact Or.inr rfl
        | false =>
          refine Or.inl ?_
          have : m2 15 p = m1 15 p := by rw [em15, if_neg (by omega), if_neg (by omega)]
          exact this
      · have hpo : m2 15 p = m1 15 p := by rw [em15, if_neg (by omega), if_neg (by omega)]
        rw [ft_out (r := m2 15) (fun k hk => rm_out (hd 0) hk)]
        unfold q_rm at e
        cases hdr : q_dr m2 (m2 15) a (q_np m2) p with
        | true =>
          rw [hdr, if_pos rfl] at e
          exact absurd e.symm (by rw [nz_m4 (by omega)]; exact id)
        | false =>
          rw [hdr, if_neg (by decide)] at e
          by_cases eb : b = a
          · subst eb
            unfold q_dr at hdr
            rw [decide_eq_true hp, decide_eq_true e, Bool.true_and, Bool.true_and] at hdr
            simpa using hdr
          · have := (K1 p hp b (by rw [← hpo, e]) hb).1
            unfold q_ft at this ⊢
            rw [hof, hot, if_neg eb, if_neg eb]
            exact this
  · rw [va_up_ne _ _ (by decide), ec 22 (by decide) (by decide), e3]
end EV
