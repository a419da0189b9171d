/-! PURE LAYER 1: the numbers that a memory of the reference holds -/
def q_ns (m : Mm) : Nat := (m 5 0).toNatClampNeg
def q_ng (m : Mm) : Nat := (m 5 1).toNatClampNeg
def q_na (m : Mm) : Nat := (m 5 2).toNatClampNeg
def q_np (m : Mm) : Nat := (m 0 16).toNatClampNeg
def q_sa (m : Mm) (i j : Nat) : Nat := (m 2 (5 * i + j)).toNatClampNeg
def q_st (m : Mm) (i j : Nat) : Nat := (m 3 (2 * i + j)).toNatClampNeg
def q_an (m : Mm) (i j : Nat) : Nat := (m 4 (3 * i + j)).toNatClampNeg
def q_fi (m : Mm) (p : Nat) : Nat := (m 10 p).toNatClampNeg
def q_la (m : Mm) (p : Nat) : Nat := (m 11 p).toNatClampNeg
def q_wh (m : Mm) (p : Nat) : Nat := (m 12 p).toNatClampNeg
def q_we (m : Mm) (p : Nat) : Nat := (m 13 p).toNatClampNeg
def q_vo (m : Mm) (p : Nat) : Nat := (m 14 p).toNatClampNeg
/-- a state's row: where an antenna's time out begins and ends -/
def q_of (r : Nat → Int32) (a : Nat) : Nat := (r (24 + 2 * a)).toNatClampNeg
def q_ot (r : Nat → Int32) (a : Nat) : Nat := (r (24 + 2 * a + 1)).toNatClampNeg
/-- what is laid: the same on both sides, c's sats begin at the cell s0, its stations at g0, its antennas at a0 (the heads of the Items) -/
def RSet (s0 g0 a0 : Nat) (c m : Mm) : Prop :=
  (q_ns m ≤ 4 ∧ q_ng m ≤ 3 ∧ q_na m ≤ 4) ∧ (m 5 0 = nI (q_ns m) ∧ m 5 1 = nI (q_ng m) ∧ m 5 2 = nI (q_na m)) ∧ (c s0 3 = nI (q_ns m) ∧ c g0 3 = nI (q_ng m) ∧ c a0 3 = nI (q_na m)) ∧
  (∀ i, i < q_ns m → ∀ j, j < 5 → m 2 (5 * i + j) = nI (q_sa m i j) ∧ c (s0 + 2 + i) j = nI (q_sa m i j)) ∧
  (∀ i, i < q_ng m → ∀ j, j < 2 → m 3 (2 * i + j) = nI (q_st m i j) ∧ c (g0 + 2 + i) j = nI (q_st m i j)) ∧
  (∀ i, i < q_na m → ∀ j, j < 3 → m 4 (3 * i + j) = nI (q_an m i j) ∧ c (a0 + 2 + i) j = nI (q_an m i j)) ∧
  (∀ i, i < q_ns m → q_sa m i 0 ≤ 59 ∧ 6 ≤ q_sa m i 1 ∧ q_sa m i 1 ≤ 60 ∧ q_sa m i 2 ≤ 1 ∧ 1 ≤ q_sa m i 3 ∧ q_sa m i 3 ≤ 99 ∧ q_sa m i 4 ≤ 9) ∧
  (∀ i, i < q_ng m → q_st m i 0 ≤ 59 ∧ 1 ≤ q_st m i 1 ∧ q_st m i 1 ≤ 9) ∧
  (∀ i, i < q_na m → q_an m i 0 < q_ng m ∧ q_an m i 1 ≤ 2 ∧ q_an m i 2 ≤ 5)
/-- the passes -/
def RPas (c m : Mm) : Prop :=
  q_np m ≤ 24 ∧ m 0 16 = nI (q_np m) ∧ c 4 6 = nI (q_np m) ∧
  (∀ p, p < q_np m → m 10 p = nI (q_fi m p) ∧ m 11 p = nI (q_la m p) ∧ m 12 p = nI (q_wh m p) ∧ m 13 p = nI (q_we m p) ∧ m 14 p = nI (q_vo m p)) ∧
  (∀ p, p < q_np m → c 5 p = nI (q_fi m p) ∧ c 6 p = nI (q_la m p) ∧ c 7 p = nI (q_wh m p) ∧ c 8 p = nI (q_we m p) ∧ c 9 p = nI (q_vo m p) ∧ c 10 p = nI (2 + q_sa m (q_wh m p) 2)) ∧
  (∀ p, p < q_np m → q_fi m p ≤ q_la m p ∧ q_la m p ≤ 59 ∧ q_wh m p < q_ns m ∧ q_we m p < q_ng m ∧ 1 ≤ q_vo m p ∧ q_vo m p ≤ 10800) ∧
  (∀ p q, p ≤ q → q < q_np m → q_fi m p ≤ q_fi m q)
/-- a state: the reference's row r; c's rows ca (antennas), cf and ct (times out) -/
def RSt (m : Mm) (ca cf ct r : Nat → Int32) : Prop :=
  (∀ p, p < 24 → r p = -4 ∧ ca p = -1 ∨ ∃ a, a < q_na m ∧ r p = nI a ∧ ca p = nI a) ∧
  (∀ a, a < 4 → r (24 + 2 * a) = nI (q_of r a) ∧ r (24 + 2 * a + 1) = nI (q_ot r a) ∧ q_of r a ≤ 59 ∧ q_ot r a ≤ 59) ∧
  (∀ a, a < 4 → ∃ f t : Nat, cf a = nI f ∧ ct a = nI t ∧ f ≤ 59 ∧ t ≤ 59 ∧ (f ≤ t ∧ q_of r a = f ∧ q_ot r a = t ∨ t < f ∧ q_ot r a < q_of r a))
/-- whether an antenna fits a pass -/
def q_ft (m : Mm) (r : Nat → Int32) (p a : Nat) : Bool := decide (q_an m a 0 = q_we m p ∧ (q_an m a 1 = 2 ∨ q_an m a 1 = q_sa m (q_wh m p) 2) ∧ ¬ (q_of r a ≤ q_ot r a ∧ q_fi m p ≤ q_ot r a ∧ q_of r a ≤ q_la m p))
/-- whether two passes go together on an antenna -/
def q_tg (m : Mm) (p q a : Nat) : Bool := decide (q_la m p + q_an m a 2 < q_fi m q ∨ q_la m q + q_an m a 2 < q_fi m p)
def q_ov (m : Mm) (p q : Nat) : Bool := decide (q_fi m p ≤ q_la m q ∧ q_fi m q ≤ q_la m p)
/-- a pass has an antenna -/
def q_co (r : Nat → Int32) (p : Nat) : Bool := decide (r p ≠ -4)
/-- a row of antennas is a way that may be -/
def q_ok (m : Mm) (o r : Nat → Int32) : Prop := ∀ p, p < q_np m → ∀ a, r p = nI a → a < q_na m → q_ft m o p a = true ∧ ∀ q, q < q_np m → q ≠ p → (r q = nI a → q_tg m p q a = true) ∧ (q_co r q = true → q_wh m q = q_wh m p → q_ov m p q = false)
/-- both memories at the calls' state -/
def RW (c m : Mm) : Prop := RSet 31 37 42 c m ∧ RPas c m ∧ RSt m (c 12) (c 13) (c 14) (m 15)
section EV
variable {c m : Mm}
/-! what a state says, in the form that the rows below use -/
theorem RW.np (R : RW c m) : q_np m ≤ 24 := R.2.1.1
theorem RW.na (R : RW c m) : q_na m ≤ 4 := R.1.1.2.2
theorem RW.ns (R : RW c m) : q_ns m ≤ 4 := R.1.1.1
theorem RW.ng (R : RW c m) : q_ng m ≤ 3 := R.1.1.2.1
theorem RW.cnp (R : RW c m) : c 4 6 = nI (q_np m) := R.2.1.2.2.1
theorem RW.mnp (R : RW c m) : m 0 16 = nI (q_np m) := R.2.1.2.1
theorem RW.mns (R : RW c m) : m 5 0 = nI (q_ns m) := R.1.2.1.1
theorem RW.mng (R : RW c m) : m 5 1 = nI (q_ng m) := R.1.2.1.2.1
theorem RW.mna (R : RW c m) : m 5 2 = nI (q_na m) := R.1.2.1.2.2
theorem RW.cns (R : RW c m) : c 31 3 = nI (q_ns m) := R.1.2.2.1.1
theorem RW.cng (R : RW c m) : c 37 3 = nI (q_ng m) := R.1.2.2.1.2.1
theorem RW.cna (R : RW c m) : c 42 3 = nI (q_na m) := R.1.2.2.1.2.2
theorem RW.pas (R : RW c m) {p : Nat} (hp : p < q_np m) : m 10 p = nI (q_fi m p) ∧ m 11 p = nI (q_la m p) ∧ m 12 p = nI (q_wh m p) ∧ m 13 p = nI (q_we m p) ∧ m 14 p = nI (q_vo m p) := R.2.1.2.2.2.1 p hp
theorem RW.cpa (R : RW c m) {p : Nat} (hp : p < q_np m) : c 5 p = nI (q_fi m p) ∧ c 6 p = nI (q_la m p) ∧ c 7 p = nI (q_wh m p) ∧ c 8 p = nI (q_we m p) ∧ c 9 p = nI (q_vo m p) ∧ c 10 p = nI (2 + q_sa m (q_wh m p) 2) := R.2.1.2.2.2.2.1 p hp
theorem RW.pb (R : RW c m) {p : Nat} (hp : p < q_np m) : q_fi m p ≤ q_la m p ∧ q_la m p ≤ 59 ∧ q_wh m p < q_ns m ∧ q_we m p < q_ng m ∧ 1 ≤ q_vo m p ∧ q_vo m p ≤ 10800 := R.2.1.2.2.2.2.2.1 p hp
theorem RW.srt (R : RW c m) {p q : Nat} (h : p ≤ q) (hq : q < q_np m) : q_fi m p ≤ q_fi m q := R.2.1.2.2.2.2.2.2 p q h hq
theorem RW.sat (R : RW c m) {i j : Nat} (hi : i < q_ns m) (hj : j < 5) : m 2 (5 * i + j) = nI (q_sa m i j) ∧ c (33 + i) j = nI (q_sa m i j) := R.1.2.2.2.1 i hi j hj
theorem RW.sta (R : RW c m) {i j : Nat} (hi : i < q_ng m) (hj : j < 2) : m 3 (2 * i + j) = nI (q_st m i j) ∧ c (39 + i) j = nI (q_st m i j) := R.1.2.2.2.2.1 i hi j hj
theorem RW.ant (R : RW c m) {i j : Nat} (hi : i < q_na m) (hj : j < 3) : m 4 (3 * i + j) = nI (q_an m i j) ∧ c (44 + i) j = nI (q_an m i j) := R.1.2.2.2.2.2.1 i hi j hj
theorem RW.sb (R : RW c m) {i : Nat} (hi : i < q_ns m) : q_sa m i 0 ≤ 59 ∧ 6 ≤ q_sa m i 1 ∧ q_sa m i 1 ≤ 60 ∧ q_sa m i 2 ≤ 1 ∧ 1 ≤ q_sa m i 3 ∧ q_sa m i 3 ≤ 99 ∧ q_sa m i 4 ≤ 9 := R.1.2.2.2.2.2.2.1 i hi
theorem RW.gb (R : RW c m) {i : Nat} (hi : i < q_ng m) : q_st m i 0 ≤ 59 ∧ 1 ≤ q_st m i 1 ∧ q_st m i 1 ≤ 9 := R.1.2.2.2.2.2.2.2.1 i hi
theorem RW.ab (R : RW c m) {i : Nat} (hi : i < q_na m) : q_an m i 0 < q_ng m ∧ q_an m i 1 ≤ 2 ∧ q_an m i 2 ≤ 5 := R.1.2.2.2.2.2.2.2.2 i hi
theorem RW.now (R : RW c m) {p : Nat} (hp : p < 24) : m 15 p = -4 ∧ c 12 p = -1 ∨ ∃ a, a < q_na m ∧ m 15 p = nI a ∧ c 12 p = nI a := R.2.2.1 p hp
theorem RW.out (R : RW c m) {a : Nat} (ha : a < 4) : m 15 (24 + 2 * a) = nI (q_of (m 15) a) ∧ m 15 (24 + 2 * a + 1) = nI (q_ot (m 15) a) ∧ q_of (m 15) a ≤ 59 ∧ q_ot (m 15) a ≤ 59 := R.2.2.2.1 a ha
theorem RW.cou (R : RW c m) {a : Nat} (ha : a < 4) : ∃ f t : Nat, c 13 a = nI f ∧ c 14 a = nI t ∧ f ≤ 59 ∧ t ≤ 59 ∧ (f ≤ t ∧ q_of (m 15) a = f ∧ q_ot (m 15) a = t ∨ t < f ∧ q_ot (m 15) a < q_of (m 15) a) := R.2.2.2.2 a ha
/-! fits -/
theorem fits_m (R : RW c m) {p a : Nat} (hp : p < q_np m) (ha : a < q_na m) : mX11_fits m (nI p) (nI a) = some (bI (q_ft m (m 15) p a)) := by
  have h0 := R.np; have h1 := R.na; have h2 := R.ns; have h3 := R.ng
  obtain ⟨e1, e2, e3, e4, e5⟩ := R.pas hp
  obtain ⟨b1, b2, b3, b4, b5, b6⟩ := R.pb hp
  obtain ⟨o1, o2, o3, o4⟩ := R.out (a := a) (by omega)
  have a0 := (R.ant ha (j := 0) (by omega)).1
  have a1 := (R.ant ha (j := 1) (by omega)).1
  have s2 := (R.sat b3 (j := 2) (by omega)).1
  obtain ⟨x1, x2, x3⟩ := R.ab ha
  have y2 := (R.sb b3).2.2.2.1
  rw [Nat.add_zero] at a0
  unfold mX11_fits mX11_fits_85 mX11_fits_84 mX11_fits_85 mX11_fits_128
  simp (disch := omega) only [li_0, li_1, li_2, li_3, li_4, li_5, li_6, li_24, li_32, li_59, li_60, li_240, nI_add, pk_mul, gIn_nI, cl_n, mlet_s, bd1_s, bdh_s, bd2_s, nz_lt, nz_le, nz_eq, if_true, if_false, Nat.mul_zero, Nat.zero_add, Nat.add_zero, bd1_ite, bI_if, bI_ifn, e1, e2, e3, e4, o1, o2, a0, a1, s2]
  unfold q_ft
  repeat' split
  all_goals first
    | (rw [decide_eq_true (by omega)]; rfl)
    | (rw [decide_eq_false (by omega)]; rfl)
    | (exfalso; omega)
end EV
