/-! The marks, and what they leave in the trace. -/
def f_tr (V : Nat → Nat → Int) (x : Int) : Nat → Nat → Int := mU V 0 12 (V 0 12 + x)
theorem f_tr_tr (V : Nat → Nat → Int) (x y : Int) : f_tr (f_tr V x) y = f_tr V (x + y) := by
  unfold f_tr
  rw [mU_eq, Int.add_assoc]
  funext g j
  simp only [mU]
  split <;> rfl
theorem f_tr_s (V : Nat → Nat → Int) (x : Int) (g : Nat) {j : Nat} (h : j ≠ 12) : f_tr V x g j = V g j := mU_ni V 0 g _ h
theorem f_tr_pe {V : Nat → Nat → Int} {x pe : Int} (h : 0 ≤ pe ∧ pe < V (Int.toNat (V 0 3)) 7) : 0 ≤ pe ∧ pe < f_tr V x (Int.toNat (f_tr V x 0 3)) 7 := by
  rw [f_tr_s V x 0 (by decide), f_tr_s V x _ (by decide)]; exact h
def c_m1 (V : Nat → Nat → Int) (pe : Int) : Int := V (Int.toNat (V 0 3) + 1) (Int.toNat pe)
def c_m2 (V : Nat → Nat → Int) (pe : Int) : Int := c_m1 V pe + zbc (V 41 (Int.toNat pe))
def c_m3 (V : Nat → Nat → Int) (pe : Int) : Int := c_m1 V pe - V 39 1
def c_m4 (V : Nat → Nat → Int) (pe : Int) : Int := c_m2 V pe * 2
def c_m5 (V : Nat → Nat → Int) (pe : Int) : Int := c_m3 V pe + pe
def c_m6 (V : Nat → Nat → Int) (pe : Int) : Int := c_m1 V pe + (V 40 0 + V 40 1 + V 40 2 + V 40 3)
theorem c_m1_tr (V : Nat → Nat → Int) (x pe : Int) : f_tr V x (Int.toNat (f_tr V x 0 3) + 1) (Int.toNat pe) = c_m1 V pe := by
  rw [f_tr_s V x 0 (by decide)]
  exact congrFun (mU_or _ _ _ (by omega)) _
theorem c_m1_r (V : Nat → Nat → Int) (x pe : Int) : c_m1 (f_tr V x) pe = c_m1 V pe := c_m1_tr V x pe
theorem c_m2_r (V : Nat → Nat → Int) (x pe : Int) : c_m2 (f_tr V x) pe = c_m2 V pe := by unfold c_m2; rw [c_m1_r]; rfl
theorem c_m3_r (V : Nat → Nat → Int) (x pe : Int) : c_m3 (f_tr V x) pe = c_m3 V pe := by unfold c_m3; rw [c_m1_r]; rfl
theorem c_m2_trr (V : Nat → Nat → Int) (x y pe : Int) : c_m1 (f_tr V x) pe + zbc (f_tr V y 41 (Int.toNat pe)) = c_m2 V pe := by rw [c_m1_r]; rfl
theorem c_m3_trr (V : Nat → Nat → Int) (x y pe : Int) : c_m1 (f_tr V x) pe - f_tr V y 39 1 = c_m3 V pe := by rw [c_m1_r]; rfl
theorem c_m4_trr (V : Nat → Nat → Int) (x pe : Int) : c_m2 (f_tr V x) pe * 2 = c_m4 V pe := by rw [c_m2_r]; rfl
theorem c_m5_trr (V : Nat → Nat → Int) (x pe : Int) : c_m3 (f_tr V x) pe + pe = c_m5 V pe := by rw [c_m3_r]; rfl
theorem c_m6_trr (V : Nat → Nat → Int) (x y pe : Int) : c_m1 (f_tr V x) pe + (f_tr V y 40 0 + f_tr V y 40 1 + f_tr V y 40 2 + f_tr V y 40 3) = c_m6 V pe := by rw [c_m1_r]; rfl
