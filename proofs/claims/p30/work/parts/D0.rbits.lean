/-! Bits of small numbers. -/
theorem zbit {a : Int} (h : 0 ≤ a) (n : Nat) : a / zp (n : Int) % 2 = if a.toNat.testBit n then 1 else 0 := by
  obtain ⟨x, rfl⟩ := Int.eq_ofNat_of_zero_le h
  have e : ((x : Int) / zp (n : Int) % 2) = ((x / 2 ^ n % 2 : Nat) : Int) := by
    unfold zp
    rw [Int.toNat_natCast]
    push_cast
    rfl
  rw [e, Int.toNat_natCast, Nat.testBit_eq_decide_div_mod_eq]
  by_cases q : x / 2 ^ n % 2 = 1
  · rw [q]; simp
  · have : x / 2 ^ n % 2 = 0 := by omega
    rw [this]; simp
theorem zbit_or {a b : Int} (n : Nat) (ha : 0 ≤ a) (hb : 0 ≤ b) : zor a b / zp (n : Int) % 2 = if a / zp (n : Int) % 2 = 1 ∨ b / zp (n : Int) % 2 = 1 then 1 else 0 := by
  rw [zbit (zor_nn a b), zbit ha, zbit hb]
  have e : (zor a b).toNat = a.toNat ||| b.toNat := by unfold zor; rw [Int.toNat_natCast]
  rw [e, Nat.testBit_or]
  cases a.toNat.testBit n <;> cases b.toNat.testBit n <;> simp
theorem zbit_zp (s n : Nat) : zp (s : Int) / zp (n : Int) % 2 = if s = n then 1 else 0 := by
  rw [zbit (zp_nn _)]
  have e : (zp (s : Int)).toNat = 2 ^ s := by unfold zp; rw [Int.toNat_natCast, Int.toNat_natCast]
  rw [e, Nat.testBit_two_pow]
  by_cases q : s = n <;> simp [q]
theorem zbit_01 (a : Int) (n : Int) : a / zp n % 2 = 0 ∨ a / zp n % 2 = 1 := by omega
theorem zbit_0 (n : Int) : (0 : Int) / zp n % 2 = 0 := by simp
theorem zbit_ext {a b : Int} (ha : 0 ≤ a ∧ a < 64) (hb : 0 ≤ b ∧ b < 64) (h : ∀ n : Nat, n < 6 → a / zp (n : Int) % 2 = b / zp (n : Int) % 2) : a = b := by
  have e : a.toNat = b.toNat := by
    refine Nat.eq_of_testBit_eq (fun n => ?_)
    by_cases q : n < 6
    · have t := h n q
      rw [zbit ha.1, zbit hb.1] at t
      revert t
      cases a.toNat.testBit n <;> cases b.toNat.testBit n <;> simp
    · have p : 64 ≤ 2 ^ n := by
        have : 2 ^ 6 ≤ 2 ^ n := Nat.pow_le_pow_right (by decide) (by omega)
        exact this
      rw [Nat.testBit_lt_two_pow (by omega), Nat.testBit_lt_two_pow (by omega)]
  omega
