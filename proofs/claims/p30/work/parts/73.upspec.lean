/-! The reference's uplands. -/
def f_up0 (M : Nat → Nat → Int) : Nat → Nat → Int :=
  let A := f_read M
  let B := mU A 2 0 (A 2 1)
  let C := mU B 5 0 (B 5 1)
  mU C 9 0 (C 9 1)
def f_upZ (K : Nat → Nat → Int) (n : Nat) : Nat → Nat → Int := fun f k => if f = 19 ∧ k < n then 0 else K f k
def f_upP (K : Nat → Nat → Int) (n : Nat) : Nat → Nat → Int := fun f k => if (f = 3 ∨ f = 4) ∧ k < n then K f (6 + k) else K f k
def f_upS (K : Nat → Nat → Int) (n : Nat) : Nat → Nat → Int := fun f k => if (f = 6 ∨ f = 7 ∨ f = 8) ∧ k < n then K f (6 + k) else if f = 19 ∧ 6 ≤ k ∧ k < 6 + n then (if (k : Int) - 6 < K 5 0 then zp (K 8 k) else 0) else K f k
def f_upW (K : Nat → Nat → Int) (n : Nat) : Nat → Nat → Int := fun f k => if f = 10 ∧ k < n then K f (6 + k) else K f k
def f_upF (K : Nat → Nat → Int) (n : Nat) : Nat → Nat → Int := fun f k => if f = 19 ∧ 2 ≤ k ∧ k < 2 + n then K 11 (k - 2) else K f k
def f_upE (K : Nat → Nat → Int) : Nat → Nat → Int := mU (mU (mU (mU (mU K 20 0 0) 23 0 0) 23 1 0) 28 0 0) 1 0 0
def f_upl (M : Nat → Nat → Int) : Nat → Nat → Int := if f_read M 16 0 = 0 then f_upE (f_upF (f_upW (f_upS (f_upP (f_upZ (f_up0 M) 29) 6) 6) 6) 4) else f_read M
theorem f_upZ_0 (K : Nat → Nat → Int) : f_upZ K 0 = K := by funext f k; simp [f_upZ]
theorem f_upP_0 (K : Nat → Nat → Int) : f_upP K 0 = K := by funext f k; simp [f_upP]
theorem f_upS_0 (K : Nat → Nat → Int) : f_upS K 0 = K := by
  funext f k
  unfold f_upS
  rw [if_neg (by omega), if_neg (by omega)]
theorem f_upW_0 (K : Nat → Nat → Int) : f_upW K 0 = K := by funext f k; simp [f_upW]
theorem f_upF_0 (K : Nat → Nat → Int) : f_upF K 0 = K := by
  funext f k
  unfold f_upF
  rw [if_neg (by omega)]
theorem f_upZ_step (K : Nat → Nat → Int) {n : Int} (h : 0 ≤ n) : mU (f_upZ K (Int.toNat n)) 19 (Int.toNat n) 0 = f_upZ K (Int.toNat (n + 1)) := by
  have e1 : Int.toNat (n + 1) = Int.toNat n + 1 := by omega
  rw [e1]
  funext f k
  simp only [mU, f_upZ]
  by_cases q : f = 19 ∧ k = Int.toNat n
  · rw [if_pos q, if_pos (by omega)]
  · rw [if_neg q]
    by_cases q2 : f = 19 ∧ k < Int.toNat n
    · rw [if_pos q2, if_pos (by omega)]
    · rw [if_neg q2, if_neg (by omega)]
theorem f_upP_step (K : Nat → Nat → Int) {n x y : Int} (h : 0 ≤ n) (hx : x = K 3 (6 + Int.toNat n)) (hy : y = K 4 (6 + Int.toNat n)) : mU (mU (f_upP K (Int.toNat n)) 3 (Int.toNat n) x) 4 (Int.toNat n) y = f_upP K (Int.toNat (n + 1)) := by
  have e1 : Int.toNat (n + 1) = Int.toNat n + 1 := by omega
  rw [e1, hx, hy]
  generalize Int.toNat n = j
  funext f k
  simp only [mU, f_upP]
  by_cases hk : k = j
  · subst hk
    by_cases h3 : f = 3
    · subst h3; simp
    · by_cases h4 : f = 4
      · subst h4; simp
      · simp [h3, h4]
  · rw [if_neg (by omega), if_neg (by omega)]
    by_cases q : (f = 3 ∨ f = 4) ∧ k < j
    · rw [if_pos q, if_pos (by omega)]
    · rw [if_neg q, if_neg (by omega)]
theorem f_upS_step (K : Nat → Nat → Int) {n x6 x7 x8 v : Int} (h : 0 ≤ n) (h6 : x6 = K 6 (6 + Int.toNat n)) (h7 : x7 = K 7 (6 + Int.toNat n)) (h8 : x8 = K 8 (6 + Int.toNat n)) (hv : v = if n < K 5 0 then zp (K 8 (6 + Int.toNat n)) else 0) : mU (mU (mU (mU (f_upS K (Int.toNat n)) 6 (Int.toNat n) x6) 7 (Int.toNat n) x7) 8 (Int.toNat n) x8) 19 (Int.toNat (6 + n)) v = f_upS K (Int.toNat (n + 1)) := by
  obtain ⟨j, rfl⟩ := Int.eq_ofNat_of_zero_le h
  have e1 : Int.toNat ((j : Int) + 1) = j + 1 := by omega
  have e2 : Int.toNat (6 + (j : Int)) = 6 + j := by omega
  rw [e1, e2, h6, h7, h8, hv]
  simp only [Int.toNat_natCast]
  funext f k
  simp only [mU, f_upS]
  by_cases h19 : f = 19
  · subst h19
    by_cases hk : k = 6 + j
    · subst hk
      rw [if_pos ⟨rfl, rfl⟩, if_neg (show ¬ ((19 = 6 ∨ 19 = 7 ∨ 19 = 8) ∧ 6 + j < j + 1) by omega), if_pos (show 19 = 19 ∧ 6 ≤ 6 + j ∧ 6 + j < 6 + (j + 1) by omega)]
      by_cases q : (j : Int) < K 5 0
      · rw [if_pos q, if_pos (by omega)]
      · rw [if_neg q, if_neg (by omega)]
    · rw [if_neg (show ¬ (19 = 19 ∧ k = 6 + j) by omega), if_neg (show ¬ (19 = 8 ∧ k = j) by omega), if_neg (show ¬ (19 = 7 ∧ k = j) by omega), if_neg (show ¬ (19 = 6 ∧ k = j) by omega), if_neg (show ¬ ((19 = 6 ∨ 19 = 7 ∨ 19 = 8) ∧ k < j) by omega), if_neg (show ¬ ((19 = 6 ∨ 19 = 7 ∨ 19 = 8) ∧ k < j + 1) by omega)]
      by_cases q : 6 ≤ k ∧ k < 6 + j
      · rw [if_pos (show 19 = 19 ∧ 6 ≤ k ∧ k < 6 + j from ⟨rfl, q⟩), if_pos (show 19 = 19 ∧ 6 ≤ k ∧ k < 6 + (j + 1) by omega)]
      · rw [if_neg (show ¬ (19 = 19 ∧ 6 ≤ k ∧ k < 6 + j) by omega), if_neg (show ¬ (19 = 19 ∧ 6 ≤ k ∧ k < 6 + (j + 1)) by omega)]
  · rw [if_neg (by omega)]
    by_cases hk : k = j
    · subst hk
      by_cases q8 : f = 8
      · subst q8; simp
      · by_cases q7 : f = 7
        · subst q7; simp
        · by_cases q6 : f = 6
          · subst q6; simp
          · simp [q6, q7, q8, h19]
    · rw [if_neg (by omega), if_neg (by omega), if_neg (by omega)]
      by_cases q : (f = 6 ∨ f = 7 ∨ f = 8) ∧ k < j
      · rw [if_pos q, if_pos (by omega)]
      · rw [if_neg q, if_neg (by omega), if_neg (by omega), if_neg (by omega)]
theorem f_upW_step (K : Nat → Nat → Int) {n x : Int} (h : 0 ≤ n) (hx : x = K 10 (6 + Int.toNat n)) : mU (f_upW K (Int.toNat n)) 10 (Int.toNat n) x = f_upW K (Int.toNat (n + 1)) := by
  have e1 : Int.toNat (n + 1) = Int.toNat n + 1 := by omega
  rw [e1, hx]
  generalize Int.toNat n = j
  funext f k
  simp only [mU, f_upW]
  by_cases q : f = 10 ∧ k = j
  · obtain ⟨rfl, rfl⟩ := q; simp
  · rw [if_neg q]
    by_cases q2 : f = 10 ∧ k < j
    · rw [if_pos q2, if_pos (by omega)]
    · rw [if_neg q2, if_neg (by omega)]
theorem f_upF_step (K : Nat → Nat → Int) {n x : Int} (h : 0 ≤ n) (hx : x = K 11 (Int.toNat n)) : mU (f_upF K (Int.toNat n)) 19 (Int.toNat (2 + n)) x = f_upF K (Int.toNat (n + 1)) := by
  have e1 : Int.toNat (n + 1) = Int.toNat n + 1 := by omega
  have e2 : Int.toNat (2 + n) = 2 + Int.toNat n := by omega
  rw [e1, e2, hx]
  generalize Int.toNat n = j
  funext f k
  simp only [mU, f_upF]
  by_cases q : f = 19 ∧ k = 2 + j
  · obtain ⟨rfl, rfl⟩ := q
    rw [if_pos ⟨rfl, rfl⟩, if_pos (by omega)]
    congr 1; omega
  · rw [if_neg q]
    by_cases q2 : f = 19 ∧ 2 ≤ k ∧ k < 2 + j
    · rw [if_pos q2, if_pos (by omega)]
    · rw [if_neg q2, if_neg (by omega)]
theorem f_upP_o (K : Nat → Nat → Int) (n : Nat) {f k : Nat} (h : f ≠ 3 ∧ f ≠ 4 ∨ n ≤ k) : f_upP K n f k = K f k := if_neg (by omega)
theorem f_upS_o (K : Nat → Nat → Int) (n : Nat) {f k : Nat} (h : (f ≠ 6 ∧ f ≠ 7 ∧ f ≠ 8 ∧ f ≠ 19) ∨ (f ≠ 19 ∧ n ≤ k)) : f_upS K n f k = K f k := by
  unfold f_upS
  rw [if_neg (by omega), if_neg (by omega)]
theorem f_upW_o (K : Nat → Nat → Int) (n : Nat) {f k : Nat} (h : f ≠ 10 ∨ n ≤ k) : f_upW K n f k = K f k := if_neg (by omega)
theorem f_upF_o (K : Nat → Nat → Int) (n : Nat) {f k : Nat} (h : f ≠ 19) : f_upF K n f k = K f k := if_neg (by omega)
theorem f_upZ_o (K : Nat → Nat → Int) (n : Nat) {f k : Nat} (h : f ≠ 19) : f_upZ K n f k = K f k := if_neg (by omega)
