/-! What a text without a fault has told. -/
def qP (M : Nat → Nat → Int) : Prop := ∀ k : Nat, (k : Int) < M 2 1 → (0 ≤ M 3 (6 + k) ∧ M 3 (6 + k) ≤ 30) ∧ (0 ≤ M 4 (6 + k) ∧ M 4 (6 + k) ≤ 5)
def qS (M : Nat → Nat → Int) : Prop := ∀ k : Nat, (k : Int) < M 5 1 → (1 ≤ M 6 (6 + k) ∧ M 6 (6 + k) ≤ 9) ∧ (0 ≤ M 7 (6 + k) ∧ M 7 (6 + k) ≤ 3) ∧ (0 ≤ M 8 (6 + k) ∧ M 8 (6 + k) < M 2 1)
def qWi (M : Nat → Nat → Int) : Prop := ∀ k : Nat, (k : Int) < M 9 1 → -4 ≤ M 10 (6 + k) ∧ M 10 (6 + k) ≤ 4
def qF (M : Nat → Nat → Int) : Prop := ∀ k : Nat, k < 4 → 0 ≤ M 11 k ∧ M 11 k ≤ 20
def qI (M : Nat → Nat → Int) : Prop := qP M ∧ qS M ∧ qWi M ∧ qF M ∧ 1 ≤ M 9 1
theorem qI_cong {M K : Nat → Nat → Int} (h : ∀ f, f < 12 → K f = M f) (q : qI M) : qI K := by
  unfold qI qP qS qWi qF at *
  rw [h 2 (by decide), h 3 (by decide), h 4 (by decide), h 5 (by decide), h 6 (by decide), h 7 (by decide), h 8 (by decide), h 9 (by decide), h 10 (by decide), h 11 (by decide)]
  exact q
theorem qI_due {M : Nat → Nat → Int} (q : M 16 0 = 0 → qI M) (is : Int) : f_due M is 16 0 = 0 → qI (f_due M is) := fun z =>
  qI_cong (fun f hf => f_due_o M is (by omega)) (q (f_due_ok z).1)
theorem f_num_lo (M : Nat → Nat → Int) (lo hi : Int) {f : Nat} (h : f < 12) : f_num M lo hi f = M f := f_num_o M lo hi (by omega)
theorem qI_ip {M : Nat → Nat → Int} (hp : 0 ≤ M 2 1) (q : M 16 0 = 0 → qI M) : f_itp M 16 0 = 0 → qI (f_itp M) := by
  intro z
  have z1 : f_num (f_ipA M) 0 5 16 0 = 0 := z
  obtain ⟨a1, a2, a3, a4⟩ := f_num_ok z1
  have z2 : f_num M 0 30 16 0 = 0 := a1
  obtain ⟨b1, b2, b3, b4⟩ := f_num_ok z2
  obtain ⟨q1, q2, q3, q4, q5⟩ := q b1
  obtain ⟨n, hn⟩ := Int.eq_ofNat_of_zero_le hp
  have e0 : Int.toNat (6 + M 2 1) = 6 + n := by omega
  have eA : f_ipA M = mU (f_num M 0 30) 3 (6 + n) (M 15 0) := by
    unfold f_ipA
    rw [e0]
  have fA : ∀ f, f < 12 → f ≠ 3 → f_ipA M f = M f := fun f h1 h2 => by
    funext j
    rw [eA, mU_nf _ _ _ _ h2, f_num_lo _ _ _ h1]
  have e1 : Int.toNat (6 + f_ipA M 2 1) = 6 + n := by rw [fA 2 (by decide) (by decide)]; exact e0
  have eB : f_ipB (f_ipA M) = mU (f_num (f_ipA M) 0 5) 4 (6 + n) (f_ipA M 15 0) := by
    unfold f_ipB
    rw [e1]
  have eT : f_itp M = mU (f_ipB (f_ipA M)) 2 1 (f_ipB (f_ipA M) 2 1 + 1) := rfl
  have n21 : f_itp M 2 1 = M 2 1 + 1 := by
    have t : f_ipB (f_ipA M) 2 1 = M 2 1 := by
      rw [eB, mU_nf _ _ _ _ (by decide), f_num_lo _ _ _ (by decide), fA 2 (by decide) (by decide)]
    rw [eT, mU_eq, t]
  have n3 : ∀ j, f_itp M 3 j = if j = 6 + n then M 15 0 else M 3 j := fun j => by
    rw [eT, mU_nf _ _ _ _ (by decide), eB, mU_nf _ _ _ _ (by decide), f_num_lo _ _ _ (by decide), eA]
    by_cases w : j = 6 + n
    · rw [w, mU_eq, if_pos rfl]
    · rw [mU_ni _ _ _ _ w, f_num_lo _ _ _ (by decide), if_neg w]
  have n4 : ∀ j, f_itp M 4 j = if j = 6 + n then f_ipA M 15 0 else M 4 j := fun j => by
    rw [eT, mU_nf _ _ _ _ (by decide), eB]
    by_cases w : j = 6 + n
    · rw [w, mU_eq, if_pos rfl]
    · rw [mU_ni _ _ _ _ w, f_num_lo _ _ _ (by decide), fA 4 (by decide) (by decide), if_neg w]
  have no : ∀ f, f < 12 → f ≠ 2 → f ≠ 3 → f ≠ 4 → f_itp M f = M f := fun f h1 h2 h3 h4 => by
    funext j
    rw [eT, mU_nf _ _ _ _ h2, eB, mU_nf _ _ _ _ h4, f_num_lo _ _ _ h1, fA f h1 h3]
  refine ⟨fun k hk => ?_, fun k hk => ?_, fun k hk => ?_, fun k hk => ?_, ?_⟩
  · rw [n21] at hk
    rw [n3, n4]
    by_cases w : k = n
    · rw [if_pos (by omega), if_pos (by omega)]; omega
    · rw [if_neg (by omega), if_neg (by omega)]; exact q1 k (by omega)
  · rw [no 5 (by decide) (by decide) (by decide) (by decide)] at hk
    rw [no 6 (by decide) (by decide) (by decide) (by decide), no 7 (by decide) (by decide) (by decide) (by decide), no 8 (by decide) (by decide) (by decide) (by decide), n21]
    have t := q2 k hk
    omega
  · rw [no 9 (by decide) (by decide) (by decide) (by decide)] at hk
    rw [no 10 (by decide) (by decide) (by decide) (by decide)]
    exact q3 k hk
  · rw [no 11 (by decide) (by decide) (by decide) (by decide)]
    exact q4 k hk
  · rw [no 9 (by decide) (by decide) (by decide) (by decide)]
    exact q5
theorem qI_if {M : Nat → Nat → Int} (q : M 16 0 = 0 → qI M) : f_itf M 16 0 = 0 → qI (f_itf M) := by
  unfold f_itf
  split
  · rename_i z1
    intro _
    obtain ⟨a1, a2, a3, a4⟩ := f_num_ok z1
    obtain ⟨b1, b2, b3, b4⟩ := f_num_ok a1
    obtain ⟨q1, q2, q3, q4, q5⟩ := q b1
    have o : ∀ f, f < 12 → f_num (f_num M 0 3) 0 20 f = M f := fun f h => (f_num_lo _ _ _ h).trans (f_num_lo _ _ _ h)
    have n11 : ∀ j, mU (f_num (f_num M 0 3) 0 20) 11 (Int.toNat (M 15 0)) (f_num M 0 3 15 0) 11 j = if j = Int.toNat (M 15 0) then f_num M 0 3 15 0 else M 11 j := fun j => by
      by_cases w : j = Int.toNat (M 15 0)
      · rw [w, mU_eq, if_pos rfl]
      · rw [mU_ni _ _ _ _ w, o 11 (by decide), if_neg w]
    have no : ∀ f, f < 12 → f ≠ 11 → mU (f_num (f_num M 0 3) 0 20) 11 (Int.toNat (M 15 0)) (f_num M 0 3 15 0) f = M f := fun f h1 h2 => by
      funext j
      rw [mU_nf _ _ _ _ h2, o f h1]
    unfold qI qP qS qWi qF at *
    rw [no 2 (by decide) (by decide), no 3 (by decide) (by decide), no 4 (by decide) (by decide), no 5 (by decide) (by decide), no 6 (by decide) (by decide), no 7 (by decide) (by decide), no 8 (by decide) (by decide), no 9 (by decide) (by decide), no 10 (by decide) (by decide)]
    refine ⟨q1, q2, q3, fun k hk => ?_, q5⟩
    rw [n11]
    split
    · omega
    · exact q4 k hk
  · rename_i z1
    intro z
    exact absurd z z1
theorem qI_is {M : Nat → Nat → Int} (hp : 0 ≤ M 5 1) (q : M 16 0 = 0 → qI M) : f_its M 16 0 = 0 → qI (f_its M) := by
  intro z
  obtain ⟨n, hn⟩ := Int.eq_ofNat_of_zero_le hp
  have e0 : Int.toNat (6 + M 5 1) = 6 + n := by omega
  obtain ⟨A, hA⟩ : ∃ A, A = mU (f_num M 1 9) 6 (6 + n) (M 15 0) := ⟨_, rfl⟩
  obtain ⟨B, hB⟩ : ∃ B, B = mU (f_num A 0 3) 7 (6 + n) (A 15 0) := ⟨_, rfl⟩
  obtain ⟨C, hC⟩ : ∃ C, C = mU (f_num B 0 (B 2 1 - 1)) 8 (6 + n) (B 15 0) := ⟨_, rfl⟩
  have eT : f_its M = mU C 5 1 (C 5 1 + 1) := by
    unfold f_its f_isD f_isC f_isB f_isA
    rw [e0, ← hA, ← hB, ← hC]
  have fA : ∀ f, f < 12 → f ≠ 6 → A f = M f := fun f h1 h2 => by
    funext j
    rw [hA, mU_nf _ _ _ _ h2, f_num_lo _ _ _ h1]
  have fB : ∀ f, f < 12 → f ≠ 7 → B f = A f := fun f h1 h2 => by
    funext j
    rw [hB, mU_nf _ _ _ _ h2, f_num_lo _ _ _ h1]
  have fC : ∀ f, f < 12 → f ≠ 8 → C f = B f := fun f h1 h2 => by
    funext j
    rw [hC, mU_nf _ _ _ _ h2, f_num_lo _ _ _ h1]
  have z3 : f_num B 0 (B 2 1 - 1) 16 0 = 0 := by
    rw [eT, mU_nf _ _ _ _ (by decide), hC, mU_nf _ _ _ _ (by decide)] at z
    exact z
  obtain ⟨c1, c2, c3, c4⟩ := f_num_ok z3
  have z2 : f_num A 0 3 16 0 = 0 := by
    rw [hB, mU_nf _ _ _ _ (by decide)] at c1
    exact c1
  obtain ⟨b1, b2, b3, b4⟩ := f_num_ok z2
  have z1 : f_num M 1 9 16 0 = 0 := by
    rw [hA, mU_nf _ _ _ _ (by decide)] at b1
    exact b1
  obtain ⟨a1, a2, a3, a4⟩ := f_num_ok z1
  obtain ⟨q1, q2, q3, q4, q5⟩ := q a1
  have m21 : B 2 1 = M 2 1 := by rw [fB 2 (by decide) (by decide), fA 2 (by decide) (by decide)]
  have no : ∀ f, f < 12 → f ≠ 5 → f ≠ 6 → f ≠ 7 → f ≠ 8 → f_its M f = M f := fun f h1 h2 h3 h4 h5 => by
    funext j
    rw [eT, mU_nf _ _ _ _ h2, fC f h1 h5, fB f h1 h4, fA f h1 h3]
  have n51 : f_its M 5 1 = M 5 1 + 1 := by
    rw [eT, mU_eq, fC 5 (by decide) (by decide), fB 5 (by decide) (by decide), fA 5 (by decide) (by decide)]
  have n6 : ∀ j, f_its M 6 j = if j = 6 + n then M 15 0 else M 6 j := fun j => by
    rw [eT, mU_nf _ _ _ _ (by decide), fC 6 (by decide) (by decide), fB 6 (by decide) (by decide), hA]
    by_cases w : j = 6 + n
    · rw [w, mU_eq, if_pos rfl]
    · rw [mU_ni _ _ _ _ w, f_num_lo _ _ _ (by decide), if_neg w]
  have n7 : ∀ j, f_its M 7 j = if j = 6 + n then A 15 0 else M 7 j := fun j => by
    rw [eT, mU_nf _ _ _ _ (by decide), fC 7 (by decide) (by decide), hB]
    by_cases w : j = 6 + n
    · rw [w, mU_eq, if_pos rfl]
    · rw [mU_ni _ _ _ _ w, f_num_lo _ _ _ (by decide), fA 7 (by decide) (by decide), if_neg w]
  have n8 : ∀ j, f_its M 8 j = if j = 6 + n then B 15 0 else M 8 j := fun j => by
    rw [eT, mU_nf _ _ _ _ (by decide), hC]
    by_cases w : j = 6 + n
    · rw [w, mU_eq, if_pos rfl]
    · rw [mU_ni _ _ _ _ w, f_num_lo _ _ _ (by decide), fB 8 (by decide) (by decide), fA 8 (by decide) (by decide), if_neg w]
  refine ⟨fun k hk => ?_, fun k hk => ?_, fun k hk => ?_, fun k hk => ?_, ?_⟩
  · rw [no 2 (by decide) (by decide) (by decide) (by decide) (by decide)] at hk
    rw [no 3 (by decide) (by decide) (by decide) (by decide) (by decide), no 4 (by decide) (by decide) (by decide) (by decide) (by decide)]
    exact q1 k hk
  · rw [n51] at hk
    rw [n6, n7, n8, no 2 (by decide) (by decide) (by decide) (by decide) (by decide)]
    by_cases w : k = n
    · rw [if_pos (by omega), if_pos (by omega), if_pos (by omega)]; omega
    · rw [if_neg (by omega), if_neg (by omega), if_neg (by omega)]; exact q2 k (by omega)
  · rw [no 9 (by decide) (by decide) (by decide) (by decide) (by decide)] at hk
    rw [no 10 (by decide) (by decide) (by decide) (by decide) (by decide)]
    exact q3 k hk
  · rw [no 11 (by decide) (by decide) (by decide) (by decide) (by decide)]
    exact q4 k hk
  · rw [no 9 (by decide) (by decide) (by decide) (by decide) (by decide)]
    exact q5
