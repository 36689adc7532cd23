/-! Class and reference as they begin. -/
theorem cV1_o {g : Nat} (h : g < 39 ∨ 41 < g) : cV1 g = cV0 g := f_beg_o _ (by omega)
theorem mI_0 : mI mM0 := by
  have v : ∀ k : Nat, mM0 19 (2 + k) = if k < 4 then 9 else 0 := fun k => by
    unfold mM0
    rw [if_neg (by omega)]
    by_cases q : k < 4
    · rw [if_pos (by omega), if_pos q]
    · rw [if_neg (by omega), if_neg q]
  unfold mI vI
  refine ⟨by decide, fun k _ => by show -128 ≤ (0 : Int) ∧ (0 : Int) < 128; decide, by decide, by decide, by decide, fun k hk => absurd hk (by show ¬ (k : Int) < 0; omega), fun k hk => absurd hk (by show ¬ (k : Int) < 0; omega), fun k hk => by show -4 ≤ (0 : Int) ∧ (0 : Int) ≤ 4; decide, ⟨by decide, by decide, fun k hk => by rw [v, if_pos hk]; omega, fun k hk => by rw [show 6 + k = 2 + (4 + k) by omega, v, if_neg (by omega)]; omega, by decide, fun k hk => absurd hk (by show ¬ (k : Int) < 0; omega), fun k hk => absurd hk (by show ¬ (k : Int) < 0; omega)⟩, by decide, fun k hk => absurd hk (by show ¬ (k : Int) < 0; omega), fun i hi => ⟨Or.inl rfl, fun z => absurd z (by show ¬ ((0 : Int) = 1); decide)⟩, by decide, fun k hk => absurd hk (by show ¬ (k : Int) < 0; omega)⟩
theorem paS_0 {i : Nat} (o : Int) (hi : i = 31 ∨ i = 33 ∨ i = 35) (ho : o = 54 + 25 * ((i : Int) - 31)) (e : ∀ k, cV0 (i + 1) k = o + 5 * (k : Int)) : paS cV1 i := by
  have e1 : cV1 i 1 = 0 := by rw [cV1_o (by omega)]; rcases hi with rfl | rfl | rfl <;> rfl
  have e2 : ∀ k, cV1 (i + 1) k = o + 5 * (k : Int) := fun k => by rw [cV1_o (by omega)]; exact e k
  refine ⟨⟨by omega, fun k hk => ?_⟩, fun j k hj hk => ?_⟩
  · rw [e2]; unfold isMo; omega
  · rw [e2, e2]; omega
theorem cV1_41 : ∀ k : Nat, k < 6 → cV1 41 k = 0 := by
  intro k hk
  rcases (show k = 0 ∨ k = 1 ∨ k = 2 ∨ k = 3 ∨ k = 4 ∨ k = 5 by omega) with rfl | rfl | rfl | rfl | rfl | rfl <;> decide +kernel
theorem cV1_40 : ∀ k : Nat, k < 4 → cV1 40 k = 9 := by
  intro k hk
  rcases (show k = 0 ∨ k = 1 ∨ k = 2 ∨ k = 3 by omega) with rfl | rfl | rfl | rfl <;> decide +kernel
theorem R_0 : cR cV1 mM0 := by
  have v3 : cV1 0 3 = 15 := by decide +kernel
  have v4 : cV1 0 4 = 23 := by decide +kernel
  have n3 : Int.toNat (cV1 0 3) = 15 := by rw [v3]; rfl
  have n4 : Int.toNat (cV1 0 4) = 23 := by rw [v4]; rfl
  have m2 : mM0 2 0 = 0 := rfl
  have m5 : mM0 5 0 = 0 := rfl
  have m9 : mM0 9 0 = 1 := rfl
  have m28 : mM0 28 0 = 0 := rfl
  have m20 : mM0 20 0 = 0 := rfl
  refine ⟨?_, ⟨by decide +kernel, fun k hk => ?_⟩, ⟨by decide +kernel, fun k hk => absurd hk (by rw [m28]; omega)⟩, fun q hq => ?_, ?_, by decide +kernel⟩
  · unfold tR
    rw [n3, n4]
    refine ⟨by unfold isTo; omega, by unfold isTo; omega, by decide, by decide +kernel, by decide +kernel, by decide +kernel, by decide +kernel, fun k hk => absurd hk (by rw [m2]; omega), fun k hk => absurd hk (by rw [m5]; omega), fun k hk => ?_⟩
    rw [m9] at hk
    have k0 : k = 0 := by omega
    subst k0
    decide +kernel
  · rw [cV1_o (by decide)]; rfl
  · rcases (show q = 0 ∨ q = 1 by omega) with rfl | rfl
    · exact ⟨by decide +kernel, paS_0 104 (by decide) (by decide) (fun k => rfl), fun z => absurd z (by decide)⟩
    · exact ⟨by decide +kernel, paS_0 154 (by decide) (by decide) (fun k => rfl), fun z => absurd z (by decide)⟩
  · refine ⟨⟨by decide +kernel, by decide +kernel, by decide +kernel, fun k hk => ?_, fun p hp => ?_, fun k hk => absurd hk (by show ¬ (k : Int) < 0; omega)⟩, paS_0 54 (by decide) (by decide) (fun k => rfl), by decide +kernel, fun j hj => absurd hj (by rw [m20]; omega)⟩
    · show cV1 40 k = mM0 19 (2 + k)
      rw [cV1_40 k hk]
      unfold mM0
      rw [if_neg (by omega), if_pos (by omega)]
    · show (0 ≤ cV1 41 p ∧ cV1 41 p < 64) ∧ _
      rw [cV1_41 p hp]
      refine ⟨by decide, fun s hs => ?_⟩
      rw [zbit_0, m5, if_neg (by omega)]
