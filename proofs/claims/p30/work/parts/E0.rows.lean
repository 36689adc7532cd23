/-! The class's three fixed rows of numbers, as the law's start gives them. -/
theorem eq_int_eval {args : Array Value} {s : State} {t : Term} {z : Int32} (h : (Cond.eq t (.int z)).before args s = true) : t.eval args s none [] s = some (.int z) := by
  cases hv : t.eval args s none [] s with
  | none => simp [Cond.before, Cond.holds, Cond.value, hv] at h
  | some w =>
    have hz : (Term.int z).eval args s none [] s = some (.int z) := rfl
    simp only [Cond.before, Cond.holds, Cond.value, hv, hz] at h
    cases w <;> simp_all
theorem iZ_nn (j : Nat) : Int32.ofNat j = iZ (j : Int) := (iZ_n j).symm
theorem row_of {args : Array Value} {s : State} {C n d : String} {L : Nat} {f : Nat → Int} (hL : L < 2147483648) (ha : (Cond.arrayOf (.static C n d) .int).before args s = true) (hl : (Cond.eq (.length (.static C n d)) (.int (Int32.ofNat L))).before args s = true) (he : ∀ j, j < L → (Cond.eq (.elem (.static C n d) (.int (Int32.ofNat j))) (.int (iZ (f j)))).before args s = true) : ∃ b : Nat, (Term.static C n d).eval args s none [] s = some (.ref b) ∧ b < s.heap.size ∧ va_X b L (fun k => iZ (f k)) s s.heap := by
  have h1 := eq_int_eval hl
  obtain ⟨b, cell, ht, harr, hlt, hsz⟩ := Jvm.Lib.length_spec h1
  obtain ⟨hcb, hkn, -, -⟩ := State.arrayAt?_spec harr
  have hof := (Cond.arrayOf_spec (show (Cond.arrayOf (.static C n d) .int).holds args s none s [] = true from ha) ht hcb).1
  have el : ∀ j, j < L → ¬ (cell.slots.size ≤ j) ∧ cell.slots[j]? = some (.int (iZ (f j))) := fun j hj => by
    have e := eq_int_eval (he j hj)
    obtain ⟨b2, j2, cell2, t2, i2, a2, n2, v2⟩ := Term.elem_spec e
    have eb : b2 = b := by
      have := t2.symm.trans ht
      cases this; rfl
    subst eb
    have ec : cell2 = cell := by
      have := a2.symm.trans harr
      cases this; rfl
    subst ec
    have ej : j2 = Int32.ofNat j := by
      have := i2.symm.trans (show (Term.int (Int32.ofNat j)).eval args s none [] s = some (.int (Int32.ofNat j)) from rfl)
      cases this; rfl
    subst ej
    have ecl : (Int32.ofNat j).toNatClampNeg = j := by rw [iZ_nn, iZ_cl (by omega)]; rfl
    rw [ecl] at n2 v2
    exact ⟨fun z => n2 (Or.inr z), v2⟩
  have hbl : b < s.heap.size := (Array.getElem?_eq_some_iff.mp hcb).1
  refine ⟨b, ht, hbl, cell, hcb, hof, hkn, ?_, fun j hj => (el j hj).2⟩
  have e2 : Int32.ofNat L = Int32.ofNat cell.slots.size := Value.int.inj hsz
  have e3 : L ≤ cell.slots.size := by
    rcases Nat.lt_or_ge cell.slots.size L with q | q
    · exact absurd (Nat.le_refl _) (el cell.slots.size q).1
    · exact q
  have e4 := congrArg Int32.toNatClampNeg e2
  rw [iZ_nn, iZ_nn, iZ_cl (by omega), iZ_cl (by omega)] at e4
  omega
