/-! The reference: one object, twenty arrays; what they hold: M f k, number k of field f. -/
abbrev mC : Type := ClassId × ClassId × ClassId
def mF (a : Nat → Nat) (M : Nat → Nat → Int) : List Value := [.ref (a 0), .int (iZ (M 1 0)), .ref (a 2), .ref (a 3), .ref (a 4), .ref (a 5), .ref (a 6), .ref (a 7), .ref (a 8), .ref (a 9), .ref (a 10), .ref (a 11), .int (iZ (M 12 0)), .int (iZ (M 13 0)), .int (iZ (M 14 0)), .int (iZ (M 15 0)), .int (iZ (M 16 0)), .int (iZ (M 17 0)), .int (iZ (M 18 0)), .ref (a 19), .ref (a 20), .ref (a 21), .ref (a 22), .ref (a 23), .ref (a 24), .ref (a 25), .ref (a 26), .ref (a 27), .int (iZ (M 28 0)), .long (iL (M 29 0))]
def mW (C : mC) (h : Nat) (a : Nat → Nat) (M : Nat → Nat → Int) : va_W := [(h, .inr (8, mF a M)), (a 0, .inl (C.2.1, 120, .inl (fun k => iZ (M 0 k)))), (a 2, .inl (C.1, 2, .inl (fun k => iZ (M 2 k)))), (a 3, .inl (C.1, 12, .inl (fun k => iZ (M 3 k)))), (a 4, .inl (C.1, 12, .inl (fun k => iZ (M 4 k)))), (a 5, .inl (C.1, 2, .inl (fun k => iZ (M 5 k)))), (a 6, .inl (C.1, 12, .inl (fun k => iZ (M 6 k)))), (a 7, .inl (C.1, 12, .inl (fun k => iZ (M 7 k)))), (a 8, .inl (C.1, 12, .inl (fun k => iZ (M 8 k)))), (a 9, .inl (C.1, 2, .inl (fun k => iZ (M 9 k)))), (a 10, .inl (C.1, 12, .inl (fun k => iZ (M 10 k)))), (a 11, .inl (C.1, 4, .inl (fun k => iZ (M 11 k)))), (a 19, .inl (C.1, 29, .inl (fun k => iZ (M 19 k)))), (a 20, .inl (C.1, 3, .inl (fun k => iZ (M 20 k)))), (a 21, .inl (C.1, 870, .inl (fun k => iZ (M 21 k)))), (a 22, .inl (C.1, 58, .inl (fun k => iZ (M 22 k)))), (a 23, .inl (C.2.2, 2, .inl (fun k => iZ (M 23 k)))), (a 24, .inl (C.1, 64, .inl (fun k => iZ (M 24 k)))), (a 25, .inl (C.1, 24, .inl (fun k => iZ (M 25 k)))), (a 26, .inl (C.1, 4, .inl (fun k => iZ (M 26 k)))), (a 27, .inl (C.1, 4, .inl (fun k => iZ (M 27 k))))]
def mT (C : mC) : List (ClassId × FieldType) := [(C.1, .int), (C.2.1, .byte), (C.2.2, .boolean)]
def mU (M : Nat → Nat → Int) (f i : Nat) (v : Int) : Nat → Nat → Int := fun g j => if g = f ∧ j = i then v else M g j
theorem mU_eq (M : Nat → Nat → Int) (f i : Nat) (v : Int) : mU M f i v f i = v := by simp [mU]
theorem mU_nf (M : Nat → Nat → Int) {f g : Nat} (i j : Nat) (v : Int) (h : g ≠ f) : mU M f i v g j = M g j := by simp [mU, h]
theorem mU_ni (M : Nat → Nat → Int) (f g : Nat) {i j : Nat} (v : Int) (h : j ≠ i) : mU M f i v g j = M g j := by simp [mU, h]
def mA (h : Nat) (a : Nat → Nat) : Nat → Prop := fun q => q = h ∨ ∃ k : Nat, q = a k
def mOk (D : va_G) (C : mC) (h : Nat) (a : Nat → Nat) (M : Nat → Nat → Int) (U : State) : Prop := va_P D vwCl (mW C h a M) U.heap ∧ va_K D vwCl (mT C) U
theorem mOk_blind {D : va_G} {C : mC} {h : Nat} {a : Nat → Nat} {M : Nat → Nat → Int} {av : List Value} : FrameBlind (va_Pc av (mOk D C h a M)) := fun b U g mk q => by
  obtain ⟨q0, qP, qK⟩ := q
  exact ⟨q0, qP, va_K.moved (u := U) (U := U.calling g mk b) (Vm.Alike.refl U.vm) qK⟩
theorem va_D_cong {A : Nat → Prop} {w w2 : va_W} (he : w.map Prod.fst = w2.map Prod.fst) (h : va_D A w) : va_D A w2 := by
  have at2 : ∀ (k : Nat) (q : Nat × va_E), w2[k]? = some q → ∃ q1, w[k]? = some q1 ∧ q1.1 = q.1 := by
    intro k q hq
    have h1 : (w2.map Prod.fst)[k]? = some q.1 := by rw [List.getElem?_map, hq]; rfl
    rw [← he, List.getElem?_map] at h1
    cases hw : w[k]? with
    | none => rw [hw] at h1; cases h1
    | some q1 => rw [hw] at h1; exact ⟨q1, rfl, Option.some.inj h1⟩
  refine ⟨fun i j x y hx hy hxy => ?_, fun k q hq => ?_⟩
  · obtain ⟨x1, h1, e1⟩ := at2 i x hx
    obtain ⟨y1, h2, e2⟩ := at2 j y hy
    exact h.1 i j x1 y1 h1 h2 (by rw [e1, e2, hxy])
  · obtain ⟨q1, h1, e1⟩ := at2 k q hq
    rw [← e1]
    exact h.2 k q1 h1
theorem mD_re {A : Nat → Prop} {C C2 : mC} {h : Nat} {a : Nat → Nat} {M M2 : Nat → Nat → Int} (hD : va_D A (mW C h a M)) : va_D A (mW C2 h a M2) := va_D_cong (w := mW C h a M) (w2 := mW C2 h a M2) rfl hD
theorem mA_mem {C : mC} {h : Nat} {a : Nat → Nat} {M : Nat → Nat → Int} (k : Nat) (q : Nat × va_E) (hq : (mW C h a M)[k]? = some q) : mA h a q.1 := by
  have hm := List.mem_of_getElem? hq
  simp only [mW, List.mem_cons, List.not_mem_nil, or_false] at hm
  rcases hm with rfl | rfl | rfl | rfl | rfl | rfl | rfl | rfl | rfl | rfl | rfl | rfl | rfl | rfl | rfl | rfl | rfl | rfl | rfl | rfl | rfl <;> first | exact Or.inl rfl | exact Or.inr ⟨_, rfl⟩
theorem mD_own {A : Nat → Prop} {C : mC} {h : Nat} {a : Nat → Nat} {M : Nat → Nat → Int} (hD : va_D A (mW C h a M)) : va_D (mA h a) (mW C h a M) := hD.weaken (fun k q hq _ => mA_mem k q hq)
theorem mG_0 (C : mC) (h : Nat) (a : Nat → Nat) (M : Nat → Nat → Int) : (mW C h a M)[1]? = some (a 0, .inl (C.2.1, 120, .inl (fun k => iZ (M 0 k)))) := rfl
theorem mS_0 (C : mC) (h : Nat) (a : Nat → Nat) (M : Nat → Nat → Int) (i : Nat) (v : Int) : (mW C h a M).set 1 (a 0, .inl (C.2.1, 120, .inl (upd (fun k => iZ (M 0 k)) i (iZ v)))) = mW C h a (mU M 0 i v) := by
  have e : upd (fun k => iZ (M 0 k)) i (iZ v) = fun k => iZ (mU M 0 i v 0 k) := by
    funext k
    by_cases hk : k = i <;> simp [upd, mU, hk]
  rw [e]
  simp [mW, mF, mU, List.set]
theorem mG_2 (C : mC) (h : Nat) (a : Nat → Nat) (M : Nat → Nat → Int) : (mW C h a M)[2]? = some (a 2, .inl (C.1, 2, .inl (fun k => iZ (M 2 k)))) := rfl
theorem mS_2 (C : mC) (h : Nat) (a : Nat → Nat) (M : Nat → Nat → Int) (i : Nat) (v : Int) : (mW C h a M).set 2 (a 2, .inl (C.1, 2, .inl (upd (fun k => iZ (M 2 k)) i (iZ v)))) = mW C h a (mU M 2 i v) := by
  have e : upd (fun k => iZ (M 2 k)) i (iZ v) = fun k => iZ (mU M 2 i v 2 k) := by
    funext k
    by_cases hk : k = i <;> simp [upd, mU, hk]
  rw [e]
  simp [mW, mF, mU, List.set]
theorem mG_3 (C : mC) (h : Nat) (a : Nat → Nat) (M : Nat → Nat → Int) : (mW C h a M)[3]? = some (a 3, .inl (C.1, 12, .inl (fun k => iZ (M 3 k)))) := rfl
theorem mS_3 (C : mC) (h : Nat) (a : Nat → Nat) (M : Nat → Nat → Int) (i : Nat) (v : Int) : (mW C h a M).set 3 (a 3, .inl (C.1, 12, .inl (upd (fun k => iZ (M 3 k)) i (iZ v)))) = mW C h a (mU M 3 i v) := by
  have e : upd (fun k => iZ (M 3 k)) i (iZ v) = fun k => iZ (mU M 3 i v 3 k) := by
    funext k
    by_cases hk : k = i <;> simp [upd, mU, hk]
  rw [e]
  simp [mW, mF, mU, List.set]
theorem mG_4 (C : mC) (h : Nat) (a : Nat → Nat) (M : Nat → Nat → Int) : (mW C h a M)[4]? = some (a 4, .inl (C.1, 12, .inl (fun k => iZ (M 4 k)))) := rfl
theorem mS_4 (C : mC) (h : Nat) (a : Nat → Nat) (M : Nat → Nat → Int) (i : Nat) (v : Int) : (mW C h a M).set 4 (a 4, .inl (C.1, 12, .inl (upd (fun k => iZ (M 4 k)) i (iZ v)))) = mW C h a (mU M 4 i v) := by
  have e : upd (fun k => iZ (M 4 k)) i (iZ v) = fun k => iZ (mU M 4 i v 4 k) := by
    funext k
    by_cases hk : k = i <;> simp [upd, mU, hk]
  rw [e]
  simp [mW, mF, mU, List.set]
theorem mG_5 (C : mC) (h : Nat) (a : Nat → Nat) (M : Nat → Nat → Int) : (mW C h a M)[5]? = some (a 5, .inl (C.1, 2, .inl (fun k => iZ (M 5 k)))) := rfl
theorem mS_5 (C : mC) (h : Nat) (a : Nat → Nat) (M : Nat → Nat → Int) (i : Nat) (v : Int) : (mW C h a M).set 5 (a 5, .inl (C.1, 2, .inl (upd (fun k => iZ (M 5 k)) i (iZ v)))) = mW C h a (mU M 5 i v) := by
  have e : upd (fun k => iZ (M 5 k)) i (iZ v) = fun k => iZ (mU M 5 i v 5 k) := by
    funext k
    by_cases hk : k = i <;> simp [upd, mU, hk]
  rw [e]
  simp [mW, mF, mU, List.set]
theorem mG_6 (C : mC) (h : Nat) (a : Nat → Nat) (M : Nat → Nat → Int) : (mW C h a M)[6]? = some (a 6, .inl (C.1, 12, .inl (fun k => iZ (M 6 k)))) := rfl
theorem mS_6 (C : mC) (h : Nat) (a : Nat → Nat) (M : Nat → Nat → Int) (i : Nat) (v : Int) : (mW C h a M).set 6 (a 6, .inl (C.1, 12, .inl (upd (fun k => iZ (M 6 k)) i (iZ v)))) = mW C h a (mU M 6 i v) := by
  have e : upd (fun k => iZ (M 6 k)) i (iZ v) = fun k => iZ (mU M 6 i v 6 k) := by
    funext k
    by_cases hk : k = i <;> simp [upd, mU, hk]
  rw [e]
  simp [mW, mF, mU, List.set]
theorem mG_7 (C : mC) (h : Nat) (a : Nat → Nat) (M : Nat → Nat → Int) : (mW C h a M)[7]? = some (a 7, .inl (C.1, 12, .inl (fun k => iZ (M 7 k)))) := rfl
theorem mS_7 (C : mC) (h : Nat) (a : Nat → Nat) (M : Nat → Nat → Int) (i : Nat) (v : Int) : (mW C h a M).set 7 (a 7, .inl (C.1, 12, .inl (upd (fun k => iZ (M 7 k)) i (iZ v)))) = mW C h a (mU M 7 i v) := by
  have e : upd (fun k => iZ (M 7 k)) i (iZ v) = fun k => iZ (mU M 7 i v 7 k) := by
    funext k
    by_cases hk : k = i <;> simp [upd, mU, hk]
  rw [e]
  simp [mW, mF, mU, List.set]
theorem mG_8 (C : mC) (h : Nat) (a : Nat → Nat) (M : Nat → Nat → Int) : (mW C h a M)[8]? = some (a 8, .inl (C.1, 12, .inl (fun k => iZ (M 8 k)))) := rfl
theorem mS_8 (C : mC) (h : Nat) (a : Nat → Nat) (M : Nat → Nat → Int) (i : Nat) (v : Int) : (mW C h a M).set 8 (a 8, .inl (C.1, 12, .inl (upd (fun k => iZ (M 8 k)) i (iZ v)))) = mW C h a (mU M 8 i v) := by
  have e : upd (fun k => iZ (M 8 k)) i (iZ v) = fun k => iZ (mU M 8 i v 8 k) := by
    funext k
    by_cases hk : k = i <;> simp [upd, mU, hk]
  rw [e]
  simp [mW, mF, mU, List.set]
theorem mG_9 (C : mC) (h : Nat) (a : Nat → Nat) (M : Nat → Nat → Int) : (mW C h a M)[9]? = some (a 9, .inl (C.1, 2, .inl (fun k => iZ (M 9 k)))) := rfl
theorem mS_9 (C : mC) (h : Nat) (a : Nat → Nat) (M : Nat → Nat → Int) (i : Nat) (v : Int) : (mW C h a M).set 9 (a 9, .inl (C.1, 2, .inl (upd (fun k => iZ (M 9 k)) i (iZ v)))) = mW C h a (mU M 9 i v) := by
  have e : upd (fun k => iZ (M 9 k)) i (iZ v) = fun k => iZ (mU M 9 i v 9 k) := by
    funext k
    by_cases hk : k = i <;> simp [upd, mU, hk]
  rw [e]
  simp [mW, mF, mU, List.set]
theorem mG_10 (C : mC) (h : Nat) (a : Nat → Nat) (M : Nat → Nat → Int) : (mW C h a M)[10]? = some (a 10, .inl (C.1, 12, .inl (fun k => iZ (M 10 k)))) := rfl
theorem mS_10 (C : mC) (h : Nat) (a : Nat → Nat) (M : Nat → Nat → Int) (i : Nat) (v : Int) : (mW C h a M).set 10 (a 10, .inl (C.1, 12, .inl (upd (fun k => iZ (M 10 k)) i (iZ v)))) = mW C h a (mU M 10 i v) := by
  have e : upd (fun k => iZ (M 10 k)) i (iZ v) = fun k => iZ (mU M 10 i v 10 k) := by
    funext k
    by_cases hk : k = i <;> simp [upd, mU, hk]
  rw [e]
  simp [mW, mF, mU, List.set]
theorem mG_11 (C : mC) (h : Nat) (a : Nat → Nat) (M : Nat → Nat → Int) : (mW C h a M)[11]? = some (a 11, .inl (C.1, 4, .inl (fun k => iZ (M 11 k)))) := rfl
theorem mS_11 (C : mC) (h : Nat) (a : Nat → Nat) (M : Nat → Nat → Int) (i : Nat) (v : Int) : (mW C h a M).set 11 (a 11, .inl (C.1, 4, .inl (upd (fun k => iZ (M 11 k)) i (iZ v)))) = mW C h a (mU M 11 i v) := by
  have e : upd (fun k => iZ (M 11 k)) i (iZ v) = fun k => iZ (mU M 11 i v 11 k) := by
    funext k
    by_cases hk : k = i <;> simp [upd, mU, hk]
  rw [e]
  simp [mW, mF, mU, List.set]
theorem mG_19 (C : mC) (h : Nat) (a : Nat → Nat) (M : Nat → Nat → Int) : (mW C h a M)[12]? = some (a 19, .inl (C.1, 29, .inl (fun k => iZ (M 19 k)))) := rfl
theorem mS_19 (C : mC) (h : Nat) (a : Nat → Nat) (M : Nat → Nat → Int) (i : Nat) (v : Int) : (mW C h a M).set 12 (a 19, .inl (C.1, 29, .inl (upd (fun k => iZ (M 19 k)) i (iZ v)))) = mW C h a (mU M 19 i v) := by
  have e : upd (fun k => iZ (M 19 k)) i (iZ v) = fun k => iZ (mU M 19 i v 19 k) := by
    funext k
    by_cases hk : k = i <;> simp [upd, mU, hk]
  rw [e]
  simp [mW, mF, mU, List.set]
theorem mG_20 (C : mC) (h : Nat) (a : Nat → Nat) (M : Nat → Nat → Int) : (mW C h a M)[13]? = some (a 20, .inl (C.1, 3, .inl (fun k => iZ (M 20 k)))) := rfl
theorem mS_20 (C : mC) (h : Nat) (a : Nat → Nat) (M : Nat → Nat → Int) (i : Nat) (v : Int) : (mW C h a M).set 13 (a 20, .inl (C.1, 3, .inl (upd (fun k => iZ (M 20 k)) i (iZ v)))) = mW C h a (mU M 20 i v) := by
  have e : upd (fun k => iZ (M 20 k)) i (iZ v) = fun k => iZ (mU M 20 i v 20 k) := by
    funext k
    by_cases hk : k = i <;> simp [upd, mU, hk]
  rw [e]
  simp [mW, mF, mU, List.set]
theorem mG_21 (C : mC) (h : Nat) (a : Nat → Nat) (M : Nat → Nat → Int) : (mW C h a M)[14]? = some (a 21, .inl (C.1, 870, .inl (fun k => iZ (M 21 k)))) := rfl
theorem mS_21 (C : mC) (h : Nat) (a : Nat → Nat) (M : Nat → Nat → Int) (i : Nat) (v : Int) : (mW C h a M).set 14 (a 21, .inl (C.1, 870, .inl (upd (fun k => iZ (M 21 k)) i (iZ v)))) = mW C h a (mU M 21 i v) := by
  have e : upd (fun k => iZ (M 21 k)) i (iZ v) = fun k => iZ (mU M 21 i v 21 k) := by
    funext k
    by_cases hk : k = i <;> simp [upd, mU, hk]
  rw [e]
  simp [mW, mF, mU, List.set]
theorem mG_22 (C : mC) (h : Nat) (a : Nat → Nat) (M : Nat → Nat → Int) : (mW C h a M)[15]? = some (a 22, .inl (C.1, 58, .inl (fun k => iZ (M 22 k)))) := rfl
theorem mS_22 (C : mC) (h : Nat) (a : Nat → Nat) (M : Nat → Nat → Int) (i : Nat) (v : Int) : (mW C h a M).set 15 (a 22, .inl (C.1, 58, .inl (upd (fun k => iZ (M 22 k)) i (iZ v)))) = mW C h a (mU M 22 i v) := by
  have e : upd (fun k => iZ (M 22 k)) i (iZ v) = fun k => iZ (mU M 22 i v 22 k) := by
    funext k
    by_cases hk : k = i <;> simp [upd, mU, hk]
  rw [e]
  simp [mW, mF, mU, List.set]
theorem mG_23 (C : mC) (h : Nat) (a : Nat → Nat) (M : Nat → Nat → Int) : (mW C h a M)[16]? = some (a 23, .inl (C.2.2, 2, .inl (fun k => iZ (M 23 k)))) := rfl
theorem mS_23 (C : mC) (h : Nat) (a : Nat → Nat) (M : Nat → Nat → Int) (i : Nat) (v : Int) : (mW C h a M).set 16 (a 23, .inl (C.2.2, 2, .inl (upd (fun k => iZ (M 23 k)) i (iZ v)))) = mW C h a (mU M 23 i v) := by
  have e : upd (fun k => iZ (M 23 k)) i (iZ v) = fun k => iZ (mU M 23 i v 23 k) := by
    funext k
    by_cases hk : k = i <;> simp [upd, mU, hk]
  rw [e]
  simp [mW, mF, mU, List.set]
theorem mG_24 (C : mC) (h : Nat) (a : Nat → Nat) (M : Nat → Nat → Int) : (mW C h a M)[17]? = some (a 24, .inl (C.1, 64, .inl (fun k => iZ (M 24 k)))) := rfl
theorem mS_24 (C : mC) (h : Nat) (a : Nat → Nat) (M : Nat → Nat → Int) (i : Nat) (v : Int) : (mW C h a M).set 17 (a 24, .inl (C.1, 64, .inl (upd (fun k => iZ (M 24 k)) i (iZ v)))) = mW C h a (mU M 24 i v) := by
  have e : upd (fun k => iZ (M 24 k)) i (iZ v) = fun k => iZ (mU M 24 i v 24 k) := by
    funext k
    by_cases hk : k = i <;> simp [upd, mU, hk]
  rw [e]
  simp [mW, mF, mU, List.set]
theorem mG_25 (C : mC) (h : Nat) (a : Nat → Nat) (M : Nat → Nat → Int) : (mW C h a M)[18]? = some (a 25, .inl (C.1, 24, .inl (fun k => iZ (M 25 k)))) := rfl
theorem mS_25 (C : mC) (h : Nat) (a : Nat → Nat) (M : Nat → Nat → Int) (i : Nat) (v : Int) : (mW C h a M).set 18 (a 25, .inl (C.1, 24, .inl (upd (fun k => iZ (M 25 k)) i (iZ v)))) = mW C h a (mU M 25 i v) := by
  have e : upd (fun k => iZ (M 25 k)) i (iZ v) = fun k => iZ (mU M 25 i v 25 k) := by
    funext k
    by_cases hk : k = i <;> simp [upd, mU, hk]
  rw [e]
  simp [mW, mF, mU, List.set]
theorem mG_26 (C : mC) (h : Nat) (a : Nat → Nat) (M : Nat → Nat → Int) : (mW C h a M)[19]? = some (a 26, .inl (C.1, 4, .inl (fun k => iZ (M 26 k)))) := rfl
theorem mS_26 (C : mC) (h : Nat) (a : Nat → Nat) (M : Nat → Nat → Int) (i : Nat) (v : Int) : (mW C h a M).set 19 (a 26, .inl (C.1, 4, .inl (upd (fun k => iZ (M 26 k)) i (iZ v)))) = mW C h a (mU M 26 i v) := by
  have e : upd (fun k => iZ (M 26 k)) i (iZ v) = fun k => iZ (mU M 26 i v 26 k) := by
    funext k
    by_cases hk : k = i <;> simp [upd, mU, hk]
  rw [e]
  simp [mW, mF, mU, List.set]
theorem mG_27 (C : mC) (h : Nat) (a : Nat → Nat) (M : Nat → Nat → Int) : (mW C h a M)[20]? = some (a 27, .inl (C.1, 4, .inl (fun k => iZ (M 27 k)))) := rfl
theorem mS_27 (C : mC) (h : Nat) (a : Nat → Nat) (M : Nat → Nat → Int) (i : Nat) (v : Int) : (mW C h a M).set 20 (a 27, .inl (C.1, 4, .inl (upd (fun k => iZ (M 27 k)) i (iZ v)))) = mW C h a (mU M 27 i v) := by
  have e : upd (fun k => iZ (M 27 k)) i (iZ v) = fun k => iZ (mU M 27 i v 27 k) := by
    funext k
    by_cases hk : k = i <;> simp [upd, mU, hk]
  rw [e]
  simp [mW, mF, mU, List.set]
theorem mS_1 (C : mC) (h : Nat) (a : Nat → Nat) (M : Nat → Nat → Int) (v : Int) : (mW C h a M).set 0 (h, .inr (8, (mF a M).set 1 (.int (iZ v)))) = mW C h a (mU M 1 0 v) := by
  simp [mW, mF, mU, List.set]
theorem mS_12 (C : mC) (h : Nat) (a : Nat → Nat) (M : Nat → Nat → Int) (v : Int) : (mW C h a M).set 0 (h, .inr (8, (mF a M).set 12 (.int (iZ v)))) = mW C h a (mU M 12 0 v) := by
  simp [mW, mF, mU, List.set]
theorem mS_13 (C : mC) (h : Nat) (a : Nat → Nat) (M : Nat → Nat → Int) (v : Int) : (mW C h a M).set 0 (h, .inr (8, (mF a M).set 13 (.int (iZ v)))) = mW C h a (mU M 13 0 v) := by
  simp [mW, mF, mU, List.set]
theorem mS_14 (C : mC) (h : Nat) (a : Nat → Nat) (M : Nat → Nat → Int) (v : Int) : (mW C h a M).set 0 (h, .inr (8, (mF a M).set 14 (.int (iZ v)))) = mW C h a (mU M 14 0 v) := by
  simp [mW, mF, mU, List.set]
theorem mS_15 (C : mC) (h : Nat) (a : Nat → Nat) (M : Nat → Nat → Int) (v : Int) : (mW C h a M).set 0 (h, .inr (8, (mF a M).set 15 (.int (iZ v)))) = mW C h a (mU M 15 0 v) := by
  simp [mW, mF, mU, List.set]
theorem mS_16 (C : mC) (h : Nat) (a : Nat → Nat) (M : Nat → Nat → Int) (v : Int) : (mW C h a M).set 0 (h, .inr (8, (mF a M).set 16 (.int (iZ v)))) = mW C h a (mU M 16 0 v) := by
  simp [mW, mF, mU, List.set]
theorem mS_17 (C : mC) (h : Nat) (a : Nat → Nat) (M : Nat → Nat → Int) (v : Int) : (mW C h a M).set 0 (h, .inr (8, (mF a M).set 17 (.int (iZ v)))) = mW C h a (mU M 17 0 v) := by
  simp [mW, mF, mU, List.set]
theorem mS_18 (C : mC) (h : Nat) (a : Nat → Nat) (M : Nat → Nat → Int) (v : Int) : (mW C h a M).set 0 (h, .inr (8, (mF a M).set 18 (.int (iZ v)))) = mW C h a (mU M 18 0 v) := by
  simp [mW, mF, mU, List.set]
theorem mS_28 (C : mC) (h : Nat) (a : Nat → Nat) (M : Nat → Nat → Int) (v : Int) : (mW C h a M).set 0 (h, .inr (8, (mF a M).set 28 (.int (iZ v)))) = mW C h a (mU M 28 0 v) := by
  simp [mW, mF, mU, List.set]
theorem mS_29 (C : mC) (h : Nat) (a : Nat → Nat) (M : Nat → Nat → Int) (v : Int) : (mW C h a M).set 0 (h, .inr (8, (mF a M).set 29 (.long (iL v)))) = mW C h a (mU M 29 0 v) := by
  simp [mW, mF, mU, List.set]
section MROWS
variable {p : Program} {l : Launch} {e : Env} {R : Room} {s : State} {m : MethodId} {args : Array Value} {below : List Frame} {meth : Method} {c : Code} {H : Heap} {locs : List Loc} {cells slots : Nat} {Q : State → Prop}
variable {cc : ByteArray} {pc : Nat} {ls : Array Slot} {rest : List Value} {D : va_G} {C : mC} {h : Nat} {a : Nat → Nat} {M : Nat → Nat → Int} {A : Nat → Prop} {H0 : Heap}
theorem mq_get (hexec : p.tables.exec = Jvm.exec) (hb : c.code = cc) {Ts : List Cond} (hts : ∀ w ∈ Ts, w.before args s = true) (hin : ∀ w ∈ wsX80, w ∈ Ts) (hown : s.vm.findClass RX8 = some m.cls) (hK : va_K D vwCl (mT C) s) (hP : va_P D vwCl (mW C h a M) H) (k : Nat) (hk : k < 30) {index : Nat} (hlink : (Cond.fieldLink RX8 index (TX8 k).1 (TX8 k).2.1 (TX8 k).2.2.1).before args s = true) {v : Value} (hv : (mF a M)[k]? = some v) (hdg : decode cc pc = .ok (.getfield index, 3)) (kk : W p l e R s m args below meth c H locs cells slots Q (F0 m (pc + 3) ls (v :: rest))) : W p l e R s m args below meth c H locs cells slots Q (F0 m pc ls (.ref h :: rest)) :=
  va_get (D := D) (ci := 8) (C := RX8) (T := TX8) (N := 30) hexec hb hts hin hown hK hP 0 rfl rfl k hk hlink (fun _ h9 => h9) hv hdg kk
theorem mq_put (hexec : p.tables.exec = Jvm.exec) (hb : c.code = cc) {Ts : List Cond} (hts : ∀ w ∈ Ts, w.before args s = true) (hin : ∀ w ∈ wsX80, w ∈ Ts) (hown : s.vm.findClass RX8 = some m.cls) (hK : va_K D vwCl (mT C) s) (hP : va_P D vwCl (mW C h a M) H) (hD : va_D A (mW C h a M)) (hS : va_S A H0 H locs) (k : Nat) (hk : k < 30) {index : Nat} (hlink : (Cond.fieldLink RX8 index (TX8 k).1 (TX8 k).2.1 (TX8 k).2.2.1).before args s = true) (hfin : (TX8 k).2.2.2 = false) {ty : FieldType} {v : Int} (hd : parseFieldDescriptor (TX8 k).2.2.1 = some ty) (hn : narrow ty (.int (iZ v)) = .int (iZ v)) (hfit : fits ty (.int (iZ v)) = true) (hs : (mW C h a M).set 0 (h, .inr (8, (mF a M).set k (.int (iZ v)))) = mW C h a (mU M k 0 v)) (hdg : decode cc pc = .ok (.putfield index, 3)) (kk : ∀ (H1 : Heap) (locs1 : List Loc), va_P D vwCl (mW C h a (mU M k 0 v)) H1 → va_D A (mW C h a (mU M k 0 v)) → va_S A H0 H1 locs1 → W p l e R s m args below meth c H1 locs1 cells slots Q (F0 m (pc + 3) ls rest)) : W p l e R s m args below meth c H locs cells slots Q (F0 m pc ls (.int (iZ v) :: .ref h :: rest)) :=
  va_put (D := D) (ci := 8) (C := RX8) (T := TX8) (N := 30) hexec hb hts hin tyX8 tyX8_ok nmX8 hown hK hP hD hS 0 rfl rfl k hk hlink (fun _ h9 => h9) hfin hd hn hfit hk hdg (fun H1 locs1 hP1 hD1 hS1 => kk H1 locs1 (hs ▸ hP1) (hs ▸ hD1) hS1)
theorem mq_putL (hexec : p.tables.exec = Jvm.exec) (hb : c.code = cc) {Ts : List Cond} (hts : ∀ w ∈ Ts, w.before args s = true) (hin : ∀ w ∈ wsX80, w ∈ Ts) (hown : s.vm.findClass RX8 = some m.cls) (hK : va_K D vwCl (mT C) s) (hP : va_P D vwCl (mW C h a M) H) (hD : va_D A (mW C h a M)) (hS : va_S A H0 H locs) {index : Nat} (hlink : (Cond.fieldLink RX8 index (TX8 29).1 (TX8 29).2.1 (TX8 29).2.2.1).before args s = true) {v : Int} (hdg : decode cc pc = .ok (.putfield index, 3)) (kk : ∀ (H1 : Heap) (locs1 : List Loc), va_P D vwCl (mW C h a (mU M 29 0 v)) H1 → va_D A (mW C h a (mU M 29 0 v)) → va_S A H0 H1 locs1 → W p l e R s m args below meth c H1 locs1 cells slots Q (F0 m (pc + 3) ls rest)) : W p l e R s m args below meth c H locs cells slots Q (F0 m pc ls (.long (iL v) :: .ref h :: rest)) :=
  va_put (D := D) (ci := 8) (C := RX8) (T := TX8) (N := 30) (ty := .long) hexec hb hts hin tyX8 tyX8_ok nmX8 hown hK hP hD hS 0 rfl rfl 29 (by decide) hlink (fun _ h9 => h9) rfl (by decide +kernel) rfl rfl (Nat.le_of_ble_eq_true rfl) hdg (fun H1 locs1 hP1 hD1 hS1 => kk H1 locs1 ((mS_29 C h a M v) ▸ hP1) ((mS_29 C h a M v) ▸ hD1) hS1)
theorem mq_iald (hexec : p.tables.exec = Jvm.exec) (hb : c.code = cc) (hK : va_K D vwCl (mT C) s) (hP : va_P D vwCl (mW C h a M) H) (f q0 : Nat) {n : Nat} (ha : (mW C h a M)[q0]? = some (a f, .inl (C.1, n, .inl (fun k => iZ (M f k))))) (hn : n < 2147483648) {i : Int} (k : Nat) (hk : i.toNat = k) (hi : 0 ≤ i ∧ i < (n : Int)) (hdg : decode cc pc = .ok (.iaload, 1)) (kk : W p l e R s m args below meth c H locs cells slots Q (F0 m (pc + 1) ls (.int (iZ (M f k)) :: rest))) : W p l e R s m args below meth c H locs cells slots Q (F0 m pc ls (.int (iZ i) :: .ref (a f) :: rest)) := by
  refine va_iald hexec hb hK hP q0 0 ha rfl (iZ_in hi hn) hdg ?_
  rw [iZ_cl ⟨hi.1, by omega⟩, hk]
  exact kk
theorem mq_bald (hexec : p.tables.exec = Jvm.exec) (hb : c.code = cc) (hK : va_K D vwCl (mT C) s) (hP : va_P D vwCl (mW C h a M) H) (f q0 : Nat) {n : Nat} (ha : (mW C h a M)[q0]? = some (a f, .inl (C.2.1, n, .inl (fun k => iZ (M f k))))) (hn : n < 2147483648) {i : Int} (k : Nat) (hk : i.toNat = k) (hi : 0 ≤ i ∧ i < (n : Int)) (hdg : decode cc pc = .ok (.baload, 1)) (kk : W p l e R s m args below meth c H locs cells slots Q (F0 m (pc + 1) ls (.int (iZ (M f k)) :: rest))) : W p l e R s m args below meth c H locs cells slots Q (F0 m pc ls (.int (iZ i) :: .ref (a f) :: rest)) := by
  refine va_bald hexec hb hK hP q0 1 ha rfl (iZ_in hi hn) hdg ?_
  rw [iZ_cl ⟨hi.1, by omega⟩, hk]
  exact kk
theorem mq_zald (hexec : p.tables.exec = Jvm.exec) (hb : c.code = cc) (hK : va_K D vwCl (mT C) s) (hP : va_P D vwCl (mW C h a M) H) (f q0 : Nat) {n : Nat} (ha : (mW C h a M)[q0]? = some (a f, .inl (C.2.2, n, .inl (fun k => iZ (M f k))))) (hn : n < 2147483648) {i : Int} (k : Nat) (hk : i.toNat = k) (hi : 0 ≤ i ∧ i < (n : Int)) (hdg : decode cc pc = .ok (.baload, 1)) (kk : W p l e R s m args below meth c H locs cells slots Q (F0 m (pc + 1) ls (.int (iZ (M f k)) :: rest))) : W p l e R s m args below meth c H locs cells slots Q (F0 m pc ls (.int (iZ i) :: .ref (a f) :: rest)) := by
  refine va_zald hexec hb hK hP q0 2 ha rfl (iZ_in hi hn) hdg ?_
  rw [iZ_cl ⟨hi.1, by omega⟩, hk]
  exact kk
theorem mq_iast (hexec : p.tables.exec = Jvm.exec) (hb : c.code = cc) (hK : va_K D vwCl (mT C) s) (hP : va_P D vwCl (mW C h a M) H) (hD : va_D A (mW C h a M)) (hS : va_S A H0 H locs) (f q0 : Nat) {n : Nat} (ha : (mW C h a M)[q0]? = some (a f, .inl (C.1, n, .inl (fun k => iZ (M f k))))) {i v : Int} (hs : ∀ k : Nat, (mW C h a M).set q0 (a f, .inl (C.1, n, .inl (upd (fun k => iZ (M f k)) k (iZ v)))) = mW C h a (mU M f k v)) (hn : n < 2147483648) (k : Nat) (hk : i.toNat = k) (hi : 0 ≤ i ∧ i < (n : Int)) (hdg : decode cc pc = .ok (.iastore, 1)) (kk : ∀ (H1 : Heap) (locs1 : List Loc), va_P D vwCl (mW C h a (mU M f k v)) H1 → va_D A (mW C h a (mU M f k v)) → va_S A H0 H1 locs1 → W p l e R s m args below meth c H1 locs1 cells slots Q (F0 m (pc + 1) ls rest)) : W p l e R s m args below meth c H locs cells slots Q (F0 m pc ls (.int (iZ v) :: .int (iZ i) :: .ref (a f) :: rest)) := by
  refine va_iast hexec hb hK hP hD hS q0 0 ha rfl (iZ_in hi hn) hdg (fun H1 locs1 hP1 hD1 hS1 => ?_)
  rw [iZ_cl ⟨hi.1, by omega⟩, hk, hs k] at hP1 hD1
  exact kk H1 locs1 hP1 hD1 hS1
theorem mq_bast (hexec : p.tables.exec = Jvm.exec) (hb : c.code = cc) (hK : va_K D vwCl (mT C) s) (hP : va_P D vwCl (mW C h a M) H) (hD : va_D A (mW C h a M)) (hS : va_S A H0 H locs) (f q0 : Nat) {n : Nat} (ha : (mW C h a M)[q0]? = some (a f, .inl (C.2.1, n, .inl (fun k => iZ (M f k))))) {i v : Int} (hs : ∀ k : Nat, (mW C h a M).set q0 (a f, .inl (C.2.1, n, .inl (upd (fun k => iZ (M f k)) k (iZ v)))) = mW C h a (mU M f k v)) (hn : n < 2147483648) (k : Nat) (hk : i.toNat = k) (hi : 0 ≤ i ∧ i < (n : Int)) (hnar : vp_nar .byte (iZ v) = iZ v) (hdg : decode cc pc = .ok (.bastore, 1)) (kk : ∀ (H1 : Heap) (locs1 : List Loc), va_P D vwCl (mW C h a (mU M f k v)) H1 → va_D A (mW C h a (mU M f k v)) → va_S A H0 H1 locs1 → W p l e R s m args below meth c H1 locs1 cells slots Q (F0 m (pc + 1) ls rest)) : W p l e R s m args below meth c H locs cells slots Q (F0 m pc ls (.int (iZ v) :: .int (iZ i) :: .ref (a f) :: rest)) := by
  refine va_bast hexec hb hK hP hD hS q0 1 ha rfl (iZ_in hi hn) hdg (fun H1 locs1 hP1 hD1 hS1 => ?_)
  rw [iZ_cl ⟨hi.1, by omega⟩, hk, hnar, hs k] at hP1 hD1
  exact kk H1 locs1 hP1 hD1 hS1
theorem mq_zast (hexec : p.tables.exec = Jvm.exec) (hb : c.code = cc) (hK : va_K D vwCl (mT C) s) (hP : va_P D vwCl (mW C h a M) H) (hD : va_D A (mW C h a M)) (hS : va_S A H0 H locs) (f q0 : Nat) {n : Nat} (ha : (mW C h a M)[q0]? = some (a f, .inl (C.2.2, n, .inl (fun k => iZ (M f k))))) {i v : Int} (hs : ∀ k : Nat, (mW C h a M).set q0 (a f, .inl (C.2.2, n, .inl (upd (fun k => iZ (M f k)) k (iZ v)))) = mW C h a (mU M f k v)) (hn : n < 2147483648) (k : Nat) (hk : i.toNat = k) (hi : 0 ≤ i ∧ i < (n : Int)) (hnar : vp_nar .boolean (iZ v) = iZ v) (hdg : decode cc pc = .ok (.bastore, 1)) (kk : ∀ (H1 : Heap) (locs1 : List Loc), va_P D vwCl (mW C h a (mU M f k v)) H1 → va_D A (mW C h a (mU M f k v)) → va_S A H0 H1 locs1 → W p l e R s m args below meth c H1 locs1 cells slots Q (F0 m (pc + 1) ls rest)) : W p l e R s m args below meth c H locs cells slots Q (F0 m pc ls (.int (iZ v) :: .int (iZ i) :: .ref (a f) :: rest)) := by
  refine va_zast hexec hb hK hP hD hS q0 2 ha rfl (iZ_in hi hn) hdg (fun H1 locs1 hP1 hD1 hS1 => ?_)
  rw [iZ_cl ⟨hi.1, by omega⟩, hk, hnar, hs k] at hP1 hD1
  exact kk H1 locs1 hP1 hD1 hS1
theorem mq_ci {y : MethodName} {bytes : ByteArray} {maxL nL n index : Nat} {ret : Option FieldType} {ws Ts : List Cond} {rm : Room} {As st0 : List Value} {v : Int} (S : CallFix p m c cc nL s args Ts RX8) (hK : va_K D vwCl (mT C) s) (hP : va_P D vwCl (mW C h a M) H) (hM : Met l y ws rm (va_Pc (.ref h :: As) (mOk D C h a M)) (vp_Si (fun r => r = iZ v)) 0 0 (fun _ => False)) (cw : CallW R s args RX8 RX8 index y bytes maxL ret ws rm 0 0 n) (hst : st0 = As.reverse ++ .ref h :: rest) (hn : As.length = n) (hsize : ls.size = nL) (hW : (rest.map fun v => v.category).sum ≤ 8) (hf : cells ≤ R.cells ∧ slots ≤ R.slots) (hdg : decode cc pc = .ok (.invokevirtual index, 3)) (kk : W p l e R s m args below meth c H locs cells slots Q (F0 m (pc + 3) ls (.int (iZ v) :: rest))) : W p l e R s m args below meth c H locs cells slots Q (F0 m pc ls st0) :=
  vp_callSi (W.runV S hM cw ⟨mOk_blind, va_recv hK hP (ci := 8) (q0 := 0) rfl rfl, fun U hU hW => ⟨rfl, by rw [hU]; exact hP, va_K.moved hW.alike hK⟩⟩ rfl hn hsize hst (lv_room hW) hdg hf) (fun r hr => by rw [hr]; exact kk)
theorem mq_cs {y : MethodName} {bytes : ByteArray} {maxL nL n index : Nat} {ret : Option FieldType} {ws Ts : List Cond} {rm : Room} {As st0 : List Value} {v : Int} (S : CallFix p m c cc nL s args Ts RX8) (hM : Met l y ws rm (va_Pc As (fun _ => True)) (vp_Si (fun r => r = iZ v)) 0 0 (fun _ => False)) (cw : CallB R s args RX8 index y bytes maxL ret ws rm 0 0 n ∧ (Cond.static y).before args s = true) (hst : st0 = As.reverse ++ rest) (hn : As.length = n) (hsize : ls.size = nL) (hW : (rest.map fun v => v.category).sum ≤ 8) (hf : cells ≤ R.cells ∧ slots ≤ R.slots) (hdg : decode cc pc = .ok (.invokestatic index, 3)) (kk : W p l e R s m args below meth c H locs cells slots Q (F0 m (pc + 3) ls (.int (iZ v) :: rest))) : W p l e R s m args below meth c H locs cells slots Q (F0 m pc ls st0) :=
  vp_callSi (W.runS S hM cw ⟨fun b U g mk q => q, fun U hU hW => ⟨rfl, trivial⟩⟩ rfl hn hsize hst (lv_room hW) hdg hf) (fun r hr => by rw [hr]; exact kk)
theorem mq_cm {y : MethodName} {bytes : ByteArray} {maxL nL n index : Nat} {ret : Option FieldType} {ws Ts : List Cond} {rm : Room} {As st0 : List Value} {v : Int} {M2 : Nat → Nat → Int} (S : CallFix p m c cc nL s args Ts RX8) (hK : va_K D vwCl (mT C) s) (hP : va_P D vwCl (mW C h a M) H) (hD : va_D A (mW C h a M)) (hS : va_S A H0 H locs) (hA : ∀ q, mA h a q → A q) (hM : Met l y ws rm (va_Pc (.ref h :: As) (mOk D C h a M)) (va_Qi (fun r (_ : Unit) => r = iZ v) (fun _ t => mOk D C h a M2 t) (mA h a)) 0 0 (mA h a)) (cw : CallW R s args RX8 RX8 index y bytes maxL ret ws rm 0 0 n) (hst : st0 = As.reverse ++ .ref h :: rest) (hn : As.length = n) (hsize : ls.size = nL) (hW : (rest.map fun v => v.category).sum ≤ 8) (hf : cells ≤ R.cells ∧ slots ≤ R.slots) (hdg : decode cc pc = .ok (.invokevirtual index, 3)) (kk : ∀ (H1 : Heap) (locs1 : List Loc), va_P D vwCl (mW C h a (M2)) H1 → va_D A (mW C h a (M2)) → va_S A H0 H1 locs1 → W p l e R s m args below meth c H1 locs1 cells slots Q (F0 m (pc + 3) ls (.int (iZ v) :: rest))) : W p l e R s m args below meth c H locs cells slots Q (F0 m pc ls st0) :=
  va_calli (va_runV S hM cw ⟨mOk_blind, va_recv hK hP (ci := 8) (q0 := 0) rfl rfl, fun U hU hW => ⟨rfl, by rw [hU]; exact hP, va_K.moved hW.alike hK⟩⟩ rfl hn hsize hst (lv_room hW) hdg hf) hS (fun q _ h9 => hA q h9) hA (fun r u t H1 locs1 ht hvm hr hB hz hk hS1 => by
    rw [hr]
    exact kk H1 locs1 (ht ▸ hB.1) (mD_re hD) hS1)
theorem mq_cv {y : MethodName} {bytes : ByteArray} {maxL nL n index : Nat} {ret : Option FieldType} {ws Ts : List Cond} {rm : Room} {As st0 : List Value} {M2 : Nat → Nat → Int} (S : CallFix p m c cc nL s args Ts RX8) (hK : va_K D vwCl (mT C) s) (hP : va_P D vwCl (mW C h a M) H) (hD : va_D A (mW C h a M)) (hS : va_S A H0 H locs) (hA : ∀ q, mA h a q → A q) (hM : Met l y ws rm (va_Pc (.ref h :: As) (mOk D C h a M)) (va_Qv (fun (_ : Unit) => True) (fun _ t => mOk D C h a M2 t) (mA h a)) 0 0 (mA h a)) (cw : CallW R s args RX8 RX8 index y bytes maxL ret ws rm 0 0 n) (hst : st0 = As.reverse ++ .ref h :: rest) (hn : As.length = n) (hsize : ls.size = nL) (hW : (rest.map fun v => v.category).sum ≤ 8) (hf : cells ≤ R.cells ∧ slots ≤ R.slots) (hdg : decode cc pc = .ok (.invokevirtual index, 3)) (kk : ∀ (H1 : Heap) (locs1 : List Loc), va_P D vwCl (mW C h a (M2)) H1 → va_D A (mW C h a (M2)) → va_S A H0 H1 locs1 → W p l e R s m args below meth c H1 locs1 cells slots Q (F0 m (pc + 3) ls rest)) : W p l e R s m args below meth c H locs cells slots Q (F0 m pc ls st0) :=
  va_callv (va_runV S hM cw ⟨mOk_blind, va_recv hK hP (ci := 8) (q0 := 0) rfl rfl, fun U hU hW => ⟨rfl, by rw [hU]; exact hP, va_K.moved hW.alike hK⟩⟩ rfl hn hsize hst (lv_room hW) hdg hf) hS (fun q _ h9 => hA q h9) hA (fun u t H1 locs1 ht hvm hr hB hz hk hS1 => kk H1 locs1 (ht ▸ hB.1) (mD_re hD) hS1)
/-- ends -/
theorem mq_ret {v w : Int} {ret : FieldType} (hexec : p.tables.exec = Jvm.exec) (hb : c.code = cc) (hr : meth.sig.returnType = some ret) (hn : narrow ret (.int (iZ v)) = .int (iZ v)) (hv : v = w) (hdg : decode cc pc = .ok (.ireturn, 1)) (hlocks : meth.locks = false) (hH : H = s.heap) : W p l e R s m args below meth c H [] cells slots (MQ below (vp_Si (fun r => r = iZ w)) args s cells slots (fun _ => False)) (F0 m pc ls [.int (iZ v)]) :=
  W.zret hexec hb hr hn (fun t ht hW => ⟨_, rfl, by rw [hv], ht.trans hH⟩) (fun q hq => nomatch hq) hdg hlocks
theorem mq_retL {v w : Int} (hexec : p.tables.exec = Jvm.exec) (hb : c.code = cc) (hr : meth.sig.returnType = some .long) (hv : v = w) (hdg : decode cc pc = .ok (.lreturn, 1)) (hlocks : meth.locks = false) (hH : H = s.heap) : W p l e R s m args below meth c H [] cells slots (MQ below (vp_Sl (fun r => r = iL w)) args s cells slots (fun _ => False)) (F0 m pc ls [.long (iL v)]) :=
  W.lret hexec hb hr (fun t ht hW => ⟨_, rfl, by rw [hv], ht.trans hH⟩) (fun q hq => nomatch hq) hdg hlocks
theorem mq_retM {v w : Int} {M2 : Nat → Nat → Int} {ret : FieldType} (hexec : p.tables.exec = Jvm.exec) (hb : c.code = cc) (hK : va_K D vwCl (mT C) s) (hP : va_P D vwCl (mW C h a M) H) (hS : va_S (mA h a) s.heap H locs) (hr : meth.sig.returnType = some ret) (hn : narrow ret (.int (iZ v)) = .int (iZ v)) (hv : v = w) (hM2 : M = M2) (hdg : decode cc pc = .ok (.ireturn, 1)) (hlocks : meth.locks = false) : W p l e R s m args below meth c H locs cells slots (MQ below (va_Qi (fun r (_ : Unit) => r = iZ w) (fun _ t => mOk D C h a M2 t) (mA h a)) args s cells slots (mA h a)) (F0 m pc ls [.int (iZ v)]) :=
  W.zret hexec hb hr hn (fun t ht hW => ⟨⟨_, (), rfl, by rw [hv], by rw [ht, ← hM2]; exact hP, va_K.moved hW.alike hK⟩, hS.F ht⟩) hS.2.2 hdg hlocks
theorem mq_retV {M2 : Nat → Nat → Int} (hexec : p.tables.exec = Jvm.exec) (hb : c.code = cc) (hK : va_K D vwCl (mT C) s) (hP : va_P D vwCl (mW C h a M) H) (hS : va_S (mA h a) s.heap H locs) (hr : meth.sig.returnType = none) (hM2 : M = M2) (hdg : decode cc pc = .ok (.return_, 1)) (hlocks : meth.locks = false) : W p l e R s m args below meth c H locs cells slots (MQ below (va_Qv (fun (_ : Unit) => True) (fun _ t => mOk D C h a M2 t) (mA h a)) args s cells slots (mA h a)) (F0 m pc ls []) :=
  W.vret hexec hb hr (fun t ht hW => ⟨⟨(), rfl, trivial, by rw [ht, ← hM2]; exact hP, va_K.moved hW.alike hK⟩, hS.F ht⟩) hS.2.2 hdg hlocks
end MROWS
