/-! The class: 204 cells. V i k: slot k of cell i (a reference: the number of the cell that it names). -/
abbrev cC : Type := ClassId × ClassId × ClassId
def sh (i : Nat) : Nat := if i < 15 then i else if i < 31 then 15 + (i - 15) % 8 else if i < 37 then 23 + (i - 31) % 2 else if i < 39 then 25 else 26 + (i - 39) % 5
def cF0 (a : Nat → Nat) (i : Nat) (r : Nat → Int) : List Value := [.ref (a 1), .int (iZ (r 1)), .ref (a 2), .ref (a (Int.toNat (r 3))), .ref (a (Int.toNat (r 4))), .ref (a 39), .ref (a 31), .ref (a 3), .ref (a 4), .ref (a 9), .ref (a 13), .ref (a 14), .long (iL (r 12))]
def cF2 (a : Nat → Nat) (i : Nat) (r : Nat → Int) : List Value := [.ref (a 1), .int (iZ (r 1)), .int (iZ (r 2)), .int (iZ (r 3)), .int (iZ (r 4)), .int (iZ (r 5))]
def cF4 (a : Nat → Nat) (i : Nat) (r : Nat → Int) : List Value := [.ref (a 5), .ref (a 6), .ref (a 7), .ref (a 8), .int (iZ (r 4))]
def cF9 (a : Nat → Nat) (i : Nat) (r : Nat → Int) : List Value := [.ref (a 10), .ref (a 11), .ref (a 12), .int (iZ (r 3)), .int (iZ (r 4)), .int (iZ (r 5))]
def cF15 (a : Nat → Nat) (i : Nat) (r : Nat → Int) : List Value := [.ref (a (i + 1)), .ref (a (i + 2)), .ref (a (i + 3)), .ref (a (i + 4)), .ref (a (i + 5)), .ref (a (i + 6)), .ref (a (i + 7)), .int (iZ (r 7)), .int (iZ (r 8)), .int (iZ (r 9))]
def cF23 (a : Nat → Nat) (i : Nat) (r : Nat → Int) : List Value := [.ref (a (i + 1)), .int (iZ (r 1))]
def cF25 (a : Nat → Nat) (i : Nat) (r : Nat → Int) : List Value := [.ref (a (44 + 5 * (i - 37))), .ref (a (33 + 2 * (i - 37))), .int (iZ (r 2))]
def cF26 (a : Nat → Nat) (i : Nat) (r : Nat → Int) : List Value := [.int (iZ (r 0)), .int (iZ (r 1)), .int (iZ (r 2)), .ref (a (i + 1)), .ref (a (i + 2)), .ref (a (i + 3)), .ref (a (i + 4))]
def cE (C : cC) (a : Nat → Nat) (i : Nat) (r : Nat → Int) : va_E := match sh i with
  | 0 => .inr (7, cF0 a i r)
  | 1 => .inl (C.1, 120, .inl (fun k => iZ (r k)))
  | 2 => .inr (5, cF2 a i r)
  | 3 => .inl (C.2.2, 2, .inr (.inr (.inr (.inr (fun k => some (a (37 + k)))))))
  | 4 => .inr (4, cF4 a i r)
  | 5 => .inl (C.1, 4, .inl (fun k => iZ (r k)))
  | 6 => .inl (C.1, 4, .inl (fun k => iZ (r k)))
  | 7 => .inl (C.1, 4, .inl (fun k => iZ (r k)))
  | 8 => .inl (C.1, 4, .inl (fun k => iZ (r k)))
  | 9 => .inr (0, cF9 a i r)
  | 10 => .inl (C.1, 6, .inl (fun k => iZ (r k)))
  | 11 => .inl (C.1, 24, .inl (fun k => iZ (r k)))
  | 12 => .inl (C.1, 4, .inl (fun k => iZ (r k)))
  | 13 => .inl (C.1, 6, .inl (fun k => iZ (r k)))
  | 14 => .inl (C.1, 6, .inl (fun k => iZ (r k)))
  | 15 => .inr (6, cF15 a i r)
  | 16 => .inl (C.1, 6, .inl (fun k => iZ (r k)))
  | 17 => .inl (C.1, 6, .inl (fun k => iZ (r k)))
  | 18 => .inl (C.1, 6, .inl (fun k => iZ (r k)))
  | 19 => .inl (C.1, 6, .inl (fun k => iZ (r k)))
  | 20 => .inl (C.1, 6, .inl (fun k => iZ (r k)))
  | 21 => .inl (C.1, 6, .inl (fun k => iZ (r k)))
  | 22 => .inl (C.1, 4, .inl (fun k => iZ (r k)))
  | 23 => .inr (3, cF23 a i r)
  | 24 => .inl (C.2.1, 10, .inr (.inr (.inr (.inr (fun k => some (a (Int.toNat (r k))))))))
  | 25 => .inr (1, cF25 a i r)
  | 26 => .inr (2, cF26 a i r)
  | 27 => .inl (C.1, 4, .inl (fun k => iZ (r k)))
  | 28 => .inl (C.1, 6, .inl (fun k => iZ (r k)))
  | 29 => .inl (C.1, 8, .inl (fun k => iZ (r k)))
  | 30 => .inl (C.1, 8, .inl (fun k => iZ (r k)))
  | _ => .inl (C.1, 8, .inl (fun k => iZ (r k)))
theorem cE_0 {C : cC} {a : Nat → Nat} {i : Nat} (h : sh i = 0) (r : Nat → Int) : cE C a i r = .inr (7, cF0 a i r) := by unfold cE; rw [h]; rfl
theorem cE_1 {C : cC} {a : Nat → Nat} {i : Nat} (h : sh i = 1) (r : Nat → Int) : cE C a i r = .inl (C.1, 120, .inl (fun k => iZ (r k))) := by unfold cE; rw [h]; rfl
theorem cE_2 {C : cC} {a : Nat → Nat} {i : Nat} (h : sh i = 2) (r : Nat → Int) : cE C a i r = .inr (5, cF2 a i r) := by unfold cE; rw [h]; rfl
theorem cE_3 {C : cC} {a : Nat → Nat} {i : Nat} (h : sh i = 3) (r : Nat → Int) : cE C a i r = .inl (C.2.2, 2, .inr (.inr (.inr (.inr (fun k => some (a (37 + k))))))) := by unfold cE; rw [h]; rfl
theorem cE_4 {C : cC} {a : Nat → Nat} {i : Nat} (h : sh i = 4) (r : Nat → Int) : cE C a i r = .inr (4, cF4 a i r) := by unfold cE; rw [h]; rfl
theorem cE_5 {C : cC} {a : Nat → Nat} {i : Nat} (h : sh i = 5) (r : Nat → Int) : cE C a i r = .inl (C.1, 4, .inl (fun k => iZ (r k))) := by unfold cE; rw [h]; rfl
theorem cE_6 {C : cC} {a : Nat → Nat} {i : Nat} (h : sh i = 6) (r : Nat → Int) : cE C a i r = .inl (C.1, 4, .inl (fun k => iZ (r k))) := by unfold cE; rw [h]; rfl
theorem cE_7 {C : cC} {a : Nat → Nat} {i : Nat} (h : sh i = 7) (r : Nat → Int) : cE C a i r = .inl (C.1, 4, .inl (fun k => iZ (r k))) := by unfold cE; rw [h]; rfl
theorem cE_8 {C : cC} {a : Nat → Nat} {i : Nat} (h : sh i = 8) (r : Nat → Int) : cE C a i r = .inl (C.1, 4, .inl (fun k => iZ (r k))) := by unfold cE; rw [h]; rfl
theorem cE_9 {C : cC} {a : Nat → Nat} {i : Nat} (h : sh i = 9) (r : Nat → Int) : cE C a i r = .inr (0, cF9 a i r) := by unfold cE; rw [h]; rfl
theorem cE_10 {C : cC} {a : Nat → Nat} {i : Nat} (h : sh i = 10) (r : Nat → Int) : cE C a i r = .inl (C.1, 6, .inl (fun k => iZ (r k))) := by unfold cE; rw [h]; rfl
theorem cE_11 {C : cC} {a : Nat → Nat} {i : Nat} (h : sh i = 11) (r : Nat → Int) : cE C a i r = .inl (C.1, 24, .inl (fun k => iZ (r k))) := by unfold cE; rw [h]; rfl
theorem cE_12 {C : cC} {a : Nat → Nat} {i : Nat} (h : sh i = 12) (r : Nat → Int) : cE C a i r = .inl (C.1, 4, .inl (fun k => iZ (r k))) := by unfold cE; rw [h]; rfl
theorem cE_13 {C : cC} {a : Nat → Nat} {i : Nat} (h : sh i = 13) (r : Nat → Int) : cE C a i r = .inl (C.1, 6, .inl (fun k => iZ (r k))) := by unfold cE; rw [h]; rfl
theorem cE_14 {C : cC} {a : Nat → Nat} {i : Nat} (h : sh i = 14) (r : Nat → Int) : cE C a i r = .inl (C.1, 6, .inl (fun k => iZ (r k))) := by unfold cE; rw [h]; rfl
theorem cE_15 {C : cC} {a : Nat → Nat} {i : Nat} (h : sh i = 15) (r : Nat → Int) : cE C a i r = .inr (6, cF15 a i r) := by unfold cE; rw [h]; rfl
theorem cE_16 {C : cC} {a : Nat → Nat} {i : Nat} (h : sh i = 16) (r : Nat → Int) : cE C a i r = .inl (C.1, 6, .inl (fun k => iZ (r k))) := by unfold cE; rw [h]; rfl
theorem cE_17 {C : cC} {a : Nat → Nat} {i : Nat} (h : sh i = 17) (r : Nat → Int) : cE C a i r = .inl (C.1, 6, .inl (fun k => iZ (r k))) := by unfold cE; rw [h]; rfl
theorem cE_18 {C : cC} {a : Nat → Nat} {i : Nat} (h : sh i = 18) (r : Nat → Int) : cE C a i r = .inl (C.1, 6, .inl (fun k => iZ (r k))) := by unfold cE; rw [h]; rfl
theorem cE_19 {C : cC} {a : Nat → Nat} {i : Nat} (h : sh i = 19) (r : Nat → Int) : cE C a i r = .inl (C.1, 6, .inl (fun k => iZ (r k))) := by unfold cE; rw [h]; rfl
theorem cE_20 {C : cC} {a : Nat → Nat} {i : Nat} (h : sh i = 20) (r : Nat → Int) : cE C a i r = .inl (C.1, 6, .inl (fun k => iZ (r k))) := by unfold cE; rw [h]; rfl
theorem cE_21 {C : cC} {a : Nat → Nat} {i : Nat} (h : sh i = 21) (r : Nat → Int) : cE C a i r = .inl (C.1, 6, .inl (fun k => iZ (r k))) := by unfold cE; rw [h]; rfl
theorem cE_22 {C : cC} {a : Nat → Nat} {i : Nat} (h : sh i = 22) (r : Nat → Int) : cE C a i r = .inl (C.1, 4, .inl (fun k => iZ (r k))) := by unfold cE; rw [h]; rfl
theorem cE_23 {C : cC} {a : Nat → Nat} {i : Nat} (h : sh i = 23) (r : Nat → Int) : cE C a i r = .inr (3, cF23 a i r) := by unfold cE; rw [h]; rfl
theorem cE_24 {C : cC} {a : Nat → Nat} {i : Nat} (h : sh i = 24) (r : Nat → Int) : cE C a i r = .inl (C.2.1, 10, .inr (.inr (.inr (.inr (fun k => some (a (Int.toNat (r k)))))))) := by unfold cE; rw [h]; rfl
theorem cE_25 {C : cC} {a : Nat → Nat} {i : Nat} (h : sh i = 25) (r : Nat → Int) : cE C a i r = .inr (1, cF25 a i r) := by unfold cE; rw [h]; rfl
theorem cE_26 {C : cC} {a : Nat → Nat} {i : Nat} (h : sh i = 26) (r : Nat → Int) : cE C a i r = .inr (2, cF26 a i r) := by unfold cE; rw [h]; rfl
theorem cE_27 {C : cC} {a : Nat → Nat} {i : Nat} (h : sh i = 27) (r : Nat → Int) : cE C a i r = .inl (C.1, 4, .inl (fun k => iZ (r k))) := by unfold cE; rw [h]; rfl
theorem cE_28 {C : cC} {a : Nat → Nat} {i : Nat} (h : sh i = 28) (r : Nat → Int) : cE C a i r = .inl (C.1, 6, .inl (fun k => iZ (r k))) := by unfold cE; rw [h]; rfl
theorem cE_29 {C : cC} {a : Nat → Nat} {i : Nat} (h : sh i = 29) (r : Nat → Int) : cE C a i r = .inl (C.1, 8, .inl (fun k => iZ (r k))) := by unfold cE; rw [h]; rfl
theorem cE_30 {C : cC} {a : Nat → Nat} {i : Nat} (h : sh i = 30) (r : Nat → Int) : cE C a i r = .inl (C.1, 8, .inl (fun k => iZ (r k))) := by unfold cE; rw [h]; rfl
def cW (C : cC) (a : Nat → Nat) (V : Nat → Nat → Int) : va_W := (List.range 204).map (fun i => (a i, cE C a i (V i)))
def cT (C : cC) : List (ClassId × FieldType) := [(C.1, .int), (C.2.1, .object "WordFletchers$Moment"), (C.2.2, .object "WordFletchers$Image")]
def cA (a : Nat → Nat) : Nat → Prop := fun q => ∃ k : Nat, k < 204 ∧ q = a k
theorem cW_get {C : cC} {a : Nat → Nat} {V : Nat → Nat → Int} {i : Nat} (hi : i < 204) {e : va_E} (he : cE C a i (V i) = e) : (cW C a V)[i]? = some (a i, e) := by
  subst he
  simp [cW, hi]
theorem cW_len {C : cC} {a : Nat → Nat} {V : Nat → Nat → Int} : (cW C a V).length = 204 := by simp [cW]
theorem cW_set {C : cC} {a : Nat → Nat} {V W : Nat → Nat → Int} {i : Nat} (hi : i < 204) {e : va_E} (he : cE C a i (W i) = e) (ho : ∀ j, j ≠ i → W j = V j) : (cW C a V).set i (a i, e) = cW C a W := by
  apply List.ext_getElem?
  intro j
  by_cases hj : j < 204
  · rw [cW_get (V := W) hj rfl, List.getElem?_set]
    by_cases q : i = j
    · subst q
      rw [if_pos rfl, cW_len, if_pos hi, he]
    · rw [if_neg q, cW_get hj rfl, ho j (fun z => q z.symm)]
  · rw [List.getElem?_eq_none (by rw [List.length_set, cW_len]; omega), List.getElem?_eq_none (by rw [cW_len]; omega)]
theorem mU_row (V : Nat → Nat → Int) (i k : Nat) (v : Int) : mU V i k v i = fun j => if j = k then v else V i j := by funext j; simp [mU]
theorem mU_or (V : Nat → Nat → Int) {i j : Nat} (k : Nat) (v : Int) (h : j ≠ i) : mU V i k v j = V j := by funext q; simp [mU, h]
/-- n slots of cell i go to the head of cell j -/
def cB (V : Nat → Nat → Int) (i j n : Nat) : Nat → Nat → Int := fun g k => if g = j ∧ k < n then V i k else V g k
theorem cB_or (V : Nat → Nat → Int) (i n : Nat) {j g : Nat} (h : g ≠ j) : cB V i j n g = V g := by funext q; simp [cB, h]
theorem cA_mem {C : cC} {a : Nat → Nat} {V : Nat → Nat → Int} (k : Nat) (q : Nat × va_E) (hq : (cW C a V)[k]? = some q) : cA a q.1 := by
  have hk : k < 204 := by
    have := (List.getElem?_eq_some_iff.mp hq).1
    rw [cW_len] at this; exact this
  rw [cW_get hk rfl] at hq
  cases hq
  exact ⟨k, hk, rfl⟩
theorem cD_re {A : Nat → Prop} {C C2 : cC} {a : Nat → Nat} {V W : Nat → Nat → Int} (hD : va_D A (cW C a V)) : va_D A (cW C2 a W) := va_D_cong (w := cW C a V) (w2 := cW C2 a W) (by simp [cW, Function.comp_def]) hD
theorem cD_own {A : Nat → Prop} {C : cC} {a : Nat → Nat} {V : Nat → Nat → Int} (hD : va_D A (cW C a V)) : va_D (cA a) (cW C a V) := hD.weaken (fun k q hq _ => cA_mem k q hq)
/-- which cells the objects are -/
def isTo (i : Nat) : Prop := 15 ≤ i ∧ i < 31 ∧ (i - 15) % 8 = 0
def isPa (i : Nat) : Prop := 31 ≤ i ∧ i < 37 ∧ (i - 31) % 2 = 0
def isIm (i : Nat) : Prop := 37 ≤ i ∧ i < 39
def isMo (i : Nat) : Prop := 39 ≤ i ∧ i < 204 ∧ (i - 39) % 5 = 0
theorem isTo.s0 {i : Nat} (h : isTo i) : sh i = 15 := by unfold isTo at h; unfold sh; (repeat' split) <;> omega
theorem isTo.l0 {i : Nat} (h : isTo i) : i < 204 := by unfold isTo at h; omega
theorem isTo.s1 {i : Nat} (h : isTo i) : sh (i + 1) = 16 := by unfold isTo at h; unfold sh; (repeat' split) <;> omega
theorem isTo.l1 {i : Nat} (h : isTo i) : i + 1 < 204 := by unfold isTo at h; omega
theorem isTo.s2 {i : Nat} (h : isTo i) : sh (i + 2) = 17 := by unfold isTo at h; unfold sh; (repeat' split) <;> omega
theorem isTo.l2 {i : Nat} (h : isTo i) : i + 2 < 204 := by unfold isTo at h; omega
theorem isTo.s3 {i : Nat} (h : isTo i) : sh (i + 3) = 18 := by unfold isTo at h; unfold sh; (repeat' split) <;> omega
theorem isTo.l3 {i : Nat} (h : isTo i) : i + 3 < 204 := by unfold isTo at h; omega
theorem isTo.s4 {i : Nat} (h : isTo i) : sh (i + 4) = 19 := by unfold isTo at h; unfold sh; (repeat' split) <;> omega
theorem isTo.l4 {i : Nat} (h : isTo i) : i + 4 < 204 := by unfold isTo at h; omega
theorem isTo.s5 {i : Nat} (h : isTo i) : sh (i + 5) = 20 := by unfold isTo at h; unfold sh; (repeat' split) <;> omega
theorem isTo.l5 {i : Nat} (h : isTo i) : i + 5 < 204 := by unfold isTo at h; omega
theorem isTo.s6 {i : Nat} (h : isTo i) : sh (i + 6) = 21 := by unfold isTo at h; unfold sh; (repeat' split) <;> omega
theorem isTo.l6 {i : Nat} (h : isTo i) : i + 6 < 204 := by unfold isTo at h; omega
theorem isTo.s7 {i : Nat} (h : isTo i) : sh (i + 7) = 22 := by unfold isTo at h; unfold sh; (repeat' split) <;> omega
theorem isTo.l7 {i : Nat} (h : isTo i) : i + 7 < 204 := by unfold isTo at h; omega
theorem isPa.s0 {i : Nat} (h : isPa i) : sh i = 23 := by unfold isPa at h; unfold sh; (repeat' split) <;> omega
theorem isPa.l0 {i : Nat} (h : isPa i) : i < 204 := by unfold isPa at h; omega
theorem isPa.s1 {i : Nat} (h : isPa i) : sh (i + 1) = 24 := by unfold isPa at h; unfold sh; (repeat' split) <;> omega
theorem isPa.l1 {i : Nat} (h : isPa i) : i + 1 < 204 := by unfold isPa at h; omega
theorem isMo.s0 {i : Nat} (h : isMo i) : sh i = 26 := by unfold isMo at h; unfold sh; (repeat' split) <;> omega
theorem isMo.l0 {i : Nat} (h : isMo i) : i < 204 := by unfold isMo at h; omega
theorem isMo.s1 {i : Nat} (h : isMo i) : sh (i + 1) = 27 := by unfold isMo at h; unfold sh; (repeat' split) <;> omega
theorem isMo.l1 {i : Nat} (h : isMo i) : i + 1 < 204 := by unfold isMo at h; omega
theorem isMo.s2 {i : Nat} (h : isMo i) : sh (i + 2) = 28 := by unfold isMo at h; unfold sh; (repeat' split) <;> omega
theorem isMo.l2 {i : Nat} (h : isMo i) : i + 2 < 204 := by unfold isMo at h; omega
theorem isMo.s3 {i : Nat} (h : isMo i) : sh (i + 3) = 29 := by unfold isMo at h; unfold sh; (repeat' split) <;> omega
theorem isMo.l3 {i : Nat} (h : isMo i) : i + 3 < 204 := by unfold isMo at h; omega
theorem isMo.s4 {i : Nat} (h : isMo i) : sh (i + 4) = 30 := by unfold isMo at h; unfold sh; (repeat' split) <;> omega
theorem isMo.l4 {i : Nat} (h : isMo i) : i + 4 < 204 := by unfold isMo at h; omega
theorem isIm.s0 {i : Nat} (h : isIm i) : sh i = 25 := by unfold isIm at h; unfold sh; (repeat' split) <;> omega
theorem isIm.l0 {i : Nat} (h : isIm i) : i < 204 := by unfold isIm at h; omega
theorem isIm.mo {i : Nat} (h : isIm i) : isMo (44 + 5 * (i - 37)) := by unfold isIm at h; unfold isMo; omega
theorem isIm.pa {i : Nat} (h : isIm i) : isPa (33 + 2 * (i - 37)) := by unfold isIm at h; unfold isPa; omega
theorem isMo_39 : isMo 39 := by unfold isMo; omega
theorem isPa_31 : isPa 31 := by unfold isPa; omega
theorem isIm_of {i : Int} (h : 0 ≤ i ∧ i < 2) : isIm (37 + Int.toNat i) := by unfold isIm; omega
/-- the fixed rows of numbers -/
def cKin : Nat → Int := fun k => ([0, 1, 10, 11, 20, 21, 30, 31, 110, 111, 120, 121, 130, 131, 210, 211, 220, 221, 230, 231, 310, 311, 320, 321, 330, 331] : List Int).getD k 0
def cMan : Nat → Int := fun k => ([0, 1, 10, 11, 110, 111, 210, 211, 310, 311, 20, 21, 120, 121, 220, 221, 320, 321, 30, 31, 130, 131, 230, 231, 330, 331] : List Int).getD k 0
def cLif : Nat → Int := fun k => ([3, 6, 4, 2] : List Int).getD k 0
/-- what a start gives beside the objects: links to nest mates, the three fixed rows of numbers -/
def cNA (D : va_G) (C : cC) (A : Nat → Prop) (b : Nat → Nat) (U : State) : Prop :=
  va_Nw (.methodLinkNest RX2 53 yX7_isIn RX7) U ∧ va_Nw (.fieldLinkNest RX6 56 RX7 "LIFT" "[I" RX7) U ∧ va_Nw (.fieldLinkNest RX6 63 RX7 "SHOTS_BY_KIND" "[I" RX7) U ∧
  va_Z RX7 "LIFT" "[I" (.ref (b 0)) A U U.heap ∧ va_Z RX7 "SHOTS_BY_KIND" "[I" (.ref (b 1)) A U U.heap ∧ va_Z RX7 "SHOTS_BY_HOW_MANY" "[I" (.ref (b 2)) A U U.heap ∧
  va_X (b 0) 4 (fun k => iZ (cLif k)) U U.heap ∧ va_X (b 1) 26 (fun k => iZ (cKin k)) U U.heap ∧ va_X (b 2) 26 (fun k => iZ (cMan k)) U U.heap ∧ (∀ i, i < 3 → ¬ A (b i) ∧ b i < U.heap.size) ∧ (D = D ∧ C = C)
theorem cNA.nar {D : va_G} {C : cC} {A A2 : Nat → Prop} {b : Nat → Nat} {U : State} (h : cNA D C A b U) (hA : ∀ q, A2 q → A q) : cNA D C A2 b U := by
  obtain ⟨h1, h2, h3, h4, h5, h6, h7, h8, h9, h10, h11⟩ := h
  exact ⟨h1, h2, h3, h4.narrow hA, h5.narrow hA, h6.narrow hA, h7, h8, h9, fun i hi => ⟨fun z => (h10 i hi).1 (hA _ z), (h10 i hi).2⟩, h11⟩
theorem cNA.moved {D : va_G} {C : cC} {A : Nat → Prop} {b : Nat → Nat} {s U : State} {H : Heap} {locs : List Loc} (h : cNA D C A b s) (hS : va_S A s.heap H locs) (hU : U.heap = H) (hW : s.WarmedH U.vm) : cNA D C A b U := by
  obtain ⟨h1, h2, h3, h4, h5, h6, h7, h8, h9, h10, h11⟩ := h
  subst hU
  have hk : ∀ q : Nat, q < s.heap.size → ¬ A q → U.heap[q]? = s.heap[q]? := hS.2.1
  have k : ∀ i, i < 3 → U.heap[b i]? = s.heap[b i]? := fun i hi => hk _ (h10 i hi).2 (h10 i hi).1
  exact ⟨h1.warmM hW, h2.warmF hW, h3.warmF hW, (h4.moved hW.alike).kept hk, (h5.moved hW.alike).kept hk, (h6.moved hW.alike).kept hk, (h7.moved hW.alike).kept (k 0 (by decide)), (h8.moved hW.alike).kept (k 1 (by decide)), (h9.moved hW.alike).kept (k 2 (by decide)), fun i hi => ⟨(h10 i hi).1, Nat.lt_of_lt_of_le (h10 i hi).2 hS.1⟩, h11⟩
theorem cNA.bl {D : va_G} {C : cC} {A : Nat → Prop} {b : Nat → Nat} {U : State} {g : JFrame} {mk : _} {x : _} (h : cNA D C A b U) : cNA D C A b (U.calling g mk x) := by
  obtain ⟨h1, h2, h3, h4, h5, h6, h7, h8, h9, h10, h11⟩ := h
  have al := Vm.Alike.refl U.vm
  exact ⟨h1.same rfl rfl, h2.same rfl rfl, h3.same rfl rfl, h4.moved al, h5.moved al, h6.moved al, h7.moved al, h8.moved al, h9.moved al, h10, h11⟩
abbrev cN (D : va_G) (C : cC) (a b : Nat → Nat) (U : State) : Prop := cNA D C (cA a) b U
theorem cN.moved {D : va_G} {C : cC} {a b : Nat → Nat} {s U : State} {H : Heap} {locs : List Loc} (h : cN D C a b s) (hS : va_S (cA a) s.heap H locs) (hU : U.heap = H) (hW : s.WarmedH U.vm) : cN D C a b U := cNA.moved h hS hU hW
theorem cNA.toN {D : va_G} {C : cC} {A : Nat → Prop} {a b : Nat → Nat} {U : State} (h : cNA D C A b U) (hA : ∀ q, cA a q → A q) : cN D C a b U := h.nar hA
def cOk (D : va_G) (C : cC) (a b : Nat → Nat) (V : Nat → Nat → Int) (U : State) : Prop := va_P D vwCl (cW C a V) U.heap ∧ va_K D vwCl (cT C) U ∧ cN D C a b U
def cPo (D : va_G) (C : cC) (a : Nat → Nat) (V : Nat → Nat → Int) (U : State) : Prop := va_P D vwCl (cW C a V) U.heap
theorem cOk_blind {D : va_G} {C : cC} {a b : Nat → Nat} {V : Nat → Nat → Int} {av : List Value} : FrameBlind (va_Pc av (cOk D C a b V)) := fun x U g mk q => by
  obtain ⟨q0, qP, qK, qN⟩ := q
  exact ⟨q0, qP, va_K.moved (u := U) (U := U.calling g mk x) (Vm.Alike.refl U.vm) qK, cNA.bl qN⟩
theorem va_Run_of {p : Program} {l : Launch} {e : Env} {R : Room} {s : State} {m : MethodId} {args : Array Value} {below : List Frame} {meth : Method} {c : Code} {H : Heap} {locs : List Loc} {cells slots mc ms : Nat} {g : JFrame} {rest : List Value} {Qa : State → Outcome → State → Prop} {free : Addr → Prop} (h : va_Run p l e R s m args below meth c H locs cells slots mc ms g rest Qa free) : CallRun p l e R s m args below meth c H locs cells slots mc ms g rest Qa free := fun T hT X => by
  obtain ⟨v, st0, t, T', L, h0, h1, h2, h3, h4, h5, h6⟩ := h T hT X
  exact ⟨v, st0, t, T', L, h0, h1, h2, h3, h5, h6⟩
section CROWS
variable {p : Program} {l : Launch} {e : Env} {R : Room} {s : State} {m : MethodId} {args : Array Value} {below : List Frame} {meth : Method} {c : Code} {H : Heap} {locs : List Loc} {cells slots : Nat} {Q : State → Prop}
variable {cc : ByteArray} {pc : Nat} {ls : Array Slot} {rest : List Value} {D : va_G} {C : cC} {a b : Nat → Nat} {V : Nat → Nat → Int} {A : Nat → Prop} {H0 : Heap}
theorem kq_get (hexec : p.tables.exec = Jvm.exec) (hb : c.code = cc) {own RC : String} {T : u_T} {N ci index : Nat} {Ts : List Cond} (hts : ∀ w ∈ Ts, w.before args s = true) (hin : ∀ w ∈ u_ws RC T N, w ∈ Ts) (hown : s.vm.findClass own = some m.cls) (hK : va_K D vwCl (cT C) s) (hP : va_P D vwCl (cW C a V) H) {i : Nat} (hi : i < 204) {F : (Nat → Int) → List Value} (he : ∀ r, cE C a i r = .inr (ci, F r)) (hc : vwCl[ci]? = some (RC, T, N)) (k : Nat) (hk : k < N) (hlink : (Cond.fieldLink own index (T k).1 (T k).2.1 (T k).2.2.1).before args s = true) {v : Value} (hv : (F (V i))[k]? = some v) (hdg : decode cc pc = .ok (.getfield index, 3)) (kk : W p l e R s m args below meth c H locs cells slots Q (F0 m (pc + 3) ls (v :: rest))) : W p l e R s m args below meth c H locs cells slots Q (F0 m pc ls (.ref (a i) :: rest)) :=
  va_get (D := D) hexec hb hts hin hown hK hP i (cW_get hi (he _)) hc k hk hlink (fun _ h9 => h9) hv hdg kk
theorem kq_put (hexec : p.tables.exec = Jvm.exec) (hb : c.code = cc) {own RC : String} {T : u_T} {N ci index : Nat} {Ts : List Cond} (hts : ∀ w ∈ Ts, w.before args s = true) (hin : ∀ w ∈ u_ws RC T N, w ∈ Ts) (hown : s.vm.findClass own = some m.cls) (ty0 : Nat → FieldType) (hty : ∀ k, k < N → parseFieldDescriptor (T k).2.2.1 = some (ty0 k)) (hnm : ∀ a, a < N → ∀ b, b < N → a ≠ b → (T a).2.1 ≠ (T b).2.1) (hK : va_K D vwCl (cT C) s) (hP : va_P D vwCl (cW C a V) H) (hD : va_D A (cW C a V)) (hS : va_S A H0 H locs) {i : Nat} (hi : i < 204) {F : (Nat → Int) → List Value} (he : ∀ r, cE C a i r = .inr (ci, F r)) (hc : vwCl[ci]? = some (RC, T, N)) (k : Nat) (hk : k < N) (hlink : (Cond.fieldLink own index (T k).1 (T k).2.1 (T k).2.2.1).before args s = true) (hfin : (T k).2.2.2 = false) {ty : FieldType} {v : Int} (hd : parseFieldDescriptor (T k).2.2.1 = some ty) (hn : narrow ty (.int (iZ v)) = .int (iZ v)) (hfit : fits ty (.int (iZ v)) = true) (hl : k < (F (V i)).length) (hs : F (fun j => if j = k then v else V i j) = (F (V i)).set k (.int (iZ v))) (hdg : decode cc pc = .ok (.putfield index, 3)) (kk : ∀ (H1 : Heap) (locs1 : List Loc), va_P D vwCl (cW C a (mU V i k v)) H1 → va_D A (cW C a (mU V i k v)) → va_S A H0 H1 locs1 → W p l e R s m args below meth c H1 locs1 cells slots Q (F0 m (pc + 3) ls rest)) : W p l e R s m args below meth c H locs cells slots Q (F0 m pc ls (.int (iZ v) :: .ref (a i) :: rest)) := by
  have hs2 : (cW C a V).set i (a i, .inr (ci, (F (V i)).set k (.int (iZ v)))) = cW C a (mU V i k v) := cW_set hi (by rw [mU_row, he, hs]) (fun j hj => mU_or V k v hj)
  exact va_put (D := D) hexec hb hts hin ty0 hty hnm hown hK hP hD hS i (cW_get hi (he _)) hc k hk hlink (fun _ h9 => h9) hfin hd hn hfit hl hdg (fun H1 locs1 hP1 hD1 hS1 => kk H1 locs1 (hs2 ▸ hP1) (hs2 ▸ hD1) hS1)
theorem kq_putL (hexec : p.tables.exec = Jvm.exec) (hb : c.code = cc) {own RC : String} {T : u_T} {N ci index : Nat} {Ts : List Cond} (hts : ∀ w ∈ Ts, w.before args s = true) (hin : ∀ w ∈ u_ws RC T N, w ∈ Ts) (hown : s.vm.findClass own = some m.cls) (ty0 : Nat → FieldType) (hty : ∀ k, k < N → parseFieldDescriptor (T k).2.2.1 = some (ty0 k)) (hnm : ∀ a, a < N → ∀ b, b < N → a ≠ b → (T a).2.1 ≠ (T b).2.1) (hK : va_K D vwCl (cT C) s) (hP : va_P D vwCl (cW C a V) H) (hD : va_D A (cW C a V)) (hS : va_S A H0 H locs) {i : Nat} (hi : i < 204) {F : (Nat → Int) → List Value} (he : ∀ r, cE C a i r = .inr (ci, F r)) (hc : vwCl[ci]? = some (RC, T, N)) (k : Nat) (hk : k < N) (hlink : (Cond.fieldLink own index (T k).1 (T k).2.1 (T k).2.2.1).before args s = true) (hfin : (T k).2.2.2 = false) {ty : FieldType} {v : Int} (hd : parseFieldDescriptor (T k).2.2.1 = some ty) (hn : narrow ty (.long (iL v)) = .long (iL v)) (hfit : fits ty (.long (iL v)) = true) (hl : k < (F (V i)).length) (hs : F (fun j => if j = k then v else V i j) = (F (V i)).set k (.long (iL v))) (hdg : decode cc pc = .ok (.putfield index, 3)) (kk : ∀ (H1 : Heap) (locs1 : List Loc), va_P D vwCl (cW C a (mU V i k v)) H1 → va_D A (cW C a (mU V i k v)) → va_S A H0 H1 locs1 → W p l e R s m args below meth c H1 locs1 cells slots Q (F0 m (pc + 3) ls rest)) : W p l e R s m args below meth c H locs cells slots Q (F0 m pc ls (.long (iL v) :: .ref (a i) :: rest)) := by
  have hs2 : (cW C a V).set i (a i, .inr (ci, (F (V i)).set k (.long (iL v)))) = cW C a (mU V i k v) := cW_set hi (by rw [mU_row, he, hs]) (fun j hj => mU_or V k v hj)
  exact va_put (D := D) hexec hb hts hin ty0 hty hnm hown hK hP hD hS i (cW_get hi (he _)) hc k hk hlink (fun _ h9 => h9) hfin hd hn hfit hl hdg (fun H1 locs1 hP1 hD1 hS1 => kk H1 locs1 (hs2 ▸ hP1) (hs2 ▸ hD1) hS1)
theorem kq_putR (hexec : p.tables.exec = Jvm.exec) (hb : c.code = cc) {own RC : String} {T : u_T} {N ci index : Nat} {Ts : List Cond} (hts : ∀ w ∈ Ts, w.before args s = true) (hin : ∀ w ∈ u_ws RC T N, w ∈ Ts) (hown : s.vm.findClass own = some m.cls) (ty0 : Nat → FieldType) (hty : ∀ k, k < N → parseFieldDescriptor (T k).2.2.1 = some (ty0 k)) (hnm : ∀ a, a < N → ∀ b, b < N → a ≠ b → (T a).2.1 ≠ (T b).2.1) (hK : va_K D vwCl (cT C) s) (hP : va_P D vwCl (cW C a V) H) (hD : va_D A (cW C a V)) (hS : va_S A H0 H locs) {i : Nat} (hi : i < 204) {F : (Nat → Int) → List Value} (he : ∀ r, cE C a i r = .inr (ci, F r)) (hc : vwCl[ci]? = some (RC, T, N)) (k : Nat) (hk : k < N) (hlink : (Cond.fieldLink own index (T k).1 (T k).2.1 (T k).2.2.1).before args s = true) (hfin : (T k).2.2.2 = false) {ty : FieldType} (j0 : Nat) (hd : parseFieldDescriptor (T k).2.2.1 = some ty) (hn : narrow ty (.ref (a j0)) = .ref (a j0)) (hfit : fits ty (.ref (a j0)) = true) (hl : k < (F (V i)).length) (hs : F (fun j => if j = k then (j0 : Int) else V i j) = (F (V i)).set k (.ref (a j0))) (hdg : decode cc pc = .ok (.putfield index, 3)) (kk : ∀ (H1 : Heap) (locs1 : List Loc), va_P D vwCl (cW C a (mU V i k (j0 : Int))) H1 → va_D A (cW C a (mU V i k (j0 : Int))) → va_S A H0 H1 locs1 → W p l e R s m args below meth c H1 locs1 cells slots Q (F0 m (pc + 3) ls rest)) : W p l e R s m args below meth c H locs cells slots Q (F0 m pc ls (.ref (a j0) :: .ref (a i) :: rest)) := by
  have hs2 : (cW C a V).set i (a i, .inr (ci, (F (V i)).set k (.ref (a j0)))) = cW C a (mU V i k (j0 : Int)) := cW_set hi (by rw [mU_row, he, hs]) (fun j hj => mU_or V k _ hj)
  exact va_put (D := D) hexec hb hts hin ty0 hty hnm hown hK hP hD hS i (cW_get hi (he _)) hc k hk hlink (fun _ h9 => h9) hfin hd hn hfit hl hdg (fun H1 locs1 hP1 hD1 hS1 => kk H1 locs1 (hs2 ▸ hP1) (hs2 ▸ hD1) hS1)
theorem kq_iald (hexec : p.tables.exec = Jvm.exec) (hb : c.code = cc) (hK : va_K D vwCl (cT C) s) (hP : va_P D vwCl (cW C a V) H) {i : Nat} (hi : i < 204) {n : Nat} (he : ∀ r, cE C a i r = .inl (C.1, n, .inl (fun k => iZ (r k)))) (hn : n < 2147483648) {x : Int} (k : Nat) (hk : x.toNat = k) (hx : 0 ≤ x ∧ x < (n : Int)) (hdg : decode cc pc = .ok (.iaload, 1)) (kk : W p l e R s m args below meth c H locs cells slots Q (F0 m (pc + 1) ls (.int (iZ (V i k)) :: rest))) : W p l e R s m args below meth c H locs cells slots Q (F0 m pc ls (.int (iZ x) :: .ref (a i) :: rest)) := by
  refine va_iald hexec hb hK hP i 0 (cW_get hi (he _)) rfl (iZ_in hx hn) hdg ?_
  rw [iZ_cl ⟨hx.1, by omega⟩, hk]
  exact kk
theorem kq_iast (hexec : p.tables.exec = Jvm.exec) (hb : c.code = cc) (hK : va_K D vwCl (cT C) s) (hP : va_P D vwCl (cW C a V) H) (hD : va_D A (cW C a V)) (hS : va_S A H0 H locs) {i : Nat} (hi : i < 204) {n : Nat} (he : ∀ r, cE C a i r = .inl (C.1, n, .inl (fun k => iZ (r k)))) (hn : n < 2147483648) {x v : Int} (k : Nat) (hk : x.toNat = k) (hx : 0 ≤ x ∧ x < (n : Int)) (hdg : decode cc pc = .ok (.iastore, 1)) (kk : ∀ (H1 : Heap) (locs1 : List Loc), va_P D vwCl (cW C a (mU V i k v)) H1 → va_D A (cW C a (mU V i k v)) → va_S A H0 H1 locs1 → W p l e R s m args below meth c H1 locs1 cells slots Q (F0 m (pc + 1) ls rest)) : W p l e R s m args below meth c H locs cells slots Q (F0 m pc ls (.int (iZ v) :: .int (iZ x) :: .ref (a i) :: rest)) := by
  refine va_iast hexec hb hK hP hD hS i 0 (cW_get hi (he _)) rfl (iZ_in hx hn) hdg (fun H1 locs1 hP1 hD1 hS1 => ?_)
  have hs2 : (cW C a V).set i (a i, .inl (C.1, n, .inl (upd (fun k => iZ (V i k)) k (iZ v)))) = cW C a (mU V i k v) := by
    refine cW_set hi ?_ (fun j hj => mU_or V k v hj)
    rw [mU_row, he]
    refine congrArg (fun z => (Sum.inl (C.1, n, Sum.inl z) : va_E)) ?_
    funext j
    by_cases q : j = k <;> simp [upd, q]
  rw [iZ_cl ⟨hx.1, by omega⟩, hk, hs2] at hP1 hD1
  exact kk H1 locs1 hP1 hD1 hS1
theorem kq_alen (hexec : p.tables.exec = Jvm.exec) (hb : c.code = cc) (hK : va_K D vwCl (cT C) s) (hP : va_P D vwCl (cW C a V) H) {i : Nat} (hi : i < 204) {n : Nat} (he : ∀ r, cE C a i r = .inl (C.1, n, .inl (fun k => iZ (r k)))) (hdg : decode cc pc = .ok (.arraylength, 1)) (kk : W p l e R s m args below meth c H locs cells slots Q (F0 m (pc + 1) ls (.int (iZ (n : Int)) :: rest))) : W p l e R s m args below meth c H locs cells slots Q (F0 m pc ls (.ref (a i) :: rest)) :=
  va_alen hexec hb hK hP i 0 (cW_get hi (he _)) rfl (iZ_n n).symm hdg kk
/-- the fixed rows -/
theorem kq_sald (hexec : p.tables.exec = Jvm.exec) (hb : c.code = cc) {d n : Nat} {f : Nat → Int} (hX : va_X (b d) n (fun k => iZ (f k)) s s.heap) (hq : ¬ cA a (b d) ∧ b d < s.heap.size) (hS : va_S (cA a) s.heap H locs) (hn : n < 2147483648) {x : Int} (k : Nat) (hk : x.toNat = k) (hx : 0 ≤ x ∧ x < (n : Int)) (hdg : decode cc pc = .ok (.iaload, 1)) (kk : W p l e R s m args below meth c H locs cells slots Q (F0 m (pc + 1) ls (.int (iZ (f k)) :: rest))) : W p l e R s m args below meth c H locs cells slots Q (F0 m pc ls (.int (iZ x) :: .ref (b d) :: rest)) := by
  refine va_sld hexec hb hX hq.2 hq.1 hS (iZ_in hx hn) hdg ?_
  rw [iZ_cl ⟨hx.1, by omega⟩, hk]
  exact kk
theorem kq_slen (hexec : p.tables.exec = Jvm.exec) (hb : c.code = cc) {d n : Nat} {f : Nat → Int} (hX : va_X (b d) n (fun k => iZ (f k)) s s.heap) (hq : ¬ cA a (b d) ∧ b d < s.heap.size) (hS : va_S (cA a) s.heap H locs) (hdg : decode cc pc = .ok (.arraylength, 1)) (kk : W p l e R s m args below meth c H locs cells slots Q (F0 m (pc + 1) ls (.int (iZ (n : Int)) :: rest))) : W p l e R s m args below meth c H locs cells slots Q (F0 m pc ls (.ref (b d) :: rest)) := by
  refine va_slen hexec hb hX hq.2 hq.1 hS hdg ?_
  rw [show Int32.ofNat n = iZ (n : Int) from (iZ_n n).symm]
  exact kk
theorem kq_iand3 (hexec : p.tables.exec = Jvm.exec) (hb : c.code = cc) {x : Int} (hdg : decode cc pc = .ok (.iand, 1)) (kk : W p l e R s m args below meth c H locs cells slots Q (F0 m (pc + 1) ls (.int (iZ (x % 4)) :: rest))) : W p l e R s m args below meth c H locs cells slots Q (F0 m pc ls (.int (iZ 3) :: .int (iZ x) :: rest)) := lv_iand hexec hb hdg (by rw [show iZ x &&& iZ 3 = iZ (x % 4) from iZ_and x 2 (by omega) (by decide)]; exact kk)
/-- rows of references -/
theorem kq_aldI (hexec : p.tables.exec = Jvm.exec) (hb : c.code = cc) (hK : va_K D vwCl (cT C) s) (hP : va_P D vwCl (cW C a V) H) {x : Int} (k : Nat) (hk : x.toNat = k) (hx : 0 ≤ x ∧ x < 2) (hdg : decode cc pc = .ok (.aaload, 1)) (kk : W p l e R s m args below meth c H locs cells slots Q (F0 m (pc + 1) ls (.ref (a (37 + k)) :: rest))) : W p l e R s m args below meth c H locs cells slots Q (F0 m pc ls (.int (iZ x) :: .ref (a 3) :: rest)) := by
  refine va_aldq hexec hb hK hP 3 2 (cW_get (by decide) (cE_3 rfl _)) rfl (iZ_in (n := 2) hx (by decide)) hdg ?_
  rw [iZ_cl ⟨hx.1, by omega⟩, hk]
  exact kk
theorem kq_aldM (hexec : p.tables.exec = Jvm.exec) (hb : c.code = cc) (hK : va_K D vwCl (cT C) s) (hP : va_P D vwCl (cW C a V) H) {i : Nat} (hi : isPa i) {x : Int} (k : Nat) (hk : x.toNat = k) (hx : 0 ≤ x ∧ x < 10) (hdg : decode cc pc = .ok (.aaload, 1)) (kk : W p l e R s m args below meth c H locs cells slots Q (F0 m (pc + 1) ls (.ref (a (Int.toNat (V (i + 1) k))) :: rest))) : W p l e R s m args below meth c H locs cells slots Q (F0 m pc ls (.int (iZ x) :: .ref (a (i + 1)) :: rest)) := by
  refine va_aldq hexec hb hK hP (i + 1) 1 (cW_get hi.l1 (cE_24 hi.s1 _)) rfl (iZ_in (n := 10) hx (by decide)) hdg ?_
  rw [iZ_cl ⟨hx.1, by omega⟩, hk]
  exact kk
theorem kq_astM (hexec : p.tables.exec = Jvm.exec) (hb : c.code = cc) (hK : va_K D vwCl (cT C) s) (hP : va_P D vwCl (cW C a V) H) (hD : va_D A (cW C a V)) (hS : va_S A H0 H locs) {i : Nat} (hi : isPa i) {j0 : Nat} (hj : isMo j0) {x : Int} (k : Nat) (hk : x.toNat = k) (hx : 0 ≤ x ∧ x < 10) (hdg : decode cc pc = .ok (.aastore, 1)) (kk : ∀ (H1 : Heap) (locs1 : List Loc), va_P D vwCl (cW C a (mU V (i + 1) k (j0 : Int))) H1 → va_D A (cW C a (mU V (i + 1) k (j0 : Int))) → va_S A H0 H1 locs1 → W p l e R s m args below meth c H1 locs1 cells slots Q (F0 m (pc + 1) ls rest)) : W p l e R s m args below meth c H locs cells slots Q (F0 m pc ls (.ref (a j0) :: .int (iZ x) :: .ref (a (i + 1)) :: rest)) := by
  refine va_astq hexec hb hK hP hD hS (i + 1) 1 j0 2 (r := (RX2, TX2, 7)) (cW_get hi.l1 (cE_24 hi.s1 _)) rfl (cW_get hj.l0 (cE_26 hj.s0 _)) rfl (iZ_in (n := 10) hx (by decide)) hdg (fun H1 locs1 hP1 hD1 hS1 => ?_)
  have hs2 : (cW C a V).set (i + 1) (a (i + 1), .inl (C.2.1, 10, .inr (.inr (.inr (.inr (va_up (fun k => some (a (Int.toNat (V (i + 1) k)))) k (some (a j0)))))))) = cW C a (mU V (i + 1) k (j0 : Int)) := by
    refine cW_set hi.l1 ?_ (fun j hj => mU_or V k _ hj)
    rw [mU_row, cE_24 hi.s1]
    refine congrArg (fun z => (Sum.inl (C.2.1, 10, Sum.inr (Sum.inr (Sum.inr (Sum.inr z)))) : va_E)) ?_
    funext j
    by_cases q : j = k <;> simp [va_up, q]
  rw [iZ_cl ⟨hx.1, by omega⟩, hk, hs2] at hP1 hD1
  exact kk H1 locs1 hP1 hD1 hS1
theorem kq_copy (hexec : p.tables.exec = Jvm.exec) (hb : c.code = cc) (hml : c.maxLocals = ls.size) {own : String} {index : Nat} (hown : s.vm.findClass own = some m.cls) (hlink : (Cond.methodLink own index arraycopyName).before args s = true) (hnat : (Cond.native arraycopyName).before args s = true) (hstat : (Cond.static arraycopyName).before args s = true) (hini : (Cond.initialized "java/lang/System").before args s = true) (hK : va_K D vwCl (cT C) s) (hP : va_P D vwCl (cW C a V) H) (hD : va_D A (cW C a V)) (hS : va_S A H0 H locs) {i j n : Nat} (hi : i < 204) (hj : j < 204) (hei : ∀ r, cE C a i r = .inl (C.1, n, .inl (fun k => iZ (r k)))) (hej : ∀ r, cE C a j r = .inl (C.1, n, .inl (fun k => iZ (r k)))) (hn : n < 2147483648) (hframes : 1 ≤ R.frames) (hlocals : (rest.map fun v => v.category).sum + (nativeFrameWords "java/lang/System" "arraycopy" 5 + 11) ≤ R.locals) (hdg : decode cc pc = .ok (.invokestatic index, 3)) (kk : ∀ (H1 : Heap) (locs1 : List Loc), va_P D vwCl (cW C a (cB V i j n)) H1 → va_D A (cW C a (cB V i j n)) → va_S A H0 H1 locs1 → W p l e R s m args below meth c H1 locs1 cells slots Q (F0 m (pc + 3) ls rest)) : W p l e R s m args below meth c H locs cells slots Q (F0 m pc ls (.int (iZ (n : Int)) :: .int (iZ 0) :: .ref (a j) :: .int (iZ 0) :: .ref (a i) :: rest)) := by
  have e0 : (iZ 0).toNatClampNeg = 0 := rfl
  have en : (iZ (n : Int)).toNatClampNeg = n := by rw [iZ_cl ⟨by omega, by omega⟩]; rfl
  have hz : ¬ iZ (n : Int) < 0 := by
    show ¬ iZ (n : Int) < iZ 0
    rw [iZ_lt ⟨by omega, by omega⟩ ⟨by omega, by omega⟩]; omega
  refine va_copyi (D := D) hexec hb hml hown hlink hnat hstat hini hK hP hD hS i j 0 0 (ty := .int) (cW_get hi (hei _)) (cW_get hj (hej _)) rfl rfl rfl (by decide) (by decide) hz (by rw [e0, en]; omega) (by rw [e0, en]; omega) (fun _ _ => rfl) hframes hlocals hdg (fun H1 locs1 hP1 hD1 hS1 => ?_)
  have hs2 : (cW C a V).set j (a j, .inl (C.1, n, .inl (va_cpy (fun k => iZ (V i k)) (fun k => iZ (V j k)) 0 0 n))) = cW C a (cB V i j n) := by
    refine cW_set hj ?_ (fun g hg => cB_or V i n hg)
    rw [hej]
    refine congrArg (fun z => (Sum.inl (C.1, n, Sum.inl z) : va_E)) ?_
    funext k
    simp only [va_cpy]
    by_cases q : k < n
    · rw [if_pos ⟨by omega, by omega⟩]; simp [cB, q]
    · rw [if_neg (fun z => q (by omega))]; simp [cB, q]
  rw [e0, en, hs2] at hP1 hD1
  exact kk H1 locs1 hP1 hD1 hS1
theorem kq_ci {y : MethodName} {bytes : ByteArray} {maxL nL n index : Nat} {ret : Option FieldType} {ws Ts : List Cond} {rm : Room} {As st0 : List Value} {own RC : String} {T : u_T} {N ci : Nat} {v : Int} (S : CallFix p m c cc nL s args Ts own) (hK : va_K D vwCl (cT C) s) (hP : va_P D vwCl (cW C a V) H) (hN : cN D C a b s) (hS : va_S (cA a) s.heap H locs) {i : Nat} (hi : i < 204) {F : (Nat → Int) → List Value} (he : ∀ r, cE C a i r = .inr (ci, F r)) (hc : vwCl[ci]? = some (RC, T, N)) (hM : Met l y ws rm (va_Pc (.ref (a i) :: As) (cOk D C a b V)) (vp_Si (fun r => r = iZ v)) 0 0 (fun _ => False)) (cw : CallW R s args own RC index y bytes maxL ret ws rm 0 0 n) (hst : st0 = As.reverse ++ .ref (a i) :: rest) (hn : As.length = n) (hsize : ls.size = nL) (hW : (rest.map fun v => v.category).sum ≤ 8) (hf : cells ≤ R.cells ∧ slots ≤ R.slots) (hdg : decode cc pc = .ok (.invokevirtual index, 3)) (kk : W p l e R s m args below meth c H locs cells slots Q (F0 m (pc + 3) ls (.int (iZ v) :: rest))) : W p l e R s m args below meth c H locs cells slots Q (F0 m pc ls st0) :=
  vp_callSi (W.runV S hM cw ⟨cOk_blind, va_recv hK hP hc (cW_get hi (he _)), fun U hU hW => ⟨rfl, by rw [hU]; exact hP, va_K.moved hW.alike hK, hN.moved hS hU hW⟩⟩ rfl hn hsize hst (lv_room hW) hdg hf) (fun r hr => by rw [hr]; exact kk)
theorem kq_cs {y : MethodName} {bytes : ByteArray} {maxL nL n index : Nat} {ret : Option FieldType} {ws Ts : List Cond} {rm : Room} {As st0 : List Value} {own : String} {v : Int} (S : CallFix p m c cc nL s args Ts own) (hM : Met l y ws rm (va_Pc As (fun _ => True)) (vp_Si (fun r => r = iZ v)) 0 0 (fun _ => False)) (cw : CallB R s args own index y bytes maxL ret ws rm 0 0 n ∧ (Cond.static y).before args s = true) (hst : st0 = As.reverse ++ rest) (hn : As.length = n) (hsize : ls.size = nL) (hW : (rest.map fun v => v.category).sum ≤ 8) (hf : cells ≤ R.cells ∧ slots ≤ R.slots) (hdg : decode cc pc = .ok (.invokestatic index, 3)) (kk : W p l e R s m args below meth c H locs cells slots Q (F0 m (pc + 3) ls (.int (iZ v) :: rest))) : W p l e R s m args below meth c H locs cells slots Q (F0 m pc ls st0) :=
  vp_callSi (W.runS S hM cw ⟨fun b U g mk q => q, fun U hU hW => ⟨rfl, trivial⟩⟩ rfl hn hsize hst (lv_room hW) hdg hf) (fun r hr => by rw [hr]; exact kk)
theorem kq_csN {y : MethodName} {bytes : ByteArray} {maxL nL n index : Nat} {ret : Option FieldType} {ws Ts : List Cond} {rm : Room} {As st0 : List Value} {own : String} {v : Int} {host : String} (S : CallFix p m c cc nL s args Ts own) (hM : Met l y ws rm (va_Pc As (fun _ => True)) (vp_Si (fun r => r = iZ v)) 0 0 (fun _ => False)) (cw : va_CN R s args own index y host bytes maxL ret ws rm 0 0 n) (hst9 : (Cond.static y).before args s = true) (hst : st0 = As.reverse ++ rest) (hn : As.length = n) (hsize : ls.size = nL) (hW : (rest.map fun v => v.category).sum ≤ 8) (hf : cells ≤ R.cells ∧ slots ≤ R.slots) (hdg : decode cc pc = .ok (.invokestatic index, 3)) (kk : W p l e R s m args below meth c H locs cells slots Q (F0 m (pc + 3) ls (.int (iZ v) :: rest))) : W p l e R s m args below meth c H locs cells slots Q (F0 m pc ls st0) :=
  vp_callSi (va_Run_of (va_runSN S hM ⟨cw, hst9, trivial⟩ ⟨fun b U g mk q => q, fun U hU hW => ⟨rfl, trivial⟩⟩ rfl hn hsize hst (lv_room hW) hdg hf)) (fun r hr => by rw [hr]; exact kk)
theorem kq_cm {y : MethodName} {bytes : ByteArray} {maxL nL n index : Nat} {ret : Option FieldType} {ws Ts : List Cond} {rm : Room} {As st0 : List Value} {own RC : String} {T : u_T} {N ci : Nat} {v : Int} {V2 : Nat → Nat → Int} (S : CallFix p m c cc nL s args Ts own) (hK : va_K D vwCl (cT C) s) (hP : va_P D vwCl (cW C a V) H) (hN : cN D C a b s) (hD : va_D (cA a) (cW C a V)) (hS : va_S (cA a) s.heap H locs) {i : Nat} (hi : i < 204) {F : (Nat → Int) → List Value} (he : ∀ r, cE C a i r = .inr (ci, F r)) (hc : vwCl[ci]? = some (RC, T, N)) (hM : Met l y ws rm (va_Pc (.ref (a i) :: As) (cOk D C a b V)) (va_Qi (fun r (_ : Unit) => r = iZ v) (fun _ t => cPo D C a V2 t) (cA a)) 0 0 (cA a)) (cw : CallW R s args own RC index y bytes maxL ret ws rm 0 0 n) (hst : st0 = As.reverse ++ .ref (a i) :: rest) (hn : As.length = n) (hsize : ls.size = nL) (hW : (rest.map fun v => v.category).sum ≤ 8) (hf : cells ≤ R.cells ∧ slots ≤ R.slots) (hdg : decode cc pc = .ok (.invokevirtual index, 3)) (kk : ∀ (H1 : Heap) (locs1 : List Loc), va_P D vwCl (cW C a V2) H1 → va_D (cA a) (cW C a V2) → va_S (cA a) s.heap H1 locs1 → W p l e R s m args below meth c H1 locs1 cells slots Q (F0 m (pc + 3) ls (.int (iZ v) :: rest))) : W p l e R s m args below meth c H locs cells slots Q (F0 m pc ls st0) :=
  va_calli (va_runV S hM cw ⟨cOk_blind, va_recv hK hP hc (cW_get hi (he _)), fun U hU hW => ⟨rfl, by rw [hU]; exact hP, va_K.moved hW.alike hK, hN.moved hS hU hW⟩⟩ rfl hn hsize hst (lv_room hW) hdg hf) hS (fun q _ h9 => h9) (fun q h9 => h9) (fun r u t H1 locs1 ht hvm hr hB hz hk hS1 => by
    rw [hr]
    exact kk H1 locs1 (ht ▸ hB) (cD_re hD) hS1)
theorem kq_cv {y : MethodName} {bytes : ByteArray} {maxL nL n index : Nat} {ret : Option FieldType} {ws Ts : List Cond} {rm : Room} {As st0 : List Value} {own RC : String} {T : u_T} {N ci : Nat} {V2 : Nat → Nat → Int} (S : CallFix p m c cc nL s args Ts own) (hK : va_K D vwCl (cT C) s) (hP : va_P D vwCl (cW C a V) H) (hN : cN D C a b s) (hD : va_D (cA a) (cW C a V)) (hS : va_S (cA a) s.heap H locs) {i : Nat} (hi : i < 204) {F : (Nat → Int) → List Value} (he : ∀ r, cE C a i r = .inr (ci, F r)) (hc : vwCl[ci]? = some (RC, T, N)) (hM : Met l y ws rm (va_Pc (.ref (a i) :: As) (cOk D C a b V)) (va_Qv (fun (_ : Unit) => True) (fun _ t => cPo D C a V2 t) (cA a)) 0 0 (cA a)) (cw : CallW R s args own RC index y bytes maxL ret ws rm 0 0 n) (hst : st0 = As.reverse ++ .ref (a i) :: rest) (hn : As.length = n) (hsize : ls.size = nL) (hW : (rest.map fun v => v.category).sum ≤ 8) (hf : cells ≤ R.cells ∧ slots ≤ R.slots) (hdg : decode cc pc = .ok (.invokevirtual index, 3)) (kk : ∀ (H1 : Heap) (locs1 : List Loc), va_P D vwCl (cW C a V2) H1 → va_D (cA a) (cW C a V2) → va_S (cA a) s.heap H1 locs1 → W p l e R s m args below meth c H1 locs1 cells slots Q (F0 m (pc + 3) ls rest)) : W p l e R s m args below meth c H locs cells slots Q (F0 m pc ls st0) :=
  va_callv (va_runV S hM cw ⟨cOk_blind, va_recv hK hP hc (cW_get hi (he _)), fun U hU hW => ⟨rfl, by rw [hU]; exact hP, va_K.moved hW.alike hK, hN.moved hS hU hW⟩⟩ rfl hn hsize hst (lv_room hW) hdg hf) hS (fun q _ h9 => h9) (fun q h9 => h9) (fun u t H1 locs1 ht hvm hr hB hz hk hS1 => kk H1 locs1 (ht ▸ hB) (cD_re hD) hS1)
/-- ends -/
theorem kq_retM {v w : Int} {V2 : Nat → Nat → Int} {ret : FieldType} (hexec : p.tables.exec = Jvm.exec) (hb : c.code = cc) (hK : va_K D vwCl (cT C) s) (hP : va_P D vwCl (cW C a V) H) (hS : va_S (cA a) s.heap H locs) (hr : meth.sig.returnType = some ret) (hn : narrow ret (.int (iZ v)) = .int (iZ v)) (hv : v = w) (hV2 : V = V2) (hdg : decode cc pc = .ok (.ireturn, 1)) (hlocks : meth.locks = false) : W p l e R s m args below meth c H locs cells slots (MQ below (va_Qi (fun r (_ : Unit) => r = iZ w) (fun _ t => cPo D C a V2 t) (cA a)) args s cells slots (cA a)) (F0 m pc ls [.int (iZ v)]) :=
  W.zret hexec hb hr hn (fun t ht hW => ⟨⟨_, (), rfl, by rw [hv], by show va_P _ _ _ t.heap; rw [ht, ← hV2]; exact hP⟩, hS.F ht⟩) hS.2.2 hdg hlocks
theorem kq_retT {v w : Int} {ret : FieldType} (hexec : p.tables.exec = Jvm.exec) (hb : c.code = cc) (hS : va_S (cA a) s.heap H locs) (hr : meth.sig.returnType = some ret) (hn : narrow ret (.int (iZ v)) = .int (iZ v)) (hv : v = w) (hdg : decode cc pc = .ok (.ireturn, 1)) (hlocks : meth.locks = false) : W p l e R s m args below meth c H locs cells slots (MQ below (va_Qi (fun r (_ : Unit) => r = iZ w) (fun _ _ => True) (cA a)) args s cells slots (cA a)) (F0 m pc ls [.int (iZ v)]) :=
  W.zret hexec hb hr hn (fun t ht hW => ⟨⟨_, (), rfl, by rw [hv], trivial⟩, hS.F ht⟩) hS.2.2 hdg hlocks
theorem kq_retV {V2 : Nat → Nat → Int} (hexec : p.tables.exec = Jvm.exec) (hb : c.code = cc) (hK : va_K D vwCl (cT C) s) (hP : va_P D vwCl (cW C a V) H) (hS : va_S (cA a) s.heap H locs) (hr : meth.sig.returnType = none) (hV2 : V = V2) (hdg : decode cc pc = .ok (.return_, 1)) (hlocks : meth.locks = false) : W p l e R s m args below meth c H locs cells slots (MQ below (va_Qv (fun (_ : Unit) => True) (fun _ t => cPo D C a V2 t) (cA a)) args s cells slots (cA a)) (F0 m pc ls []) :=
  W.vret hexec hb hr (fun t ht hW => ⟨⟨(), rfl, trivial, by show va_P _ _ _ t.heap; rw [ht, ← hV2]; exact hP⟩, hS.F ht⟩) hS.2.2 hdg hlocks
/-- Math -/
theorem kq_max (hexec : p.tables.exec = Jvm.exec) (hb : c.code = cc) (hml : c.maxLocals = ls.size) {own : String} {index : Nat} (hown : s.vm.findClass own = some m.cls) (hlink : (Cond.methodLink own index Lib.Math.max.name).before args s = true) (hstat : (Cond.static Lib.Math.max.name).before args s = true) (hini : (Cond.initialized "java/lang/Math").before args s = true) (hcode : (Cond.code Lib.Math.max.name Lib.Math.max.code 2 (some .int)).before args s = true) (hframes : 1 ≤ R.frames) (hlocals : (rest.map fun v => v.category).sum + 13 ≤ R.locals) (hc : cells ≤ R.cells) (hs : slots ≤ R.slots) {x y : Int} (hx : -2147483648 ≤ x ∧ x < 2147483648) (hy : -2147483648 ≤ y ∧ y < 2147483648) (hdg : decode cc pc = .ok (.invokestatic index, 3)) (kk : W p l e R s m args below meth c H locs cells slots Q (F0 m (pc + 3) ls (.int (iZ (if x < y then y else x)) :: rest))) : W p l e R s m args below meth c H locs cells slots Q (F0 m pc ls (.int (iZ y) :: .int (iZ x) :: rest)) := by
  refine va_mmax hexec hb hml hown hlink hstat hini hcode hframes hlocals hc hs hdg ?_
  have q : (if iZ x < iZ y then iZ y else iZ x) = iZ (if x < y then y else x) := by
    by_cases h : x < y
    · rw [if_pos h, if_pos ((iZ_lt hx hy).mpr h)]
    · rw [if_neg h, if_neg (fun z => h ((iZ_lt hx hy).mp z))]
  rw [q]; exact kk
theorem kq_min (hexec : p.tables.exec = Jvm.exec) (hb : c.code = cc) (hml : c.maxLocals = ls.size) {own : String} {index : Nat} (hown : s.vm.findClass own = some m.cls) (hlink : (Cond.methodLink own index Lib.Math.min.name).before args s = true) (hstat : (Cond.static Lib.Math.min.name).before args s = true) (hini : (Cond.initialized "java/lang/Math").before args s = true) (hcode : (Cond.code Lib.Math.min.name Lib.Math.min.code 2 (some .int)).before args s = true) (hframes : 1 ≤ R.frames) (hlocals : (rest.map fun v => v.category).sum + 13 ≤ R.locals) (hc : cells ≤ R.cells) (hs : slots ≤ R.slots) {x y : Int} (hx : -2147483648 ≤ x ∧ x < 2147483648) (hy : -2147483648 ≤ y ∧ y < 2147483648) (hdg : decode cc pc = .ok (.invokestatic index, 3)) (kk : W p l e R s m args below meth c H locs cells slots Q (F0 m (pc + 3) ls (.int (iZ (if y < x then y else x)) :: rest))) : W p l e R s m args below meth c H locs cells slots Q (F0 m pc ls (.int (iZ y) :: .int (iZ x) :: rest)) := by
  refine va_mmin hexec hb hml hown hlink hstat hini hcode hframes hlocals hc hs hdg ?_
  have q : (if iZ y < iZ x then iZ y else iZ x) = iZ (if y < x then y else x) := by
    by_cases h : y < x
    · rw [if_pos h, if_pos ((iZ_lt hy hx).mpr h)]
    · rw [if_neg h, if_neg (fun z => h ((iZ_lt hy hx).mp z))]
  rw [q]; exact kk
theorem kq_abs (hexec : p.tables.exec = Jvm.exec) (hb : c.code = cc) (hml : c.maxLocals = ls.size) {own : String} {index : Nat} (hown : s.vm.findClass own = some m.cls) (hlink : (Cond.methodLink own index Lib.Math.abs.name).before args s = true) (hstat : (Cond.static Lib.Math.abs.name).before args s = true) (hini : (Cond.initialized "java/lang/Math").before args s = true) (hcode : (Cond.code Lib.Math.abs.name Lib.Math.abs.code 1 (some .int)).before args s = true) (hframes : 1 ≤ R.frames) (hlocals : (rest.map fun v => v.category).sum + 13 ≤ R.locals) (hc : cells ≤ R.cells) (hs : slots ≤ R.slots) {x : Int} (hx : -2147483648 ≤ x ∧ x < 2147483648) (hdg : decode cc pc = .ok (.invokestatic index, 3)) (kk : W p l e R s m args below meth c H locs cells slots Q (F0 m (pc + 3) ls (.int (iZ (if 0 ≤ x then x else 0 - x)) :: rest))) : W p l e R s m args below meth c H locs cells slots Q (F0 m pc ls (.int (iZ x) :: rest)) := by
  refine va_mabs hexec hb hml hown hlink hstat hini hcode hframes hlocals hc hs hdg ?_
  have q : (if 0 ≤ iZ x then iZ x else 0 - iZ x) = iZ (if 0 ≤ x then x else 0 - x) := by
    have h0 : (0 : Int32) = iZ 0 := rfl
    by_cases h : 0 ≤ x
    · rw [if_pos h, h0, if_pos ((iZ_le ⟨by omega, by omega⟩ hx).mpr h)]
    · rw [if_neg h, h0, if_neg (fun z => h ((iZ_le ⟨by omega, by omega⟩ hx).mp z)), iZ_sub]
  rw [q]; exact kk
end CROWS
