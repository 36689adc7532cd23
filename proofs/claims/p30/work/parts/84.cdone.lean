set_option maxHeartbeats 4000000 in
set_option maxRecDepth 100000 in
theorem K_X7_type (l : Launch) (D : va_G) (C : cC) (a b : Nat → Nat) (V : Nat → Nat → Int) (cc : Int) (h1 : -2147483648 ≤ cc ∧ cc < 2147483648) (h2 : 0 ≤ V 0 1 ∧ V 0 1 ≤ 120) (hDD : va_D (fun _ => True) (cW C a V)) : Met l yX7_type wsX7_type ({ frames := 0, cells := 0, slots := 0, locals := 0 }) (va_Pc [.ref (a 0), .int (iZ cc)] (cOk D C a b V)) (va_Qi (fun r (_ : Unit) => r = iZ (if 0 ≤ cc ∧ cc ≤ 255 then (if V 0 1 < 120 then V 0 1 + 1 else -3) else -1)) (fun _ t => cPo D C a (if (0 ≤ cc ∧ cc ≤ 255) ∧ V 0 1 < 120 then mU (mU V 1 (Int.toNat (V 0 1)) cc) 0 1 (V 0 1 + 1) else V) t) (cA a)) 0 0 (cA a) := by
  refine Met.ofW (cc := cX7_type) (maxL := 2) (ret := (some .int)) (by decide) rfl ?_
  intro p e s m args below meth c s₁ B hml hv
  obtain ⟨rfl, hP, hK, hN⟩ := hv
  have hx := B.exec
  have hb := B.bytes
  have hr := B.returns
  have hts := atoms_spec (ws := wsX7_type) B.pre
  have hown : s.vm.findClass RX7 = some m.cls := findClass_of_methodNamed B.named
  have hlocks := B.notSynchronized
  have hin_X7 : ∀ w ∈ wsX70, w ∈ wsX7_type := fun _ w_h => (List.mem_cons_of_mem _ (List.mem_append_right _ w_h))
  have hl := lv_entry ([.ref (a 0), .int (iZ cc)]) (n := 2) (Nat.le_of_ble_eq_true rfl)
  rw [lg_entry_eq]
  generalize (lg_sl ([.ref (a 0), .int (iZ cc)]) ++ List.replicate (2 - (lg_sl ([.ref (a 0), .int (iZ cc)])).length) Slot.unset).toArray = ls at hl ⊢
  replace hl : lv_has ls 2 [(0, .ref (a 0)), (1, .int (iZ cc))] := hl
  have hD : va_D (cA a) (cW C a V) := cD_own hDD
  generalize hHe : s.heap = H at hP ⊢
  have hS : va_S (cA a) s.heap H [] := by rw [hHe]; exact va_S.rf
  generalize hlo : ([] : List Loc) = locs at hS ⊢
  clear hHe hlo
  refine lv_iload_n hx hb dX7_type_0 rfl (lv_at hl 1 rfl) ?_
  refine z_if_lt (x := cc) (tgt := 11) hx hb (by omega) dX7_type_1 (by decide) (fun c1 => ?_) (fun c1 => ?_)
  · refine lv_iconst (v := iZ (-1)) hx hb dX7_type_11 (by decide) ?_
    exact kq_retM hx hb hK hP hS hr rfl (by first | omega | rfl | ((repeat' split) <;> first | rfl | omega) | (subst_vars; first | rfl | omega | ((repeat' split) <;> first | rfl | omega))) (by subst_vars; first | rfl | exact (if_pos (by omega)).symm | exact (if_neg (by omega)).symm | (rw [if_pos (by omega)]; done) | (rw [if_neg (by omega)]; done) | (rw [if_pos (by omega)]; rfl) | (rw [if_neg (by omega)]; rfl)) dX7_type_12 hlocks
  · refine W.eq (g2 := F0 m 4 ls []) rfl ?_
    refine lv_iload_n hx hb dX7_type_4 rfl (lv_at hl 1 rfl) ?_
    refine lv_sipush (v := iZ 255) hx hb dX7_type_5 (by decide) ?_
    refine z_icmp_le (x := cc) (y := 255) (tgt := 13) hx hb (by omega) (by omega) dX7_type_8 (by decide) (fun c2 => ?_) (fun c2 => ?_)
    · refine lv_aload_n hx hb dX7_type_13 rfl (lv_at hl 0 rfl) ?_
      refine kq_get (i := 0) hx hb hts hin_X7 hown hK hP (by decide) (cE_0 rfl) rfl 1 (by decide) (hts (.fieldLink RX7 13 "WordFletchers" "textLength" "I") (List.mem_cons_of_mem _ (List.mem_append_left _ (List.mem_of_getElem? (i := 0) rfl)))) rfl dX7_type_14 ?_
      refine lv_bipush (v := iZ 120) hx hb dX7_type_17 (by decide) ?_
      refine z_icmp_lt (x := (V 0 1)) (y := 120) (tgt := 25) hx hb (by omega) (by omega) dX7_type_19 (by decide) (fun c3 => ?_) (fun c3 => ?_)
      · refine lv_aload_n hx hb dX7_type_25 rfl (lv_at hl 0 rfl) ?_
        refine kq_get (i := 0) hx hb hts hin_X7 hown hK hP (by decide) (cE_0 rfl) rfl 0 (by decide) (hts (.fieldLink RX7 9 "WordFletchers" "text" "[I") (List.mem_cons_of_mem _ (List.mem_append_left _ (List.mem_of_getElem? (i := 1) rfl)))) rfl dX7_type_26 ?_
        refine lv_aload_n hx hb dX7_type_29 rfl (lv_at hl 0 rfl) ?_
        refine kq_get (i := 0) hx hb hts hin_X7 hown hK hP (by decide) (cE_0 rfl) rfl 1 (by decide) (hts (.fieldLink RX7 13 "WordFletchers" "textLength" "I") (List.mem_cons_of_mem _ (List.mem_append_left _ (List.mem_of_getElem? (i := 0) rfl)))) rfl dX7_type_30 ?_
        refine lv_iload_n hx hb dX7_type_33 rfl (lv_at hl 1 rfl) ?_
        refine W.eq (g2 := F0 m 34 ls [.int (iZ cc), .int (iZ (V 0 1)), .ref (a 1)]) rfl ?_
        refine kq_iast (i := 1) hx hb hK hP hD hS (by decide) (n := 120) (cE_1 rfl) (by decide) (Int.toNat (V 0 1)) rfl (by omega) dX7_type_34 (fun H locs hP hD hS => ?_)
        obtain ⟨V4, hV4⟩ : ∃ z : Nat → Nat → Int, z = (mU V 1 (Int.toNat (V 0 1)) cc) := ⟨_, rfl⟩
        rw [← hV4] at hP hD
        have e1 : V4 0 1 = V 0 1 := by rw [hV4]; rfl
        refine lv_aload_n hx hb dX7_type_35 rfl (lv_at hl 0 rfl) ?_
        refine lv_dup hx hb dX7_type_36 rfl ?_
        refine kq_get (i := 0) hx hb hts hin_X7 hown hK hP (by decide) (cE_0 rfl) rfl 1 (by decide) (hts (.fieldLink RX7 13 "WordFletchers" "textLength" "I") (List.mem_cons_of_mem _ (List.mem_append_left _ (List.mem_of_getElem? (i := 0) rfl)))) rfl dX7_type_37 ?_
        refine lv_iconst (v := iZ 1) hx hb dX7_type_40 (by decide) ?_
        refine z_iadd hx hb dX7_type_41 ?_
        refine kq_put (ty := .int) (i := 0) hx hb hts hin_X7 hown tyX7 tyX7_ok nmX7 hK hP hD hS (by decide) (cE_0 rfl) rfl 1 (by decide) (hts (.fieldLink RX7 13 "WordFletchers" "textLength" "I") (List.mem_cons_of_mem _ (List.mem_append_left _ (List.mem_of_getElem? (i := 0) rfl)))) rfl (by decide +kernel) rfl rfl (Nat.le_of_ble_eq_true rfl) rfl dX7_type_42 (fun H locs hP hD hS => ?_)
        obtain ⟨V5, hV5⟩ : ∃ z : Nat → Nat → Int, z = (mU V4 0 1 ((V4 0 1) + 1)) := ⟨_, rfl⟩
        rw [← hV5] at hP hD
        have e2 : V5 0 1 = V4 0 1 + 1 := by rw [hV5, mU_eq]
        refine lv_aload_n hx hb dX7_type_45 rfl (lv_at hl 0 rfl) ?_
        refine kq_get (i := 0) hx hb hts hin_X7 hown hK hP (by decide) (cE_0 rfl) rfl 1 (by decide) (hts (.fieldLink RX7 13 "WordFletchers" "textLength" "I") (List.mem_cons_of_mem _ (List.mem_append_left _ (List.mem_of_getElem? (i := 0) rfl)))) rfl dX7_type_46 ?_
        exact kq_retM hx hb hK hP hS hr rfl (by first | omega | rfl | ((repeat' split) <;> first | rfl | omega) | (subst_vars; first | rfl | omega | ((repeat' split) <;> first | rfl | omega))) (by subst_vars; first | rfl | exact (if_pos (by omega)).symm | exact (if_neg (by omega)).symm | (rw [if_pos (by omega)]; done) | (rw [if_neg (by omega)]; done) | (rw [if_pos (by omega)]; rfl) | (rw [if_neg (by omega)]; rfl)) dX7_type_49 hlocks
      · refine lv_bipush (v := iZ (-3)) hx hb dX7_type_22 (by decide) ?_
        exact kq_retM hx hb hK hP hS hr rfl (by first | omega | rfl | ((repeat' split) <;> first | rfl | omega) | (subst_vars; first | rfl | omega | ((repeat' split) <;> first | rfl | omega))) (by subst_vars; first | rfl | exact (if_pos (by omega)).symm | exact (if_neg (by omega)).symm | (rw [if_pos (by omega)]; done) | (rw [if_neg (by omega)]; done) | (rw [if_pos (by omega)]; rfl) | (rw [if_neg (by omega)]; rfl)) dX7_type_24 hlocks
    · refine W.eq (g2 := F0 m 11 ls []) rfl ?_
      refine lv_iconst (v := iZ (-1)) hx hb dX7_type_11 (by decide) ?_
      exact kq_retM hx hb hK hP hS hr rfl (by first | omega | rfl | ((repeat' split) <;> first | rfl | omega) | (subst_vars; first | rfl | omega | ((repeat' split) <;> first | rfl | omega))) (by subst_vars; first | rfl | exact (if_pos (by omega)).symm | exact (if_neg (by omega)).symm | (rw [if_pos (by omega)]; done) | (rw [if_neg (by omega)]; done) | (rw [if_pos (by omega)]; rfl) | (rw [if_neg (by omega)]; rfl)) dX7_type_12 hlocks
set_option maxHeartbeats 4000000 in
set_option maxRecDepth 100000 in
theorem K_X7_clear (l : Launch) (D : va_G) (C : cC) (a b : Nat → Nat) (V : Nat → Nat → Int) (hDD : va_D (fun _ => True) (cW C a V)) : Met l yX7_clear wsX7_clear ({ frames := 0, cells := 0, slots := 0, locals := 0 }) (va_Pc [.ref (a 0)] (cOk D C a b V)) (va_Qi (fun r (_ : Unit) => r = iZ (V 0 1)) (fun _ t => cPo D C a (mU V 0 1 0) t) (cA a)) 0 0 (cA a) := by
  refine Met.ofW (cc := cX7_clear) (maxL := 2) (ret := (some .int)) (by decide) rfl ?_
  intro p e s m args below meth c s₁ B hml hv
  obtain ⟨rfl, hP, hK, hN⟩ := hv
  have hx := B.exec
  have hb := B.bytes
  have hr := B.returns
  have hts := atoms_spec (ws := wsX7_clear) B.pre
  have hown : s.vm.findClass RX7 = some m.cls := findClass_of_methodNamed B.named
  have hlocks := B.notSynchronized
  have hin_X7 : ∀ w ∈ wsX70, w ∈ wsX7_clear := fun _ w_h => (List.mem_cons_of_mem _ (List.mem_append_right _ w_h))
  have hl := lv_entry ([.ref (a 0)]) (n := 2) (Nat.le_of_ble_eq_true rfl)
  rw [lg_entry_eq]
  generalize (lg_sl ([.ref (a 0)]) ++ List.replicate (2 - (lg_sl ([.ref (a 0)])).length) Slot.unset).toArray = ls at hl ⊢
  replace hl : lv_has ls 2 [(0, .ref (a 0))] := hl
  have hD : va_D (cA a) (cW C a V) := cD_own hDD
  generalize hHe : s.heap = H at hP ⊢
  have hS : va_S (cA a) s.heap H [] := by rw [hHe]; exact va_S.rf
  generalize hlo : ([] : List Loc) = locs at hS ⊢
  clear hHe hlo
  refine lv_aload_n hx hb dX7_clear_0 rfl (lv_at hl 0 rfl) ?_
  refine kq_get (i := 0) hx hb hts hin_X7 hown hK hP (by decide) (cE_0 rfl) rfl 1 (by decide) (hts (.fieldLink RX7 13 "WordFletchers" "textLength" "I") (List.mem_cons_of_mem _ (List.mem_append_left _ (List.mem_of_getElem? (i := 0) rfl)))) rfl dX7_clear_1 ?_
  refine lv_istore_n (lv' := [(1, .int (iZ (V 0 1))), (0, .ref (a 0))]) hx hb dX7_clear_4 rfl hl (by decide) rfl (fun ls hl => ?_)
  refine lv_aload_n hx hb dX7_clear_5 rfl (lv_at hl 1 rfl) ?_
  refine lv_iconst (v := iZ 0) hx hb dX7_clear_6 (by decide) ?_
  refine kq_put (ty := .int) (i := 0) hx hb hts hin_X7 hown tyX7 tyX7_ok nmX7 hK hP hD hS (by decide) (cE_0 rfl) rfl 1 (by decide) (hts (.fieldLink RX7 13 "WordFletchers" "textLength" "I") (List.mem_cons_of_mem _ (List.mem_append_left _ (List.mem_of_getElem? (i := 0) rfl)))) rfl (by decide +kernel) rfl rfl (Nat.le_of_ble_eq_true rfl) rfl dX7_clear_7 (fun H locs hP hD hS => ?_)
  obtain ⟨V1, hV1⟩ : ∃ z : Nat → Nat → Int, z = (mU V 0 1 0) := ⟨_, rfl⟩
  rw [← hV1] at hP hD
  refine lv_iload_n hx hb dX7_clear_10 rfl (lv_at hl 0 rfl) ?_
  exact kq_retM hx hb hK hP hS hr rfl rfl (by subst_vars; rfl) dX7_clear_11 hlocks
set_option maxHeartbeats 4000000 in
set_option maxRecDepth 100000 in
theorem K_X7_forget (l : Launch) (D : va_G) (C : cC) (a b : Nat → Nat) (V : Nat → Nat → Int) (hDD : va_D (fun _ => True) (cW C a V)) : Met l yX7_forget wsX7_forget ({ frames := 0, cells := 0, slots := 0, locals := 0 }) (va_Pc [.ref (a 0)] (cOk D C a b V)) (va_Qi (fun r (_ : Unit) => r = iZ (V 4 4)) (fun _ t => cPo D C a (mU V 4 4 0) t) (cA a)) 0 0 (cA a) := by
  refine Met.ofW (cc := cX7_forget) (maxL := 2) (ret := (some .int)) (by decide) rfl ?_
  intro p e s m args below meth c s₁ B hml hv
  obtain ⟨rfl, hP, hK, hN⟩ := hv
  have hx := B.exec
  have hb := B.bytes
  have hr := B.returns
  have hts := atoms_spec (ws := wsX7_forget) B.pre
  have hown : s.vm.findClass RX7 = some m.cls := findClass_of_methodNamed B.named
  have hlocks := B.notSynchronized
  have hin_X7 : ∀ w ∈ wsX70, w ∈ wsX7_forget := fun _ w_h => (List.mem_cons_of_mem _ (List.mem_append_left _ (List.mem_append_right _ w_h)))
  have hin_X4 : ∀ w ∈ wsX40, w ∈ wsX7_forget := fun _ w_h => (List.mem_cons_of_mem _ (List.mem_append_right _ w_h))
  have hl := lv_entry ([.ref (a 0)]) (n := 2) (Nat.le_of_ble_eq_true rfl)
  rw [lg_entry_eq]
  generalize (lg_sl ([.ref (a 0)]) ++ List.replicate (2 - (lg_sl ([.ref (a 0)])).length) Slot.unset).toArray = ls at hl ⊢
  replace hl : lv_has ls 2 [(0, .ref (a 0))] := hl
  have hD : va_D (cA a) (cW C a V) := cD_own hDD
  generalize hHe : s.heap = H at hP ⊢
  have hS : va_S (cA a) s.heap H [] := by rw [hHe]; exact va_S.rf
  generalize hlo : ([] : List Loc) = locs at hS ⊢
  clear hHe hlo
  refine lv_aload_n hx hb dX7_forget_0 rfl (lv_at hl 0 rfl) ?_
  refine kq_get (i := 0) hx hb hts hin_X7 hown hK hP (by decide) (cE_0 rfl) rfl 8 (by decide) (hts (.fieldLink RX7 59 "WordFletchers" "sightings" "LWordFletchers$Sightings;") (List.mem_cons_of_mem _ (List.mem_append_left _ (List.mem_append_left _ (List.mem_of_getElem? (i := 0) rfl))))) rfl dX7_forget_1 ?_
  refine W.eq (g2 := F0 m 4 ls [.ref (a 4)]) rfl ?_
  refine kq_get (i := 4) hx hb hts hin_X4 hown hK hP (by decide) (cE_4 rfl) rfl 4 (by decide) (hts (.fieldLink RX7 251 "WordFletchers$Sightings" "size" "I") (List.mem_cons_of_mem _ (List.mem_append_left _ (List.mem_append_left _ (List.mem_of_getElem? (i := 1) rfl))))) rfl dX7_forget_4 ?_
  refine lv_istore_n (lv' := [(1, .int (iZ (V 4 4))), (0, .ref (a 0))]) hx hb dX7_forget_7 rfl hl (by decide) rfl (fun ls hl => ?_)
  refine lv_aload_n hx hb dX7_forget_8 rfl (lv_at hl 1 rfl) ?_
  refine kq_get (i := 0) hx hb hts hin_X7 hown hK hP (by decide) (cE_0 rfl) rfl 8 (by decide) (hts (.fieldLink RX7 59 "WordFletchers" "sightings" "LWordFletchers$Sightings;") (List.mem_cons_of_mem _ (List.mem_append_left _ (List.mem_append_left _ (List.mem_of_getElem? (i := 0) rfl))))) rfl dX7_forget_9 ?_
  refine lv_iconst (v := iZ 0) hx hb dX7_forget_12 (by decide) ?_
  refine kq_put (ty := .int) (i := 4) hx hb hts hin_X4 hown tyX4 tyX4_ok nmX4 hK hP hD hS (by decide) (cE_4 rfl) rfl 4 (by decide) (hts (.fieldLink RX7 251 "WordFletchers$Sightings" "size" "I") (List.mem_cons_of_mem _ (List.mem_append_left _ (List.mem_append_left _ (List.mem_of_getElem? (i := 1) rfl))))) rfl (by decide +kernel) rfl rfl (Nat.le_of_ble_eq_true rfl) rfl dX7_forget_13 (fun H locs hP hD hS => ?_)
  obtain ⟨V1, hV1⟩ : ∃ z : Nat → Nat → Int, z = (mU V 4 4 0) := ⟨_, rfl⟩
  rw [← hV1] at hP hD
  refine lv_iload_n hx hb dX7_forget_16 rfl (lv_at hl 0 rfl) ?_
  exact kq_retM hx hb hK hP hS hr rfl rfl (by subst_vars; rfl) dX7_forget_17 hlocks
set_option maxHeartbeats 4000000 in
set_option maxRecDepth 100000 in
theorem K_X7_hours (l : Launch) (D : va_G) (C : cC) (a b : Nat → Nat) (V : Nat → Nat → Int) (nn : Int) (h1 : -2147483648 ≤ nn ∧ nn < 2147483648) (hpa : paI V 31) (hho : 0 ≤ V 39 0 ∧ V 39 0 ≤ 999) (hDD : va_D (fun _ => True) (cW C a V)) : Met l yX7_hours wsX7_hours ({ frames := 3, cells := 0, slots := 0, locals := 90 }) (va_Pc [.ref (a 0), .int (iZ nn)] (cOk D C a b V)) (va_Qi (fun r (_ : Unit) => r = iZ (if 1 ≤ nn ∧ nn ≤ 9 then (if V 39 0 + nn ≤ 999 then V 39 0 + nn else -2) else -1)) (fun _ t => cPo D C a (if (1 ≤ nn ∧ nn ≤ 9) ∧ V 39 0 + nn ≤ 999 then mU (f_rem V 31 39) 39 0 (f_rem V 31 39 39 0 + nn) else V) t) (cA a)) 0 0 (cA a) := by
  refine Met.ofW (cc := cX7_hours) (maxL := 2) (ret := (some .int)) (by decide) rfl ?_
  intro p e s m args below meth c s₁ B hml hv
  obtain ⟨rfl, hP, hK, hN⟩ := hv
  have hx := B.exec
  have hb := B.bytes
  have hr := B.returns
  have hts := atoms_spec (ws := wsX7_hours) B.pre
  have hown : s.vm.findClass RX7 = some m.cls := findClass_of_methodNamed B.named
  have hlocks := B.notSynchronized
  have hin_X7 : ∀ w ∈ wsX70, w ∈ wsX7_hours := fun _ w_h => (List.mem_cons_of_mem _ (List.mem_append_left _ (List.mem_append_left _ (List.mem_append_right _ w_h))))
  have hin_X2 : ∀ w ∈ wsX20, w ∈ wsX7_hours := fun _ w_h => (List.mem_cons_of_mem _ (List.mem_append_left _ (List.mem_append_right _ w_h)))
  have hin_X3 : ∀ w ∈ wsX30, w ∈ wsX7_hours := fun _ w_h => (List.mem_cons_of_mem _ (List.mem_append_right _ w_h))
  have hl := lv_entry ([.ref (a 0), .int (iZ nn)]) (n := 2) (Nat.le_of_ble_eq_true rfl)
  rw [lg_entry_eq]
  generalize (lg_sl ([.ref (a 0), .int (iZ nn)]) ++ List.replicate (2 - (lg_sl ([.ref (a 0), .int (iZ nn)])).length) Slot.unset).toArray = ls at hl ⊢
  replace hl : lv_has ls 2 [(0, .ref (a 0)), (1, .int (iZ nn))] := hl
  have hD : va_D (cA a) (cW C a V) := cD_own hDD
  generalize hHe : s.heap = H at hP ⊢
  have hS : va_S (cA a) s.heap H [] := by rw [hHe]; exact va_S.rf
  generalize hlo : ([] : List Loc) = locs at hS ⊢
  clear hHe hlo
  refine lv_iload_n hx hb dX7_hours_0 rfl (lv_at hl 1 rfl) ?_
  refine lv_iconst (v := iZ 1) hx hb dX7_hours_1 (by decide) ?_
  refine z_icmp_lt (x := nn) (y := 1) (tgt := 11) hx hb (by omega) (by omega) dX7_hours_2 (by decide) (fun c1 => ?_) (fun c1 => ?_)
  · refine lv_iconst (v := iZ (-1)) hx hb dX7_hours_11 (by decide) ?_
    refine W.eq (g2 := F0 m 12 ls [.int (iZ (-1))]) rfl ?_
    exact kq_retM hx hb hK hP hS hr rfl (by first | omega | rfl | ((repeat' split) <;> first | rfl | omega) | (subst_vars; first | rfl | omega | ((repeat' split) <;> first | rfl | omega))) (by subst_vars; first | rfl | exact (if_pos (by omega)).symm | exact (if_neg (by omega)).symm | (rw [if_pos (by omega)]; done) | (rw [if_neg (by omega)]; done) | (rw [if_pos (by omega)]; rfl) | (rw [if_neg (by omega)]; rfl)) dX7_hours_12 hlocks
  · refine lv_iload_n hx hb dX7_hours_5 rfl (lv_at hl 1 rfl) ?_
    refine lv_bipush (v := iZ 9) hx hb dX7_hours_6 (by decide) ?_
    refine z_icmp_le (x := nn) (y := 9) (tgt := 13) hx hb (by omega) (by omega) dX7_hours_8 (by decide) (fun c2 => ?_) (fun c2 => ?_)
    · refine lv_aload_n hx hb dX7_hours_13 rfl (lv_at hl 0 rfl) ?_
      refine kq_get (i := 0) hx hb hts hin_X7 hown hK hP (by decide) (cE_0 rfl) rfl 5 (by decide) (hts (.fieldLink RX7 39 "WordFletchers" "moment" "LWordFletchers$Moment;") (List.mem_cons_of_mem _ (List.mem_append_left _ (List.mem_append_left _ (List.mem_append_left _ (List.mem_append_left _ (List.mem_of_getElem? (i := 0) rfl))))))) rfl dX7_hours_14 ?_
      refine kq_get (i := 39) hx hb hts hin_X2 hown hK hP (isMo.l0 isMo_39) (cE_26 (isMo.s0 isMo_39)) rfl 0 (by decide) (hts (.fieldLink RX7 174 "WordFletchers$Moment" "hour" "I") (List.mem_cons_of_mem _ (List.mem_append_left _ (List.mem_append_left _ (List.mem_append_left _ (List.mem_append_left _ (List.mem_of_getElem? (i := 1) rfl))))))) rfl dX7_hours_17 ?_
      refine lv_iload_n hx hb dX7_hours_20 rfl (lv_at hl 1 rfl) ?_
      refine z_iadd hx hb dX7_hours_21 ?_
      refine lv_sipush (v := iZ 999) hx hb dX7_hours_22 (by decide) ?_
      refine z_icmp_le (x := ((V 39 0) + nn)) (y := 999) (tgt := 31) hx hb (by omega) (by omega) dX7_hours_25 (by decide) (fun c3 => ?_) (fun c3 => ?_)
      · refine lv_aload_n hx hb dX7_hours_31 rfl (lv_at hl 0 rfl) ?_
        refine W.eq (g2 := F0 m 32 ls [.ref (a 0)]) rfl ?_
        refine kq_get (i := 0) hx hb hts hin_X7 hown hK hP (by decide) (cE_0 rfl) rfl 6 (by decide) (hts (.fieldLink RX7 46 "WordFletchers" "past" "LWordFletchers$Past;") (List.mem_cons_of_mem _ (List.mem_append_left _ (List.mem_append_left _ (List.mem_append_left _ (List.mem_append_left _ (List.mem_of_getElem? (i := 2) rfl))))))) rfl dX7_hours_32 ?_
        refine lv_aload_n hx hb dX7_hours_35 rfl (lv_at hl 0 rfl) ?_
        refine kq_get (i := 0) hx hb hts hin_X7 hown hK hP (by decide) (cE_0 rfl) rfl 5 (by decide) (hts (.fieldLink RX7 39 "WordFletchers" "moment" "LWordFletchers$Moment;") (List.mem_cons_of_mem _ (List.mem_append_left _ (List.mem_append_left _ (List.mem_append_left _ (List.mem_append_left _ (List.mem_of_getElem? (i := 0) rfl))))))) rfl dX7_hours_36 ?_
        refine kq_cv (i := 31) (As := [.ref (a 39)]) (rest := []) ⟨hx, hb, hml, hown, hts⟩ hK hP hN hD hS (isPa.l0 isPa_31) (cE_23 (isPa.s0 isPa_31)) rfl (K_X3_remember l D C a b V 31 isPa_31 39 isMo_39 (by assumption) (hD.weaken (fun _ _ _ _ => trivial))) (cwV 1 hts gX7_hours_X3_remember rfl rfl rfl (by decide +kernel) ⟨Nat.le_of_ble_eq_true rfl, Nat.le_of_ble_eq_true rfl⟩) rfl rfl hl.1 (Nat.le_of_ble_eq_true rfl) ⟨Nat.le_of_ble_eq_true rfl, Nat.le_of_ble_eq_true rfl⟩ dX7_hours_39 (fun H locs hP hD hS => ?_)
        obtain ⟨V4, hV4⟩ : ∃ z : Nat → Nat → Int, z = (f_rem V 31 39) := ⟨_, rfl⟩
        rw [← hV4] at hP hD
        have e39 : V4 39 = V 39 := by rw [hV4]; exact f_rem_lo hpa (by omega)
        have e40 : V4 39 0 = V 39 0 := by rw [e39]
        refine lv_aload_n hx hb dX7_hours_42 rfl (lv_at hl 0 rfl) ?_
        refine kq_get (i := 0) hx hb hts hin_X7 hown hK hP (by decide) (cE_0 rfl) rfl 5 (by decide) (hts (.fieldLink RX7 39 "WordFletchers" "moment" "LWordFletchers$Moment;") (List.mem_cons_of_mem _ (List.mem_append_left _ (List.mem_append_left _ (List.mem_append_left _ (List.mem_append_left _ (List.mem_of_getElem? (i := 0) rfl))))))) rfl dX7_hours_43 ?_
        refine lv_dup hx hb dX7_hours_46 rfl ?_
        refine kq_get (i := 39) hx hb hts hin_X2 hown hK hP (isMo.l0 isMo_39) (cE_26 (isMo.s0 isMo_39)) rfl 0 (by decide) (hts (.fieldLink RX7 174 "WordFletchers$Moment" "hour" "I") (List.mem_cons_of_mem _ (List.mem_append_left _ (List.mem_append_left _ (List.mem_append_left _ (List.mem_append_left _ (List.mem_of_getElem? (i := 1) rfl))))))) rfl dX7_hours_47 ?_
        refine lv_iload_n hx hb dX7_hours_50 rfl (lv_at hl 1 rfl) ?_
        refine z_iadd hx hb dX7_hours_51 ?_
        refine kq_put (ty := .int) (i := 39) hx hb hts hin_X2 hown tyX2 tyX2_ok nmX2 hK hP hD hS (isMo.l0 isMo_39) (cE_26 (isMo.s0 isMo_39)) rfl 0 (by decide) (hts (.fieldLink RX7 174 "WordFletchers$Moment" "hour" "I") (List.mem_cons_of_mem _ (List.mem_append_left _ (List.mem_append_left _ (List.mem_append_left _ (List.mem_append_left _ (List.mem_of_getElem? (i := 1) rfl))))))) rfl (by decide +kernel) rfl rfl (Nat.le_of_ble_eq_true rfl) rfl dX7_hours_52 (fun H locs hP hD hS => ?_)
        obtain ⟨V5, hV5⟩ : ∃ z : Nat → Nat → Int, z = (mU V4 39 0 ((V4 39 0) + nn)) := ⟨_, rfl⟩
        rw [← hV5] at hP hD
        have e2 : V5 39 0 = V4 39 0 + nn := by rw [hV5, mU_eq]
        refine lv_aload_n hx hb dX7_hours_55 rfl (lv_at hl 0 rfl) ?_
        refine W.eq (g2 := F0 m 56 ls [.ref (a 0)]) rfl ?_
        refine kq_get (i := 0) hx hb hts hin_X7 hown hK hP (by decide) (cE_0 rfl) rfl 5 (by decide) (hts (.fieldLink RX7 39 "WordFletchers" "moment" "LWordFletchers$Moment;") (List.mem_cons_of_mem _ (List.mem_append_left _ (List.mem_append_left _ (List.mem_append_left _ (List.mem_append_left _ (List.mem_of_getElem? (i := 0) rfl))))))) rfl dX7_hours_56 ?_
        refine kq_get (i := 39) hx hb hts hin_X2 hown hK hP (isMo.l0 isMo_39) (cE_26 (isMo.s0 isMo_39)) rfl 0 (by decide) (hts (.fieldLink RX7 174 "WordFletchers$Moment" "hour" "I") (List.mem_cons_of_mem _ (List.mem_append_left _ (List.mem_append_left _ (List.mem_append_left _ (List.mem_append_left _ (List.mem_of_getElem? (i := 1) rfl))))))) rfl dX7_hours_59 ?_
        exact kq_retM hx hb hK hP hS hr rfl (by first | omega | rfl | ((repeat' split) <;> first | rfl | omega) | (subst_vars; first | rfl | omega | ((repeat' split) <;> first | rfl | omega))) (by subst_vars; first | rfl | exact (if_pos (by omega)).symm | exact (if_neg (by omega)).symm | (rw [if_pos (by omega)]; done) | (rw [if_neg (by omega)]; done) | (rw [if_pos (by omega)]; rfl) | (rw [if_neg (by omega)]; rfl)) dX7_hours_62 hlocks
      · refine lv_bipush (v := iZ (-2)) hx hb dX7_hours_28 (by decide) ?_
        exact kq_retM hx hb hK hP hS hr rfl (by first | omega | rfl | ((repeat' split) <;> first | rfl | omega) | (subst_vars; first | rfl | omega | ((repeat' split) <;> first | rfl | omega))) (by subst_vars; first | rfl | exact (if_pos (by omega)).symm | exact (if_neg (by omega)).symm | (rw [if_pos (by omega)]; done) | (rw [if_neg (by omega)]; done) | (rw [if_pos (by omega)]; rfl) | (rw [if_neg (by omega)]; rfl)) dX7_hours_30 hlocks
    · refine lv_iconst (v := iZ (-1)) hx hb dX7_hours_11 (by decide) ?_
      exact kq_retM hx hb hK hP hS hr rfl (by first | omega | rfl | ((repeat' split) <;> first | rfl | omega) | (subst_vars; first | rfl | omega | ((repeat' split) <;> first | rfl | omega))) (by subst_vars; first | rfl | exact (if_pos (by omega)).symm | exact (if_neg (by omega)).symm | (rw [if_pos (by omega)]; done) | (rw [if_neg (by omega)]; done) | (rw [if_pos (by omega)]; rfl) | (rw [if_neg (by omega)]; rfl)) dX7_hours_12 hlocks
set_option maxHeartbeats 4000000 in
set_option maxRecDepth 100000 in
theorem K_X7_damps (l : Launch) (D : va_G) (C : cC) (a b : Nat → Nat) (V : Nat → Nat → Int) (nn : Int) (h1 : -2147483648 ≤ nn ∧ nn < 2147483648) (hpa : paI V 31) (h2 : 0 ≤ V 39 1 ∧ V 39 1 ≤ 5) (hDD : va_D (fun _ => True) (cW C a V)) : Met l yX7_damps wsX7_damps ({ frames := 3, cells := 0, slots := 0, locals := 90 }) (va_Pc [.ref (a 0), .int (iZ nn)] (cOk D C a b V)) (va_Qi (fun r (_ : Unit) => r = iZ (if 0 ≤ nn ∧ nn ≤ 5 then (if nn = V 39 1 then -2 else V 39 1) else -1)) (fun _ t => cPo D C a (if (0 ≤ nn ∧ nn ≤ 5) ∧ ¬ nn = V 39 1 then mU (f_rem V 31 39) 39 1 nn else V) t) (cA a)) 0 0 (cA a) := by
  refine Met.ofW (cc := cX7_damps) (maxL := 3) (ret := (some .int)) (by decide) rfl ?_
  intro p e s m args below meth c s₁ B hml hv
  obtain ⟨rfl, hP, hK, hN⟩ := hv
  have hx := B.exec
  have hb := B.bytes
  have hr := B.returns
  have hts := atoms_spec (ws := wsX7_damps) B.pre
  have hown : s.vm.findClass RX7 = some m.cls := findClass_of_methodNamed B.named
  have hlocks := B.notSynchronized
  have hin_X7 : ∀ w ∈ wsX70, w ∈ wsX7_damps := fun _ w_h => (List.mem_cons_of_mem _ (List.mem_append_left _ (List.mem_append_left _ (List.mem_append_right _ w_h))))
  have hin_X2 : ∀ w ∈ wsX20, w ∈ wsX7_damps := fun _ w_h => (List.mem_cons_of_mem _ (List.mem_append_left _ (List.mem_append_right _ w_h)))
  have hin_X3 : ∀ w ∈ wsX30, w ∈ wsX7_damps := fun _ w_h => (List.mem_cons_of_mem _ (List.mem_append_right _ w_h))
  have hl := lv_entry ([.ref (a 0), .int (iZ nn)]) (n := 3) (Nat.le_of_ble_eq_true rfl)
  rw [lg_entry_eq]
  generalize (lg_sl ([.ref (a 0), .int (iZ nn)]) ++ List.replicate (3 - (lg_sl ([.ref (a 0), .int (iZ nn)])).length) Slot.unset).toArray = ls at hl ⊢
  replace hl : lv_has ls 3 [(0, .ref (a 0)), (1, .int (iZ nn))] := hl
  have hD : va_D (cA a) (cW C a V) := cD_own hDD
  generalize hHe : s.heap = H at hP ⊢
  have hS : va_S (cA a) s.heap H [] := by rw [hHe]; exact va_S.rf
  generalize hlo : ([] : List Loc) = locs at hS ⊢
  clear hHe hlo
  refine lv_iload_n hx hb dX7_damps_0 rfl (lv_at hl 1 rfl) ?_
  refine z_if_lt (x := nn) (tgt := 9) hx hb (by omega) dX7_damps_1 (by decide) (fun c1 => ?_) (fun c1 => ?_)
  · refine lv_iconst (v := iZ (-1)) hx hb dX7_damps_9 (by decide) ?_
    exact kq_retM hx hb hK hP hS hr rfl (by first | omega | rfl | ((repeat' split) <;> first | rfl | omega) | (subst_vars; first | rfl | omega | ((repeat' split) <;> first | rfl | omega))) (by subst_vars; first | rfl | exact (if_pos (by omega)).symm | exact (if_neg (by omega)).symm | (rw [if_pos (by omega)]; done) | (rw [if_neg (by omega)]; done) | (rw [if_pos (by omega)]; rfl) | (rw [if_neg (by omega)]; rfl)) dX7_damps_10 hlocks
  · refine lv_iload_n hx hb dX7_damps_4 rfl (lv_at hl 1 rfl) ?_
    refine W.eq (g2 := F0 m 5 ls [.int (iZ nn)]) rfl ?_
    refine lv_iconst (v := iZ 5) hx hb dX7_damps_5 (by decide) ?_
    refine z_icmp_le (x := nn) (y := 5) (tgt := 11) hx hb (by omega) (by omega) dX7_damps_6 (by decide) (fun c2 => ?_) (fun c2 => ?_)
    · refine lv_iload_n hx hb dX7_damps_11 rfl (lv_at hl 1 rfl) ?_
      refine lv_aload_n hx hb dX7_damps_12 rfl (lv_at hl 0 rfl) ?_
      refine kq_get (i := 0) hx hb hts hin_X7 hown hK hP (by decide) (cE_0 rfl) rfl 5 (by decide) (hts (.fieldLink RX7 39 "WordFletchers" "moment" "LWordFletchers$Moment;") (List.mem_cons_of_mem _ (List.mem_append_left _ (List.mem_append_left _ (List.mem_append_left _ (List.mem_append_left _ (List.mem_of_getElem? (i := 0) rfl))))))) rfl dX7_damps_13 ?_
      refine kq_get (i := 39) hx hb hts hin_X2 hown hK hP (isMo.l0 isMo_39) (cE_26 (isMo.s0 isMo_39)) rfl 1 (by decide) (hts (.fieldLink RX7 177 "WordFletchers$Moment" "damp" "I") (List.mem_cons_of_mem _ (List.mem_append_left _ (List.mem_append_left _ (List.mem_append_left _ (List.mem_append_left _ (List.mem_of_getElem? (i := 1) rfl))))))) rfl dX7_damps_16 ?_
      refine z_icmp_ne (x := nn) (y := (V 39 1)) (tgt := 25) hx hb (by omega) (by omega) dX7_damps_19 (by decide) (fun c3 => ?_) (fun c3 => ?_)
      · refine lv_aload_n hx hb dX7_damps_25 rfl (lv_at hl 0 rfl) ?_
        refine kq_get (i := 0) hx hb hts hin_X7 hown hK hP (by decide) (cE_0 rfl) rfl 6 (by decide) (hts (.fieldLink RX7 46 "WordFletchers" "past" "LWordFletchers$Past;") (List.mem_cons_of_mem _ (List.mem_append_left _ (List.mem_append_left _ (List.mem_append_left _ (List.mem_append_left _ (List.mem_of_getElem? (i := 2) rfl))))))) rfl dX7_damps_26 ?_
        refine lv_aload_n hx hb dX7_damps_29 rfl (lv_at hl 0 rfl) ?_
        refine kq_get (i := 0) hx hb hts hin_X7 hown hK hP (by decide) (cE_0 rfl) rfl 5 (by decide) (hts (.fieldLink RX7 39 "WordFletchers" "moment" "LWordFletchers$Moment;") (List.mem_cons_of_mem _ (List.mem_append_left _ (List.mem_append_left _ (List.mem_append_left _ (List.mem_append_left _ (List.mem_of_getElem? (i := 0) rfl))))))) rfl dX7_damps_30 ?_
        refine kq_cv (i := 31) (As := [.ref (a 39)]) (rest := []) ⟨hx, hb, hml, hown, hts⟩ hK hP hN hD hS (isPa.l0 isPa_31) (cE_23 (isPa.s0 isPa_31)) rfl (K_X3_remember l D C a b V 31 isPa_31 39 isMo_39 (by assumption) (hD.weaken (fun _ _ _ _ => trivial))) (cwV 1 hts gX7_damps_X3_remember rfl rfl rfl (by decide +kernel) ⟨Nat.le_of_ble_eq_true rfl, Nat.le_of_ble_eq_true rfl⟩) rfl rfl hl.1 (Nat.le_of_ble_eq_true rfl) ⟨Nat.le_of_ble_eq_true rfl, Nat.le_of_ble_eq_true rfl⟩ dX7_damps_33 (fun H locs hP hD hS => ?_)
        obtain ⟨V4, hV4⟩ : ∃ z : Nat → Nat → Int, z = (f_rem V 31 39) := ⟨_, rfl⟩
        rw [← hV4] at hP hD
        have e39 : V4 39 = V 39 := by rw [hV4]; exact f_rem_lo hpa (by omega)
        have e40 : V4 39 1 = V 39 1 := by rw [e39]
        refine W.eq (g2 := F0 m 36 ls []) rfl ?_
        refine lv_aload_n hx hb dX7_damps_36 rfl (lv_at hl 0 rfl) ?_
        refine kq_get (i := 0) hx hb hts hin_X7 hown hK hP (by decide) (cE_0 rfl) rfl 5 (by decide) (hts (.fieldLink RX7 39 "WordFletchers" "moment" "LWordFletchers$Moment;") (List.mem_cons_of_mem _ (List.mem_append_left _ (List.mem_append_left _ (List.mem_append_left _ (List.mem_append_left _ (List.mem_of_getElem? (i := 0) rfl))))))) rfl dX7_damps_37 ?_
        refine kq_get (i := 39) hx hb hts hin_X2 hown hK hP (isMo.l0 isMo_39) (cE_26 (isMo.s0 isMo_39)) rfl 1 (by decide) (hts (.fieldLink RX7 177 "WordFletchers$Moment" "damp" "I") (List.mem_cons_of_mem _ (List.mem_append_left _ (List.mem_append_left _ (List.mem_append_left _ (List.mem_append_left _ (List.mem_of_getElem? (i := 1) rfl))))))) rfl dX7_damps_40 ?_
        refine lv_istore_n (lv' := [(2, .int (iZ (V4 39 1))), (0, .ref (a 0)), (1, .int (iZ nn))]) hx hb dX7_damps_43 rfl hl (by decide) rfl (fun ls hl => ?_)
        refine lv_aload_n hx hb dX7_damps_44 rfl (lv_at hl 1 rfl) ?_
        refine kq_get (i := 0) hx hb hts hin_X7 hown hK hP (by decide) (cE_0 rfl) rfl 5 (by decide) (hts (.fieldLink RX7 39 "WordFletchers" "moment" "LWordFletchers$Moment;") (List.mem_cons_of_mem _ (List.mem_append_left _ (List.mem_append_left _ (List.mem_append_left _ (List.mem_append_left _ (List.mem_of_getElem? (i := 0) rfl))))))) rfl dX7_damps_45 ?_
        refine lv_iload_n hx hb dX7_damps_48 rfl (lv_at hl 2 rfl) ?_
        refine kq_put (ty := .int) (i := 39) hx hb hts hin_X2 hown tyX2 tyX2_ok nmX2 hK hP hD hS (isMo.l0 isMo_39) (cE_26 (isMo.s0 isMo_39)) rfl 1 (by decide) (hts (.fieldLink RX7 177 "WordFletchers$Moment" "damp" "I") (List.mem_cons_of_mem _ (List.mem_append_left _ (List.mem_append_left _ (List.mem_append_left _ (List.mem_append_left _ (List.mem_of_getElem? (i := 1) rfl))))))) rfl (by decide +kernel) rfl rfl (Nat.le_of_ble_eq_true rfl) rfl dX7_damps_49 (fun H locs hP hD hS => ?_)
        obtain ⟨V5, hV5⟩ : ∃ z : Nat → Nat → Int, z = (mU V4 39 1 nn) := ⟨_, rfl⟩
        rw [← hV5] at hP hD
        refine lv_iload_n hx hb dX7_damps_52 rfl (lv_at hl 0 rfl) ?_
        exact kq_retM hx hb hK hP hS hr rfl (by first | omega | rfl | ((repeat' split) <;> first | rfl | omega) | (subst_vars; first | rfl | omega | ((repeat' split) <;> first | rfl | omega))) (by subst_vars; first | rfl | exact (if_pos (by omega)).symm | exact (if_neg (by omega)).symm | (rw [if_pos (by omega)]; done) | (rw [if_neg (by omega)]; done) | (rw [if_pos (by omega)]; rfl) | (rw [if_neg (by omega)]; rfl)) dX7_damps_53 hlocks
      · refine lv_bipush (v := iZ (-2)) hx hb dX7_damps_22 (by decide) ?_
        exact kq_retM hx hb hK hP hS hr rfl (by first | omega | rfl | ((repeat' split) <;> first | rfl | omega) | (subst_vars; first | rfl | omega | ((repeat' split) <;> first | rfl | omega))) (by subst_vars; first | rfl | exact (if_pos (by omega)).symm | exact (if_neg (by omega)).symm | (rw [if_pos (by omega)]; done) | (rw [if_neg (by omega)]; done) | (rw [if_pos (by omega)]; rfl) | (rw [if_neg (by omega)]; rfl)) dX7_damps_24 hlocks
    · refine W.eq (g2 := F0 m 9 ls []) rfl ?_
      refine lv_iconst (v := iZ (-1)) hx hb dX7_damps_9 (by decide) ?_
      exact kq_retM hx hb hK hP hS hr rfl (by first | omega | rfl | ((repeat' split) <;> first | rfl | omega) | (subst_vars; first | rfl | omega | ((repeat' split) <;> first | rfl | omega))) (by subst_vars; first | rfl | exact (if_pos (by omega)).symm | exact (if_neg (by omega)).symm | (rw [if_pos (by omega)]; done) | (rw [if_neg (by omega)]; done) | (rw [if_pos (by omega)]; rfl) | (rw [if_neg (by omega)]; rfl)) dX7_damps_10 hlocks
set_option maxHeartbeats 4000000 in
set_option maxRecDepth 100000 in
theorem K_X7_plucks (l : Launch) (D : va_G) (C : cC) (a b : Nat → Nat) (V : Nat → Nat → Int) (fe : Int) (nn : Int) (h1 : -2147483648 ≤ fe ∧ fe < 2147483648) (h2 : -2147483648 ≤ nn ∧ nn < 2147483648) (hpa : paI V 31) (hfe : ∀ k : Nat, k < 4 → 0 ≤ V 40 k ∧ V 40 k ≤ 20) (hDD : va_D (fun _ => True) (cW C a V)) : Met l yX7_plucks wsX7_plucks ({ frames := 3, cells := 0, slots := 0, locals := 90 }) (va_Pc [.ref (a 0), .int (iZ fe), .int (iZ nn)] (cOk D C a b V)) (va_Qi (fun r (_ : Unit) => r = iZ (if (0 ≤ fe ∧ fe < 4) ∧ 1 ≤ nn ∧ nn ≤ 9 then (if V 40 (Int.toNat fe) < 20 then (if V 40 (Int.toNat fe) + nn < 20 then V 40 (Int.toNat fe) + nn else 20) else -2) else -1)) (fun _ t => cPo D C a (if ((0 ≤ fe ∧ fe < 4) ∧ 1 ≤ nn ∧ nn ≤ 9) ∧ V 40 (Int.toNat fe) < 20 then mU (f_rem V 31 39) 40 (Int.toNat fe) (if f_rem V 31 39 40 (Int.toNat fe) + nn < 20 then f_rem V 31 39 40 (Int.toNat fe) + nn else 20) else V) t) (cA a)) 0 0 (cA a) := by
  refine Met.ofW (cc := cX7_plucks) (maxL := 3) (ret := (some .int)) (by decide) rfl ?_
  intro p e s m args below meth c s₁ B hml hv
  obtain ⟨rfl, hP, hK, hN⟩ := hv
  have hx := B.exec
  have hb := B.bytes
  have hr := B.returns
  have hts := atoms_spec (ws := wsX7_plucks) B.pre
  have hown : s.vm.findClass RX7 = some m.cls := findClass_of_methodNamed B.named
  have hlocks := B.notSynchronized
  have hin_X7 : ∀ w ∈ wsX70, w ∈ wsX7_plucks := fun _ w_h => (List.mem_cons_of_mem _ (List.mem_append_left _ (List.mem_append_left _ (List.mem_append_right _ w_h))))
  have hin_X2 : ∀ w ∈ wsX20, w ∈ wsX7_plucks := fun _ w_h => (List.mem_cons_of_mem _ (List.mem_append_left _ (List.mem_append_right _ w_h)))
  have hin_X3 : ∀ w ∈ wsX30, w ∈ wsX7_plucks := fun _ w_h => (List.mem_cons_of_mem _ (List.mem_append_right _ w_h))
  have hl := lv_entry ([.ref (a 0), .int (iZ fe), .int (iZ nn)]) (n := 3) (Nat.le_of_ble_eq_true rfl)
  rw [lg_entry_eq]
  generalize (lg_sl ([.ref (a 0), .int (iZ fe), .int (iZ nn)]) ++ List.replicate (3 - (lg_sl ([.ref (a 0), .int (iZ fe), .int (iZ nn)])).length) Slot.unset).toArray = ls at hl ⊢
  replace hl : lv_has ls 3 [(0, .ref (a 0)), (1, .int (iZ fe)), (2, .int (iZ nn))] := hl
  have hD : va_D (cA a) (cW C a V) := cD_own hDD
  generalize hHe : s.heap = H at hP ⊢
  have hS : va_S (cA a) s.heap H [] := by rw [hHe]; exact va_S.rf
  generalize hlo : ([] : List Loc) = locs at hS ⊢
  clear hHe hlo
  have hf0 : fe < 4 → 0 ≤ V 40 (Int.toNat fe) ∧ V 40 (Int.toNat fe) ≤ 20 := fun h9 => hfe _ (by omega)
  refine lv_iload_n hx hb dX7_plucks_0 rfl (lv_at hl 1 rfl) ?_
  refine z_if_lt (x := fe) (tgt := 20) hx hb (by omega) dX7_plucks_1 (by decide) (fun c1 => ?_) (fun c1 => ?_)
  · refine lv_iconst (v := iZ (-1)) hx hb dX7_plucks_20 (by decide) ?_
    exact kq_retM hx hb hK hP hS hr rfl (by first | omega | rfl | ((repeat' split) <;> first | rfl | omega) | (subst_vars; first | rfl | omega | ((repeat' split) <;> first | rfl | omega))) (by subst_vars; first | rfl | exact (if_pos (by omega)).symm | exact (if_neg (by omega)).symm | (rw [if_pos (by omega)]; done) | (rw [if_neg (by omega)]; done) | (rw [if_pos (by omega)]; rfl) | (rw [if_neg (by omega)]; rfl)) dX7_plucks_21 hlocks
  · refine lv_iload_n hx hb dX7_plucks_4 rfl (lv_at hl 1 rfl) ?_
    refine lv_iconst (v := iZ 4) hx hb dX7_plucks_5 (by decide) ?_
    refine z_icmp_ge (x := fe) (y := 4) (tgt := 20) hx hb (by omega) (by omega) dX7_plucks_6 (by decide) (fun c2 => ?_) (fun c2 => ?_)
    · refine lv_iconst (v := iZ (-1)) hx hb dX7_plucks_20 (by decide) ?_
      exact kq_retM hx hb hK hP hS hr rfl (by first | omega | rfl | ((repeat' split) <;> first | rfl | omega) | (subst_vars; first | rfl | omega | ((repeat' split) <;> first | rfl | omega))) (by subst_vars; first | rfl | exact (if_pos (by omega)).symm | exact (if_neg (by omega)).symm | (rw [if_pos (by omega)]; done) | (rw [if_neg (by omega)]; done) | (rw [if_pos (by omega)]; rfl) | (rw [if_neg (by omega)]; rfl)) dX7_plucks_21 hlocks
    · refine lv_iload_n hx hb dX7_plucks_9 rfl (lv_at hl 2 rfl) ?_
      refine W.eq (g2 := F0 m 10 ls [.int (iZ nn)]) rfl ?_
      refine lv_iconst (v := iZ 1) hx hb dX7_plucks_10 (by decide) ?_
      refine z_icmp_lt (x := nn) (y := 1) (tgt := 20) hx hb (by omega) (by omega) dX7_plucks_11 (by decide) (fun c3 => ?_) (fun c3 => ?_)
      · refine lv_iconst (v := iZ (-1)) hx hb dX7_plucks_20 (by decide) ?_
        exact kq_retM hx hb hK hP hS hr rfl (by first | omega | rfl | ((repeat' split) <;> first | rfl | omega) | (subst_vars; first | rfl | omega | ((repeat' split) <;> first | rfl | omega))) (by subst_vars; first | rfl | exact (if_pos (by omega)).symm | exact (if_neg (by omega)).symm | (rw [if_pos (by omega)]; done) | (rw [if_neg (by omega)]; done) | (rw [if_pos (by omega)]; rfl) | (rw [if_neg (by omega)]; rfl)) dX7_plucks_21 hlocks
      · refine lv_iload_n hx hb dX7_plucks_14 rfl (lv_at hl 2 rfl) ?_
        refine lv_bipush (v := iZ 9) hx hb dX7_plucks_15 (by decide) ?_
        refine z_icmp_le (x := nn) (y := 9) (tgt := 22) hx hb (by omega) (by omega) dX7_plucks_17 (by decide) (fun c4 => ?_) (fun c4 => ?_)
        · refine lv_aload_n hx hb dX7_plucks_22 rfl (lv_at hl 0 rfl) ?_
          refine kq_get (i := 0) hx hb hts hin_X7 hown hK hP (by decide) (cE_0 rfl) rfl 5 (by decide) (hts (.fieldLink RX7 39 "WordFletchers" "moment" "LWordFletchers$Moment;") (List.mem_cons_of_mem _ (List.mem_append_left _ (List.mem_append_left _ (List.mem_append_left _ (List.mem_append_left _ (List.mem_of_getElem? (i := 0) rfl))))))) rfl dX7_plucks_23 ?_
          refine kq_get (i := 39) hx hb hts hin_X2 hown hK hP (isMo.l0 isMo_39) (cE_26 (isMo.s0 isMo_39)) rfl 3 (by decide) (hts (.fieldLink RX7 142 "WordFletchers$Moment" "feathers" "[I") (List.mem_cons_of_mem _ (List.mem_append_left _ (List.mem_append_left _ (List.mem_append_left _ (List.mem_append_left _ (List.mem_of_getElem? (i := 1) rfl))))))) rfl dX7_plucks_26 ?_
          refine lv_iload_n hx hb dX7_plucks_29 rfl (lv_at hl 1 rfl) ?_
          refine kq_iald (i := 40) hx hb hK hP (isMo.l1 isMo_39) (n := 4) (cE_27 (isMo.s1 isMo_39)) (by decide) (Int.toNat fe) rfl (by omega) dX7_plucks_30 ?_
          refine W.eq (g2 := F0 m 31 ls [.int (iZ (V 40 (Int.toNat fe)))]) rfl ?_
          refine lv_bipush (v := iZ 20) hx hb dX7_plucks_31 (by decide) ?_
          refine z_icmp_lt (x := (V 40 (Int.toNat fe))) (y := 20) (tgt := 39) hx hb (by omega) (by omega) dX7_plucks_33 (by decide) (fun c5 => ?_) (fun c5 => ?_)
          · refine lv_aload_n hx hb dX7_plucks_39 rfl (lv_at hl 0 rfl) ?_
            refine kq_get (i := 0) hx hb hts hin_X7 hown hK hP (by decide) (cE_0 rfl) rfl 6 (by decide) (hts (.fieldLink RX7 46 "WordFletchers" "past" "LWordFletchers$Past;") (List.mem_cons_of_mem _ (List.mem_append_left _ (List.mem_append_left _ (List.mem_append_left _ (List.mem_append_left _ (List.mem_of_getElem? (i := 2) rfl))))))) rfl dX7_plucks_40 ?_
            refine lv_aload_n hx hb dX7_plucks_43 rfl (lv_at hl 0 rfl) ?_
            refine kq_get (i := 0) hx hb hts hin_X7 hown hK hP (by decide) (cE_0 rfl) rfl 5 (by decide) (hts (.fieldLink RX7 39 "WordFletchers" "moment" "LWordFletchers$Moment;") (List.mem_cons_of_mem _ (List.mem_append_left _ (List.mem_append_left _ (List.mem_append_left _ (List.mem_append_left _ (List.mem_of_getElem? (i := 0) rfl))))))) rfl dX7_plucks_44 ?_
            refine kq_cv (i := 31) (As := [.ref (a 39)]) (rest := []) ⟨hx, hb, hml, hown, hts⟩ hK hP hN hD hS (isPa.l0 isPa_31) (cE_23 (isPa.s0 isPa_31)) rfl (K_X3_remember l D C a b V 31 isPa_31 39 isMo_39 (by assumption) (hD.weaken (fun _ _ _ _ => trivial))) (cwV 1 hts gX7_plucks_X3_remember rfl rfl rfl (by decide +kernel) ⟨Nat.le_of_ble_eq_true rfl, Nat.le_of_ble_eq_true rfl⟩) rfl rfl hl.1 (Nat.le_of_ble_eq_true rfl) ⟨Nat.le_of_ble_eq_true rfl, Nat.le_of_ble_eq_true rfl⟩ dX7_plucks_47 (fun H locs hP hD hS => ?_)
            obtain ⟨V6, hV6⟩ : ∃ z : Nat → Nat → Int, z = (f_rem V 31 39) := ⟨_, rfl⟩
            rw [← hV6] at hP hD
            have e40 : V6 40 = V 40 := by rw [hV6]; exact f_rem_lo hpa (by omega)
            have e41 : V6 40 (Int.toNat fe) = V 40 (Int.toNat fe) := by rw [e40]
            refine lv_aload_n hx hb dX7_plucks_50 rfl (lv_at hl 0 rfl) ?_
            refine kq_get (i := 0) hx hb hts hin_X7 hown hK hP (by decide) (cE_0 rfl) rfl 5 (by decide) (hts (.fieldLink RX7 39 "WordFletchers" "moment" "LWordFletchers$Moment;") (List.mem_cons_of_mem _ (List.mem_append_left _ (List.mem_append_left _ (List.mem_append_left _ (List.mem_append_left _ (List.mem_of_getElem? (i := 0) rfl))))))) rfl dX7_plucks_51 ?_
            refine kq_get (i := 39) hx hb hts hin_X2 hown hK hP (isMo.l0 isMo_39) (cE_26 (isMo.s0 isMo_39)) rfl 3 (by decide) (hts (.fieldLink RX7 142 "WordFletchers$Moment" "feathers" "[I") (List.mem_cons_of_mem _ (List.mem_append_left _ (List.mem_append_left _ (List.mem_append_left _ (List.mem_append_left _ (List.mem_of_getElem? (i := 1) rfl))))))) rfl dX7_plucks_54 ?_
            refine lv_iload_n hx hb dX7_plucks_57 rfl (lv_at hl 1 rfl) ?_
            refine lv_bipush (v := iZ 20) hx hb dX7_plucks_58 (by decide) ?_
            refine W.eq (g2 := F0 m 60 ls [.int (iZ 20), .int (iZ fe), .ref (a 40)]) rfl ?_
            refine lv_aload_n hx hb dX7_plucks_60 rfl (lv_at hl 0 rfl) ?_
            refine kq_get (i := 0) hx hb hts hin_X7 hown hK hP (by decide) (cE_0 rfl) rfl 5 (by decide) (hts (.fieldLink RX7 39 "WordFletchers" "moment" "LWordFletchers$Moment;") (List.mem_cons_of_mem _ (List.mem_append_left _ (List.mem_append_left _ (List.mem_append_left _ (List.mem_append_left _ (List.mem_of_getElem? (i := 0) rfl))))))) rfl dX7_plucks_61 ?_
            refine kq_get (i := 39) hx hb hts hin_X2 hown hK hP (isMo.l0 isMo_39) (cE_26 (isMo.s0 isMo_39)) rfl 3 (by decide) (hts (.fieldLink RX7 142 "WordFletchers$Moment" "feathers" "[I") (List.mem_cons_of_mem _ (List.mem_append_left _ (List.mem_append_left _ (List.mem_append_left _ (List.mem_append_left _ (List.mem_of_getElem? (i := 1) rfl))))))) rfl dX7_plucks_64 ?_
            refine lv_iload_n hx hb dX7_plucks_67 rfl (lv_at hl 1 rfl) ?_
            refine kq_iald (i := 40) hx hb hK hP (isMo.l1 isMo_39) (n := 4) (cE_27 (isMo.s1 isMo_39)) (by decide) (Int.toNat fe) rfl (by omega) dX7_plucks_68 ?_
            refine lv_iload_n hx hb dX7_plucks_69 rfl (lv_at hl 2 rfl) ?_
            refine z_iadd hx hb dX7_plucks_70 ?_
            refine kq_min (x := 20) (y := ((V6 40 (Int.toNat fe)) + nn)) hx hb (hml.trans hl.1.symm) hown (hts (.methodLink RX7 180 Lib.Math.min.name) (List.mem_cons_of_mem _ (List.mem_append_left _ (List.mem_append_left _ (List.mem_append_left _ (List.mem_append_left _ (List.mem_of_getElem? (i := 3) rfl))))))) (hts (.static Lib.Math.min.name) (List.mem_cons_of_mem _ (List.mem_append_left _ (List.mem_append_left _ (List.mem_append_left _ (List.mem_append_left _ (List.mem_of_getElem? (i := 4) rfl))))))) (hts (.initialized "java/lang/Math") (List.mem_cons_of_mem _ (List.mem_append_left _ (List.mem_append_left _ (List.mem_append_left _ (List.mem_append_left _ (List.mem_of_getElem? (i := 5) rfl))))))) (hts (.code Lib.Math.min.name Lib.Math.min.code 2 (some .int)) (List.mem_cons_of_mem _ (List.mem_append_left _ (List.mem_append_left _ (List.mem_append_left _ (List.mem_append_left _ (List.mem_of_getElem? (i := 6) rfl))))))) (Nat.le_of_ble_eq_true rfl) (Nat.le_of_ble_eq_true rfl) (Nat.le_of_ble_eq_true rfl) (Nat.le_of_ble_eq_true rfl) (by omega) (by omega) dX7_plucks_71 ?_
            refine kq_iast (i := 40) hx hb hK hP hD hS (isMo.l1 isMo_39) (n := 4) (cE_27 (isMo.s1 isMo_39)) (by decide) (Int.toNat fe) rfl (by omega) dX7_plucks_74 (fun H locs hP hD hS => ?_)
            obtain ⟨V7, hV7⟩ : ∃ z : Nat → Nat → Int, z = (mU V6 40 (Int.toNat fe) (if ((V6 40 (Int.toNat fe)) + nn) < 20 then ((V6 40 (Int.toNat fe)) + nn) else 20)) := ⟨_, rfl⟩
            rw [← hV7] at hP hD
            have e2 : V7 40 (Int.toNat fe) = (if V6 40 (Int.toNat fe) + nn < 20 then V6 40 (Int.toNat fe) + nn else 20) := by rw [hV7, mU_eq]
            refine lv_aload_n hx hb dX7_plucks_75 rfl (lv_at hl 0 rfl) ?_
            refine kq_get (i := 0) hx hb hts hin_X7 hown hK hP (by decide) (cE_0 rfl) rfl 5 (by decide) (hts (.fieldLink RX7 39 "WordFletchers" "moment" "LWordFletchers$Moment;") (List.mem_cons_of_mem _ (List.mem_append_left _ (List.mem_append_left _ (List.mem_append_left _ (List.mem_append_left _ (List.mem_of_getElem? (i := 0) rfl))))))) rfl dX7_plucks_76 ?_
            refine kq_get (i := 39) hx hb hts hin_X2 hown hK hP (isMo.l0 isMo_39) (cE_26 (isMo.s0 isMo_39)) rfl 3 (by decide) (hts (.fieldLink RX7 142 "WordFletchers$Moment" "feathers" "[I") (List.mem_cons_of_mem _ (List.mem_append_left _ (List.mem_append_left _ (List.mem_append_left _ (List.mem_append_left _ (List.mem_of_getElem? (i := 1) rfl))))))) rfl dX7_plucks_79 ?_
            refine W.eq (g2 := F0 m 82 ls [.ref (a 40)]) rfl ?_
            refine lv_iload_n hx hb dX7_plucks_82 rfl (lv_at hl 1 rfl) ?_
            refine kq_iald (i := 40) hx hb hK hP (isMo.l1 isMo_39) (n := 4) (cE_27 (isMo.s1 isMo_39)) (by decide) (Int.toNat fe) rfl (by omega) dX7_plucks_83 ?_
            exact kq_retM hx hb hK hP hS hr rfl (by first | omega | rfl | ((repeat' split) <;> first | rfl | omega) | (subst_vars; first | rfl | omega | ((repeat' split) <;> first | rfl | omega))) (by subst_vars; first | rfl | exact (if_pos (by omega)).symm | exact (if_neg (by omega)).symm | (rw [if_pos (by omega)]; done) | (rw [if_neg (by omega)]; done) | (rw [if_pos (by omega)]; rfl) | (rw [if_neg (by omega)]; rfl)) dX7_plucks_84 hlocks
          · refine lv_bipush (v := iZ (-2)) hx hb dX7_plucks_36 (by decide) ?_
            exact kq_retM hx hb hK hP hS hr rfl (by first | omega | rfl | ((repeat' split) <;> first | rfl | omega) | (subst_vars; first | rfl | omega | ((repeat' split) <;> first | rfl | omega))) (by subst_vars; first | rfl | exact (if_pos (by omega)).symm | exact (if_neg (by omega)).symm | (rw [if_pos (by omega)]; done) | (rw [if_neg (by omega)]; done) | (rw [if_pos (by omega)]; rfl) | (rw [if_neg (by omega)]; rfl)) dX7_plucks_38 hlocks
        · refine lv_iconst (v := iZ (-1)) hx hb dX7_plucks_20 (by decide) ?_
          exact kq_retM hx hb hK hP hS hr rfl (by first | omega | rfl | ((repeat' split) <;> first | rfl | omega) | (subst_vars; first | rfl | omega | ((repeat' split) <;> first | rfl | omega))) (by subst_vars; first | rfl | exact (if_pos (by omega)).symm | exact (if_neg (by omega)).symm | (rw [if_pos (by omega)]; done) | (rw [if_neg (by omega)]; done) | (rw [if_pos (by omega)]; rfl) | (rw [if_neg (by omega)]; rfl)) dX7_plucks_21 hlocks
set_option maxHeartbeats 4000000 in
set_option maxRecDepth 100000 in
theorem K_X7_keep (l : Launch) (D : va_G) (C : cC) (a b : Nat → Nat) (V : Nat → Nat → Int) (im : Int) (h1 : -2147483648 ≤ im ∧ im < 2147483648) (hpa : paI V 31) (hpi : ∀ q : Nat, isIm q → paI V (33 + 2 * (q - 37))) (hDD : va_D (fun _ => True) (cW C a V)) : Met l yX7_keep wsX7_keep ({ frames := 4, cells := 0, slots := 0, locals := 113 }) (va_Pc [.ref (a 0), .int (iZ im)] (cOk D C a b V)) (va_Qi (fun r (_ : Unit) => r = iZ (if 0 ≤ im ∧ im < 2 then V 39 0 else -1)) (fun _ t => cPo D C a (if 0 ≤ im ∧ im < 2 then f_tak V (37 + Int.toNat im) 39 31 else V) t) (cA a)) 0 0 (cA a) := by
  refine Met.ofW (cc := cX7_keep) (maxL := 2) (ret := (some .int)) (by decide) rfl ?_
  intro p e s m args below meth c s₁ B hml hv
  obtain ⟨rfl, hP, hK, hN⟩ := hv
  have hx := B.exec
  have hb := B.bytes
  have hr := B.returns
  have hts := atoms_spec (ws := wsX7_keep) B.pre
  have hown : s.vm.findClass RX7 = some m.cls := findClass_of_methodNamed B.named
  have hlocks := B.notSynchronized
  have hin_X7 : ∀ w ∈ wsX70, w ∈ wsX7_keep := fun _ w_h => (List.mem_cons_of_mem _ (List.mem_append_left _ (List.mem_append_left _ (List.mem_append_left _ (List.mem_append_right _ w_h)))))
  have hin_X2 : ∀ w ∈ wsX20, w ∈ wsX7_keep := fun _ w_h => (List.mem_cons_of_mem _ (List.mem_append_left _ (List.mem_append_left _ (List.mem_append_right _ w_h))))
  have hin_X1 : ∀ w ∈ wsX10, w ∈ wsX7_keep := fun _ w_h => (List.mem_cons_of_mem _ (List.mem_append_left _ (List.mem_append_right _ w_h)))
  have hin_X3 : ∀ w ∈ wsX30, w ∈ wsX7_keep := fun _ w_h => (List.mem_cons_of_mem _ (List.mem_append_right _ w_h))
  have hl := lv_entry ([.ref (a 0), .int (iZ im)]) (n := 2) (Nat.le_of_ble_eq_true rfl)
  rw [lg_entry_eq]
  generalize (lg_sl ([.ref (a 0), .int (iZ im)]) ++ List.replicate (2 - (lg_sl ([.ref (a 0), .int (iZ im)])).length) Slot.unset).toArray = ls at hl ⊢
  replace hl : lv_has ls 2 [(0, .ref (a 0)), (1, .int (iZ im))] := hl
  have hD : va_D (cA a) (cW C a V) := cD_own hDD
  generalize hHe : s.heap = H at hP ⊢
  have hS : va_S (cA a) s.heap H [] := by rw [hHe]; exact va_S.rf
  generalize hlo : ([] : List Loc) = locs at hS ⊢
  clear hHe hlo
  refine lv_iload_n hx hb dX7_keep_0 rfl (lv_at hl 1 rfl) ?_
  refine z_if_lt (x := im) (tgt := 9) hx hb (by omega) dX7_keep_1 (by decide) (fun c1 => ?_) (fun c1 => ?_)
  · refine lv_iconst (v := iZ (-1)) hx hb dX7_keep_9 (by decide) ?_
    exact kq_retM hx hb hK hP hS hr rfl (by first | omega | rfl | ((repeat' split) <;> first | rfl | omega) | (subst_vars; first | rfl | omega | ((repeat' split) <;> first | rfl | omega))) (by subst_vars; first | rfl | exact (if_pos (by omega)).symm | exact (if_neg (by omega)).symm | (rw [if_pos (by omega)]; done) | (rw [if_neg (by omega)]; done) | (rw [if_pos (by omega)]; rfl) | (rw [if_neg (by omega)]; rfl)) dX7_keep_10 hlocks
  · refine lv_iload_n hx hb dX7_keep_4 rfl (lv_at hl 1 rfl) ?_
    refine W.eq (g2 := F0 m 5 ls [.int (iZ im)]) rfl ?_
    refine lv_iconst (v := iZ 2) hx hb dX7_keep_5 (by decide) ?_
    refine z_icmp_lt (x := im) (y := 2) (tgt := 11) hx hb (by omega) (by omega) dX7_keep_6 (by decide) (fun c2 => ?_) (fun c2 => ?_)
    · refine lv_aload_n hx hb dX7_keep_11 rfl (lv_at hl 0 rfl) ?_
      refine kq_get (i := 0) hx hb hts hin_X7 hown hK hP (by decide) (cE_0 rfl) rfl 7 (by decide) (hts (.fieldLink RX7 52 "WordFletchers" "images" "[LWordFletchers$Image;") (List.mem_cons_of_mem _ (List.mem_append_left _ (List.mem_append_left _ (List.mem_append_left _ (List.mem_append_left _ (List.mem_append_left _ (List.mem_of_getElem? (i := 0) rfl)))))))) rfl dX7_keep_12 ?_
      refine lv_iload_n hx hb dX7_keep_15 rfl (lv_at hl 1 rfl) ?_
      refine kq_aldI hx hb hK hP (Int.toNat im) rfl (by omega) dX7_keep_16 ?_
      refine lv_aload_n hx hb dX7_keep_17 rfl (lv_at hl 0 rfl) ?_
      refine kq_get (i := 0) hx hb hts hin_X7 hown hK hP (by decide) (cE_0 rfl) rfl 5 (by decide) (hts (.fieldLink RX7 39 "WordFletchers" "moment" "LWordFletchers$Moment;") (List.mem_cons_of_mem _ (List.mem_append_left _ (List.mem_append_left _ (List.mem_append_left _ (List.mem_append_left _ (List.mem_append_left _ (List.mem_of_getElem? (i := 1) rfl)))))))) rfl dX7_keep_18 ?_
      refine lv_aload_n hx hb dX7_keep_21 rfl (lv_at hl 0 rfl) ?_
      refine kq_get (i := 0) hx hb hts hin_X7 hown hK hP (by decide) (cE_0 rfl) rfl 6 (by decide) (hts (.fieldLink RX7 46 "WordFletchers" "past" "LWordFletchers$Past;") (List.mem_cons_of_mem _ (List.mem_append_left _ (List.mem_append_left _ (List.mem_append_left _ (List.mem_append_left _ (List.mem_append_left _ (List.mem_of_getElem? (i := 2) rfl)))))))) rfl dX7_keep_22 ?_
      refine kq_cv (i := (37 + (Int.toNat im))) (As := [.ref (a 39), .ref (a 31)]) (rest := []) ⟨hx, hb, hml, hown, hts⟩ hK hP hN hD hS (isIm.l0 (isIm_of (by omega))) (cE_25 (isIm.s0 (isIm_of (by omega)))) rfl (K_X1_take l D C a b V (37 + (Int.toNat im)) (isIm_of (by omega)) 39 isMo_39 31 isPa_31 (hpi _ (isIm_of (by omega))) (by assumption) rfl (hD.weaken (fun _ _ _ _ => trivial))) (cwV 2 hts gX7_keep_X1_take rfl rfl rfl (by decide +kernel) ⟨Nat.le_of_ble_eq_true rfl, Nat.le_of_ble_eq_true rfl⟩) rfl rfl hl.1 (Nat.le_of_ble_eq_true rfl) ⟨Nat.le_of_ble_eq_true rfl, Nat.le_of_ble_eq_true rfl⟩ dX7_keep_25 (fun H locs hP hD hS => ?_)
      obtain ⟨V3, hV3⟩ : ∃ z : Nat → Nat → Int, z = (f_tak V (37 + (Int.toNat im)) 39 31) := ⟨_, rfl⟩
      rw [← hV3] at hP hD
      have e39 : V3 39 0 = V 39 0 := by rw [hV3]; exact congrFun (f_tak_39 (isIm_of (by omega)) hpa (hpi _ (isIm_of (by omega)))) 0
      refine lv_aload_n hx hb dX7_keep_28 rfl (lv_at hl 0 rfl) ?_
      refine W.eq (g2 := F0 m 29 ls [.ref (a 0)]) rfl ?_
      refine kq_get (i := 0) hx hb hts hin_X7 hown hK hP (by decide) (cE_0 rfl) rfl 5 (by decide) (hts (.fieldLink RX7 39 "WordFletchers" "moment" "LWordFletchers$Moment;") (List.mem_cons_of_mem _ (List.mem_append_left _ (List.mem_append_left _ (List.mem_append_left _ (List.mem_append_left _ (List.mem_append_left _ (List.mem_of_getElem? (i := 1) rfl)))))))) rfl dX7_keep_29 ?_
      refine kq_get (i := 39) hx hb hts hin_X2 hown hK hP (isMo.l0 isMo_39) (cE_26 (isMo.s0 isMo_39)) rfl 0 (by decide) (hts (.fieldLink RX7 174 "WordFletchers$Moment" "hour" "I") (List.mem_cons_of_mem _ (List.mem_append_left _ (List.mem_append_left _ (List.mem_append_left _ (List.mem_append_left _ (List.mem_append_left _ (List.mem_of_getElem? (i := 3) rfl)))))))) rfl dX7_keep_32 ?_
      exact kq_retM hx hb hK hP hS hr rfl (by first | omega | rfl | ((repeat' split) <;> first | rfl | omega) | (subst_vars; first | rfl | omega | ((repeat' split) <;> first | rfl | omega))) (by subst_vars; first | rfl | exact (if_pos (by omega)).symm | exact (if_neg (by omega)).symm | (rw [if_pos (by omega)]; done) | (rw [if_neg (by omega)]; done) | (rw [if_pos (by omega)]; rfl) | (rw [if_neg (by omega)]; rfl)) dX7_keep_35 hlocks
    · refine lv_iconst (v := iZ (-1)) hx hb dX7_keep_9 (by decide) ?_
      exact kq_retM hx hb hK hP hS hr rfl (by first | omega | rfl | ((repeat' split) <;> first | rfl | omega) | (subst_vars; first | rfl | omega | ((repeat' split) <;> first | rfl | omega))) (by subst_vars; first | rfl | exact (if_pos (by omega)).symm | exact (if_neg (by omega)).symm | (rw [if_pos (by omega)]; done) | (rw [if_neg (by omega)]; done) | (rw [if_pos (by omega)]; rfl) | (rw [if_neg (by omega)]; rfl)) dX7_keep_10 hlocks
