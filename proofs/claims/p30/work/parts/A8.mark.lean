set_option maxHeartbeats 4000000 in
set_option maxRecDepth 100000 in
theorem K_X7_markOfOne (l : Launch) (D : va_G) (C : cC) (a b : Nat → Nat) (V : Nat → Nat → Int) (pe : Int) (hI : cI V) (h1 : 0 ≤ pe ∧ pe < V (Int.toNat (V 0 3)) 7) (hDD : va_D (fun _ => True) (cW C a V)) : Met l yX7_markOfOne wsX7_markOfOne ({ frames := 0, cells := 0, slots := 0, locals := 0 }) (va_Pc [.ref (a 0), .int (iZ pe)] (cOk D C a b V)) (va_Qi (fun r (_ : Unit) => r = iZ (c_m1 V pe)) (fun _ t => cPo D C a (f_tr V 1) t) (cA a)) 0 0 (cA a) := by
  refine Met.ofW (cc := cX7_markOfOne) (maxL := 2) (ret := (some .int)) (by decide) rfl ?_
  intro p e s m args below meth c s₁ B hml hv
  obtain ⟨rfl, hP, hK, hN⟩ := hv
  have hx := B.exec
  have hb := B.bytes
  have hr := B.returns
  have hts := atoms_spec (ws := wsX7_markOfOne) B.pre
  have hown : s.vm.findClass RX7 = some m.cls := findClass_of_methodNamed B.named
  have hlocks := B.notSynchronized
  have hin_X7 : ∀ w ∈ wsX70, w ∈ wsX7_markOfOne := fun _ w_h => (List.mem_cons_of_mem _ (List.mem_append_left _ (List.mem_append_right _ w_h)))
  have hin_X6 : ∀ w ∈ wsX60, w ∈ wsX7_markOfOne := fun _ w_h => (List.mem_cons_of_mem _ (List.mem_append_right _ w_h))
  have hl := lv_entry ([.ref (a 0), .int (iZ pe)]) (n := 2) (Nat.le_of_ble_eq_true rfl)
  rw [lg_entry_eq]
  generalize (lg_sl ([.ref (a 0), .int (iZ pe)]) ++ List.replicate (2 - (lg_sl ([.ref (a 0), .int (iZ pe)])).length) Slot.unset).toArray = ls at hl ⊢
  replace hl : lv_has ls 2 [(0, .ref (a 0)), (1, .int (iZ pe))] := hl
  have hD : va_D (cA a) (cW C a V) := cD_own hDD
  generalize hHe : s.heap = H at hP ⊢
  have hS : va_S (cA a) s.heap H [] := by rw [hHe]; exact va_S.rf
  generalize hlo : ([] : List Loc) = locs at hS ⊢
  clear hHe hlo
  obtain ⟨hto, hto4, hne, htx, hT, hM, hpa, hpi, hki, hsz, hsg, hby⟩ := id hI
  have hnt := hT.now
  have hnm := hM.now
  have hq1 := hT.pe h1
  refine lv_aload_n hx hb dX7_markOfOne_0 rfl (lv_at hl 0 rfl) ?_
  refine lv_dup hx hb dX7_markOfOne_1 rfl ?_
  refine kq_get (i := 0) hx hb hts hin_X7 hown hK hP (by decide) (cE_0 rfl) rfl 12 (by decide) (hts (.fieldLink RX7 76 "WordFletchers" "traced" "J") (List.mem_cons_of_mem _ (List.mem_append_left _ (List.mem_append_left _ (List.mem_of_getElem? (i := 0) rfl))))) rfl dX7_markOfOne_2 ?_
  refine lv_lconst (v := iL 1) hx hb dX7_markOfOne_5 (by decide) ?_
  refine z_ladd hx hb dX7_markOfOne_6 ?_
  refine kq_putL (ty := .long) (i := 0) hx hb hts hin_X7 hown tyX7 tyX7_ok nmX7 hK hP hD hS (by decide) (cE_0 rfl) rfl 12 (by decide) (hts (.fieldLink RX7 76 "WordFletchers" "traced" "J") (List.mem_cons_of_mem _ (List.mem_append_left _ (List.mem_append_left _ (List.mem_of_getElem? (i := 0) rfl))))) rfl (by decide +kernel) rfl rfl (Nat.le_of_ble_eq_true rfl) rfl dX7_markOfOne_7 (fun H locs hP hD hS => ?_)
  obtain ⟨V1, hV1⟩ : ∃ z : Nat → Nat → Int, z = (mU V 0 12 ((V 0 12) + 1)) := ⟨_, rfl⟩
  rw [← hV1] at hP hD
  have t3 : V1 0 3 = V 0 3 := by rw [hV1]; rfl
  have hto2 : isTo (Int.toNat (V1 0 3)) := by rw [t3]; exact hto
  have hr1 : V1 = f_tr V 1 := hV1
  refine lv_aload_n hx hb dX7_markOfOne_10 rfl (lv_at hl 0 rfl) ?_
  refine kq_get (i := 0) hx hb hts hin_X7 hown hK hP (by decide) (cE_0 rfl) rfl 3 (by decide) (hts (.fieldLink RX7 29 "WordFletchers" "told" "LWordFletchers$Told;") (List.mem_cons_of_mem _ (List.mem_append_left _ (List.mem_append_left _ (List.mem_of_getElem? (i := 1) rfl))))) rfl dX7_markOfOne_11 ?_
  refine kq_get (i := (Int.toNat (V1 0 3))) hx hb hts hin_X6 hown hK hP (isTo.l0 (by assumption)) (cE_15 (isTo.s0 (by assumption))) rfl 0 (by decide) (hts (.fieldLink RX7 96 "WordFletchers$Told" "place" "[I") (List.mem_cons_of_mem _ (List.mem_append_left _ (List.mem_append_left _ (List.mem_of_getElem? (i := 2) rfl))))) rfl dX7_markOfOne_14 ?_
  refine lv_iload_n hx hb dX7_markOfOne_17 rfl (lv_at hl 1 rfl) ?_
  refine W.eq (g2 := F0 m 18 ls [.int (iZ pe), .ref (a ((Int.toNat (V1 0 3)) + 1))]) rfl ?_
  refine kq_iald (i := ((Int.toNat (V1 0 3)) + 1)) hx hb hK hP (isTo.l1 (by assumption)) (n := 6) (cE_16 (isTo.s1 (by assumption))) (by decide) (Int.toNat pe) rfl (by omega) dX7_markOfOne_18 ?_
  exact kq_retM hx hb hK hP hS hr rfl (by rw [hr1]; exact c_m1_tr V 1 pe) (by rw [hr1]) dX7_markOfOne_19 hlocks
set_option maxHeartbeats 4000000 in
set_option maxRecDepth 100000 in
theorem K_X7_markOfSuitor (l : Launch) (D : va_G) (C : cC) (a b : Nat → Nat) (V : Nat → Nat → Int) (pe : Int) (hI : cI V) (h1 : 0 ≤ pe ∧ pe < V (Int.toNat (V 0 3)) 7) (hDD : va_D (fun _ => True) (cW C a V)) : Met l yX7_markOfSuitor wsX7_markOfSuitor ({ frames := 1, cells := 0, slots := 0, locals := 21 }) (va_Pc [.ref (a 0), .int (iZ pe)] (cOk D C a b V)) (va_Qi (fun r (_ : Unit) => r = iZ (c_m2 V pe)) (fun _ t => cPo D C a (f_tr V 11) t) (cA a)) 0 0 (cA a) := by
  refine Met.ofW (cc := cX7_markOfSuitor) (maxL := 2) (ret := (some .int)) (by decide) rfl ?_
  intro p e s m args below meth c s₁ B hml hv
  obtain ⟨rfl, hP, hK, hN⟩ := hv
  have hx := B.exec
  have hb := B.bytes
  have hr := B.returns
  have hts := atoms_spec (ws := wsX7_markOfSuitor) B.pre
  have hown : s.vm.findClass RX7 = some m.cls := findClass_of_methodNamed B.named
  have hlocks := B.notSynchronized
  have hin_X7 : ∀ w ∈ wsX70, w ∈ wsX7_markOfSuitor := fun _ w_h => (List.mem_cons_of_mem _ (List.mem_append_left _ (List.mem_append_left _ (List.mem_append_right _ w_h))))
  have hin_X2 : ∀ w ∈ wsX20, w ∈ wsX7_markOfSuitor := fun _ w_h => (List.mem_cons_of_mem _ (List.mem_append_left _ (List.mem_append_right _ w_h)))
  have hin_X6 : ∀ w ∈ wsX60, w ∈ wsX7_markOfSuitor := fun _ w_h => (List.mem_cons_of_mem _ (List.mem_append_right _ w_h))
  have hl := lv_entry ([.ref (a 0), .int (iZ pe)]) (n := 2) (Nat.le_of_ble_eq_true rfl)
  rw [lg_entry_eq]
  generalize (lg_sl ([.ref (a 0), .int (iZ pe)]) ++ List.replicate (2 - (lg_sl ([.ref (a 0), .int (iZ pe)])).length) Slot.unset).toArray = ls at hl ⊢
  replace hl : lv_has ls 2 [(0, .ref (a 0)), (1, .int (iZ pe))] := hl
  have hD : va_D (cA a) (cW C a V) := cD_own hDD
  generalize hHe : s.heap = H at hP ⊢
  have hS : va_S (cA a) s.heap H [] := by rw [hHe]; exact va_S.rf
  generalize hlo : ([] : List Loc) = locs at hS ⊢
  clear hHe hlo
  obtain ⟨hto, hto4, hne, htx, hT, hM, hpa, hpi, hki, hsz, hsg, hby⟩ := id hI
  have hnt := hT.now
  have hnm := hM.now
  have hq1 := hT.pe h1
  refine lv_aload_n hx hb dX7_markOfSuitor_0 rfl (lv_at hl 0 rfl) ?_
  refine lv_dup hx hb dX7_markOfSuitor_1 rfl ?_
  refine kq_get (i := 0) hx hb hts hin_X7 hown hK hP (by decide) (cE_0 rfl) rfl 12 (by decide) (hts (.fieldLink RX7 76 "WordFletchers" "traced" "J") (List.mem_cons_of_mem _ (List.mem_append_left _ (List.mem_append_left _ (List.mem_append_left _ (List.mem_of_getElem? (i := 0) rfl)))))) rfl dX7_markOfSuitor_2 ?_
  refine z_ldc2_w (n := 10) hx hb hown (hts (.constantLong RX7 342 (10)) (List.mem_cons_of_mem _ (List.mem_append_left _ (List.mem_append_left _ (List.mem_append_left _ (List.mem_of_getElem? (i := 1) rfl)))))) (by decide) dX7_markOfSuitor_5 ?_
  refine z_ladd hx hb dX7_markOfSuitor_8 ?_
  refine kq_putL (ty := .long) (i := 0) hx hb hts hin_X7 hown tyX7 tyX7_ok nmX7 hK hP hD hS (by decide) (cE_0 rfl) rfl 12 (by decide) (hts (.fieldLink RX7 76 "WordFletchers" "traced" "J") (List.mem_cons_of_mem _ (List.mem_append_left _ (List.mem_append_left _ (List.mem_append_left _ (List.mem_of_getElem? (i := 0) rfl)))))) rfl (by decide +kernel) rfl rfl (Nat.le_of_ble_eq_true rfl) rfl dX7_markOfSuitor_9 (fun H locs hP hD hS => ?_)
  obtain ⟨V1, hV1⟩ : ∃ z : Nat → Nat → Int, z = (mU V 0 12 ((V 0 12) + 10)) := ⟨_, rfl⟩
  rw [← hV1] at hP hD
  have r1 : V1 = f_tr V 10 := hV1
  have hI_V1 : cI V1 := by rw [r1]; exact cI_tr hI _
  have hM_V1 : moI V1 39 := by rw [r1]; exact hM.of rfl rfl rfl rfl rfl
  refine lv_aload_n hx hb dX7_markOfSuitor_12 rfl (lv_at hl 0 rfl) ?_
  refine lv_iload_n hx hb dX7_markOfSuitor_13 rfl (lv_at hl 1 rfl) ?_
  refine kq_cm (i := 0) (As := [.int (iZ pe)]) (rest := []) ⟨hx, hb, hml, hown, hts⟩ hK hP hN hD hS (by decide) (cE_0 rfl) rfl (K_X7_markOfOne l D C a b V1 pe hI_V1 (by rw [r1]; exact f_tr_pe h1) (hD.weaken (fun _ _ _ _ => trivial))) (cwV 1 hts gX7_markOfSuitor_X7_markOfOne rfl rfl rfl (by decide +kernel) ⟨Nat.le_of_ble_eq_true rfl, Nat.le_of_ble_eq_true rfl⟩) rfl rfl hl.1 (Nat.le_of_ble_eq_true rfl) ⟨Nat.le_of_ble_eq_true rfl, Nat.le_of_ble_eq_true rfl⟩ dX7_markOfSuitor_14 (fun H locs hP hD hS => ?_)
  obtain ⟨V2, hV2⟩ : ∃ z : Nat → Nat → Int, z = (f_tr V1 1) := ⟨_, rfl⟩
  rw [← hV2] at hP hD
  have r2 : V2 = f_tr V 11 := by rw [hV2, r1]; exact f_tr_tr V 10 1
  have hM_V2 : moI V2 39 := by rw [r2]; exact hM.of rfl rfl rfl rfl rfl
  refine lv_aload_n hx hb dX7_markOfSuitor_17 rfl (lv_at hl 0 rfl) ?_
  refine W.eq (g2 := F0 m 18 ls [.ref (a 0), .int (iZ (c_m1 V1 pe))]) rfl ?_
  refine kq_get (i := 0) hx hb hts hin_X7 hown hK hP (by decide) (cE_0 rfl) rfl 5 (by decide) (hts (.fieldLink RX7 39 "WordFletchers" "moment" "LWordFletchers$Moment;") (List.mem_cons_of_mem _ (List.mem_append_left _ (List.mem_append_left _ (List.mem_append_left _ (List.mem_of_getElem? (i := 2) rfl)))))) rfl dX7_markOfSuitor_18 ?_
  refine kq_get (i := 39) hx hb hts hin_X2 hown hK hP (isMo.l0 isMo_39) (cE_26 (isMo.s0 isMo_39)) rfl 4 (by decide) (hts (.fieldLink RX7 102 "WordFletchers$Moment" "knows" "[I") (List.mem_cons_of_mem _ (List.mem_append_left _ (List.mem_append_left _ (List.mem_append_left _ (List.mem_of_getElem? (i := 3) rfl)))))) rfl dX7_markOfSuitor_21 ?_
  refine lv_iload_n hx hb dX7_markOfSuitor_24 rfl (lv_at hl 1 rfl) ?_
  refine kq_iald (i := 41) hx hb hK hP (isMo.l2 isMo_39) (n := 6) (cE_28 (isMo.s2 isMo_39)) (by decide) (Int.toNat pe) rfl (by omega) dX7_markOfSuitor_25 ?_
  refine kq_cs (As := [.int (iZ (V2 41 (Int.toNat pe)))]) (rest := [.int (iZ (c_m1 V1 pe))]) ⟨hx, hb, hml, hown, hts⟩ (K_J6_bitCount_0f7a4 l (V2 41 (Int.toNat pe)) ) (va_cwS 1 hts gX7_markOfSuitor_J6_bitCount_0f7a4 rfl rfl rfl (by decide +kernel) ⟨Nat.le_of_ble_eq_true rfl, Nat.le_of_ble_eq_true rfl⟩) rfl rfl hl.1 (Nat.le_of_ble_eq_true rfl) ⟨Nat.le_of_ble_eq_true rfl, Nat.le_of_ble_eq_true rfl⟩ dX7_markOfSuitor_26 ?_
  have hbc := zbc_bd (V2 41 (Int.toNat pe))
  refine z_iadd hx hb dX7_markOfSuitor_29 ?_
  exact kq_retM hx hb hK hP hS hr rfl (by (try rw [r2]); (try rw [r1]); exact c_m2_trr V _ _ pe) (by rw [r2]) dX7_markOfSuitor_30 hlocks
set_option maxHeartbeats 4000000 in
set_option maxRecDepth 100000 in
theorem K_X7_markOfLiar (l : Launch) (D : va_G) (C : cC) (a b : Nat → Nat) (V : Nat → Nat → Int) (pe : Int) (hI : cI V) (h1 : 0 ≤ pe ∧ pe < V (Int.toNat (V 0 3)) 7) (hDD : va_D (fun _ => True) (cW C a V)) : Met l yX7_markOfLiar wsX7_markOfLiar ({ frames := 1, cells := 0, slots := 0, locals := 21 }) (va_Pc [.ref (a 0), .int (iZ pe)] (cOk D C a b V)) (va_Qi (fun r (_ : Unit) => r = iZ (c_m3 V pe)) (fun _ t => cPo D C a (f_tr V 101) t) (cA a)) 0 0 (cA a) := by
  refine Met.ofW (cc := cX7_markOfLiar) (maxL := 2) (ret := (some .int)) (by decide) rfl ?_
  intro p e s m args below meth c s₁ B hml hv
  obtain ⟨rfl, hP, hK, hN⟩ := hv
  have hx := B.exec
  have hb := B.bytes
  have hr := B.returns
  have hts := atoms_spec (ws := wsX7_markOfLiar) B.pre
  have hown : s.vm.findClass RX7 = some m.cls := findClass_of_methodNamed B.named
  have hlocks := B.notSynchronized
  have hin_X7 : ∀ w ∈ wsX70, w ∈ wsX7_markOfLiar := fun _ w_h => (List.mem_cons_of_mem _ (List.mem_append_left _ (List.mem_append_left _ (List.mem_append_right _ w_h))))
  have hin_X2 : ∀ w ∈ wsX20, w ∈ wsX7_markOfLiar := fun _ w_h => (List.mem_cons_of_mem _ (List.mem_append_left _ (List.mem_append_right _ w_h)))
  have hin_X6 : ∀ w ∈ wsX60, w ∈ wsX7_markOfLiar := fun _ w_h => (List.mem_cons_of_mem _ (List.mem_append_right _ w_h))
  have hl := lv_entry ([.ref (a 0), .int (iZ pe)]) (n := 2) (Nat.le_of_ble_eq_true rfl)
  rw [lg_entry_eq]
  generalize (lg_sl ([.ref (a 0), .int (iZ pe)]) ++ List.replicate (2 - (lg_sl ([.ref (a 0), .int (iZ pe)])).length) Slot.unset).toArray = ls at hl ⊢
  replace hl : lv_has ls 2 [(0, .ref (a 0)), (1, .int (iZ pe))] := hl
  have hD : va_D (cA a) (cW C a V) := cD_own hDD
  generalize hHe : s.heap = H at hP ⊢
  have hS : va_S (cA a) s.heap H [] := by rw [hHe]; exact va_S.rf
  generalize hlo : ([] : List Loc) = locs at hS ⊢
  clear hHe hlo
  obtain ⟨hto, hto4, hne, htx, hT, hM, hpa, hpi, hki, hsz, hsg, hby⟩ := id hI
  have hnt := hT.now
  have hnm := hM.now
  have hq1 := hT.pe h1
  refine lv_aload_n hx hb dX7_markOfLiar_0 rfl (lv_at hl 0 rfl) ?_
  refine lv_dup hx hb dX7_markOfLiar_1 rfl ?_
  refine kq_get (i := 0) hx hb hts hin_X7 hown hK hP (by decide) (cE_0 rfl) rfl 12 (by decide) (hts (.fieldLink RX7 76 "WordFletchers" "traced" "J") (List.mem_cons_of_mem _ (List.mem_append_left _ (List.mem_append_left _ (List.mem_append_left _ (List.mem_of_getElem? (i := 0) rfl)))))) rfl dX7_markOfLiar_2 ?_
  refine z_ldc2_w (n := 100) hx hb hown (hts (.constantLong RX7 344 (100)) (List.mem_cons_of_mem _ (List.mem_append_left _ (List.mem_append_left _ (List.mem_append_left _ (List.mem_of_getElem? (i := 1) rfl)))))) (by decide) dX7_markOfLiar_5 ?_
  refine z_ladd hx hb dX7_markOfLiar_8 ?_
  refine W.eq (g2 := F0 m 9 ls [.long (iL ((V 0 12) + 100)), .ref (a 0)]) rfl ?_
  refine kq_putL (ty := .long) (i := 0) hx hb hts hin_X7 hown tyX7 tyX7_ok nmX7 hK hP hD hS (by decide) (cE_0 rfl) rfl 12 (by decide) (hts (.fieldLink RX7 76 "WordFletchers" "traced" "J") (List.mem_cons_of_mem _ (List.mem_append_left _ (List.mem_append_left _ (List.mem_append_left _ (List.mem_of_getElem? (i := 0) rfl)))))) rfl (by decide +kernel) rfl rfl (Nat.le_of_ble_eq_true rfl) rfl dX7_markOfLiar_9 (fun H locs hP hD hS => ?_)
  obtain ⟨V1, hV1⟩ : ∃ z : Nat → Nat → Int, z = (mU V 0 12 ((V 0 12) + 100)) := ⟨_, rfl⟩
  rw [← hV1] at hP hD
  have r1 : V1 = f_tr V 100 := hV1
  have hI_V1 : cI V1 := by rw [r1]; exact cI_tr hI _
  have hM_V1 : moI V1 39 := by rw [r1]; exact hM.of rfl rfl rfl rfl rfl
  refine lv_aload_n hx hb dX7_markOfLiar_12 rfl (lv_at hl 0 rfl) ?_
  refine lv_iload_n hx hb dX7_markOfLiar_13 rfl (lv_at hl 1 rfl) ?_
  refine kq_cm (i := 0) (As := [.int (iZ pe)]) (rest := []) ⟨hx, hb, hml, hown, hts⟩ hK hP hN hD hS (by decide) (cE_0 rfl) rfl (K_X7_markOfOne l D C a b V1 pe hI_V1 (by rw [r1]; exact f_tr_pe h1) (hD.weaken (fun _ _ _ _ => trivial))) (cwV 1 hts gX7_markOfLiar_X7_markOfOne rfl rfl rfl (by decide +kernel) ⟨Nat.le_of_ble_eq_true rfl, Nat.le_of_ble_eq_true rfl⟩) rfl rfl hl.1 (Nat.le_of_ble_eq_true rfl) ⟨Nat.le_of_ble_eq_true rfl, Nat.le_of_ble_eq_true rfl⟩ dX7_markOfLiar_14 (fun H locs hP hD hS => ?_)
  obtain ⟨V2, hV2⟩ : ∃ z : Nat → Nat → Int, z = (f_tr V1 1) := ⟨_, rfl⟩
  rw [← hV2] at hP hD
  have r2 : V2 = f_tr V 101 := by rw [hV2, r1]; exact f_tr_tr V 100 1
  have hM_V2 : moI V2 39 := by rw [r2]; exact hM.of rfl rfl rfl rfl rfl
  refine lv_aload_n hx hb dX7_markOfLiar_17 rfl (lv_at hl 0 rfl) ?_
  refine kq_get (i := 0) hx hb hts hin_X7 hown hK hP (by decide) (cE_0 rfl) rfl 5 (by decide) (hts (.fieldLink RX7 39 "WordFletchers" "moment" "LWordFletchers$Moment;") (List.mem_cons_of_mem _ (List.mem_append_left _ (List.mem_append_left _ (List.mem_append_left _ (List.mem_of_getElem? (i := 2) rfl)))))) rfl dX7_markOfLiar_18 ?_
  refine kq_get (i := 39) hx hb hts hin_X2 hown hK hP (isMo.l0 isMo_39) (cE_26 (isMo.s0 isMo_39)) rfl 1 (by decide) (hts (.fieldLink RX7 177 "WordFletchers$Moment" "damp" "I") (List.mem_cons_of_mem _ (List.mem_append_left _ (List.mem_append_left _ (List.mem_append_left _ (List.mem_of_getElem? (i := 3) rfl)))))) rfl dX7_markOfLiar_21 ?_
  refine z_isub hx hb dX7_markOfLiar_24 ?_
  exact kq_retM hx hb hK hP hS hr rfl (by (try rw [r2]); (try rw [r1]); exact c_m3_trr V _ _ pe) (by rw [r2]) dX7_markOfLiar_25 hlocks
set_option maxHeartbeats 4000000 in
set_option maxRecDepth 100000 in
theorem K_X7_markOfPoet (l : Launch) (D : va_G) (C : cC) (a b : Nat → Nat) (V : Nat → Nat → Int) (pe : Int) (hI : cI V) (h1 : 0 ≤ pe ∧ pe < V (Int.toNat (V 0 3)) 7) (hDD : va_D (fun _ => True) (cW C a V)) : Met l yX7_markOfPoet wsX7_markOfPoet ({ frames := 2, cells := 0, slots := 0, locals := 42 }) (va_Pc [.ref (a 0), .int (iZ pe)] (cOk D C a b V)) (va_Qi (fun r (_ : Unit) => r = iZ (c_m4 V pe)) (fun _ t => cPo D C a (f_tr V 1011) t) (cA a)) 0 0 (cA a) := by
  refine Met.ofW (cc := cX7_markOfPoet) (maxL := 2) (ret := (some .int)) (by decide) rfl ?_
  intro p e s m args below meth c s₁ B hml hv
  obtain ⟨rfl, hP, hK, hN⟩ := hv
  have hx := B.exec
  have hb := B.bytes
  have hr := B.returns
  have hts := atoms_spec (ws := wsX7_markOfPoet) B.pre
  have hown : s.vm.findClass RX7 = some m.cls := findClass_of_methodNamed B.named
  have hlocks := B.notSynchronized
  have hin_X7 : ∀ w ∈ wsX70, w ∈ wsX7_markOfPoet := fun _ w_h => (List.mem_cons_of_mem _ (List.mem_append_left _ (List.mem_append_left _ (List.mem_append_right _ w_h))))
  have hin_X2 : ∀ w ∈ wsX20, w ∈ wsX7_markOfPoet := fun _ w_h => (List.mem_cons_of_mem _ (List.mem_append_left _ (List.mem_append_right _ w_h)))
  have hin_X6 : ∀ w ∈ wsX60, w ∈ wsX7_markOfPoet := fun _ w_h => (List.mem_cons_of_mem _ (List.mem_append_right _ w_h))
  have hl := lv_entry ([.ref (a 0), .int (iZ pe)]) (n := 2) (Nat.le_of_ble_eq_true rfl)
  rw [lg_entry_eq]
  generalize (lg_sl ([.ref (a 0), .int (iZ pe)]) ++ List.replicate (2 - (lg_sl ([.ref (a 0), .int (iZ pe)])).length) Slot.unset).toArray = ls at hl ⊢
  replace hl : lv_has ls 2 [(0, .ref (a 0)), (1, .int (iZ pe))] := hl
  have hD : va_D (cA a) (cW C a V) := cD_own hDD
  generalize hHe : s.heap = H at hP ⊢
  have hS : va_S (cA a) s.heap H [] := by rw [hHe]; exact va_S.rf
  generalize hlo : ([] : List Loc) = locs at hS ⊢
  clear hHe hlo
  obtain ⟨hto, hto4, hne, htx, hT, hM, hpa, hpi, hki, hsz, hsg, hby⟩ := id hI
  have hnt := hT.now
  have hnm := hM.now
  have hq1 := hT.pe h1
  refine lv_aload_n hx hb dX7_markOfPoet_0 rfl (lv_at hl 0 rfl) ?_
  refine lv_dup hx hb dX7_markOfPoet_1 rfl ?_
  refine kq_get (i := 0) hx hb hts hin_X7 hown hK hP (by decide) (cE_0 rfl) rfl 12 (by decide) (hts (.fieldLink RX7 76 "WordFletchers" "traced" "J") (List.mem_cons_of_mem _ (List.mem_append_left _ (List.mem_append_left _ (List.mem_append_left _ (List.mem_of_getElem? (i := 0) rfl)))))) rfl dX7_markOfPoet_2 ?_
  refine W.eq (g2 := F0 m 5 ls [.long (iL (V 0 12)), .ref (a 0)]) rfl ?_
  refine z_ldc2_w (n := 1000) hx hb hown (hts (.constantLong RX7 346 (1000)) (List.mem_cons_of_mem _ (List.mem_append_left _ (List.mem_append_left _ (List.mem_append_left _ (List.mem_of_getElem? (i := 1) rfl)))))) (by decide) dX7_markOfPoet_5 ?_
  refine z_ladd hx hb dX7_markOfPoet_8 ?_
  refine kq_putL (ty := .long) (i := 0) hx hb hts hin_X7 hown tyX7 tyX7_ok nmX7 hK hP hD hS (by decide) (cE_0 rfl) rfl 12 (by decide) (hts (.fieldLink RX7 76 "WordFletchers" "traced" "J") (List.mem_cons_of_mem _ (List.mem_append_left _ (List.mem_append_left _ (List.mem_append_left _ (List.mem_of_getElem? (i := 0) rfl)))))) rfl (by decide +kernel) rfl rfl (Nat.le_of_ble_eq_true rfl) rfl dX7_markOfPoet_9 (fun H locs hP hD hS => ?_)
  obtain ⟨V1, hV1⟩ : ∃ z : Nat → Nat → Int, z = (mU V 0 12 ((V 0 12) + 1000)) := ⟨_, rfl⟩
  rw [← hV1] at hP hD
  have r1 : V1 = f_tr V 1000 := hV1
  have hI_V1 : cI V1 := by rw [r1]; exact cI_tr hI _
  have hM_V1 : moI V1 39 := by rw [r1]; exact hM.of rfl rfl rfl rfl rfl
  refine lv_aload_n hx hb dX7_markOfPoet_12 rfl (lv_at hl 0 rfl) ?_
  refine lv_iload_n hx hb dX7_markOfPoet_13 rfl (lv_at hl 1 rfl) ?_
  refine kq_cm (i := 0) (As := [.int (iZ pe)]) (rest := []) ⟨hx, hb, hml, hown, hts⟩ hK hP hN hD hS (by decide) (cE_0 rfl) rfl (K_X7_markOfSuitor l D C a b V1 pe hI_V1 (by rw [r1]; exact f_tr_pe h1) (hD.weaken (fun _ _ _ _ => trivial))) (cwV 1 hts gX7_markOfPoet_X7_markOfSuitor rfl rfl rfl (by decide +kernel) ⟨Nat.le_of_ble_eq_true rfl, Nat.le_of_ble_eq_true rfl⟩) rfl rfl hl.1 (Nat.le_of_ble_eq_true rfl) ⟨Nat.le_of_ble_eq_true rfl, Nat.le_of_ble_eq_true rfl⟩ dX7_markOfPoet_14 (fun H locs hP hD hS => ?_)
  obtain ⟨V2, hV2⟩ : ∃ z : Nat → Nat → Int, z = (f_tr V1 11) := ⟨_, rfl⟩
  rw [← hV2] at hP hD
  have r2 : V2 = f_tr V 1011 := by rw [hV2, r1]; exact f_tr_tr V 1000 11
  have hM_V2 : moI V2 39 := by rw [r2]; exact hM.of rfl rfl rfl rfl rfl
  refine lv_iconst (v := iZ 2) hx hb dX7_markOfPoet_17 (by decide) ?_
  refine z_imul hx hb dX7_markOfPoet_18 ?_
  exact kq_retM hx hb hK hP hS hr rfl (by (try rw [r2]); (try rw [r1]); exact c_m4_trr V _ pe) (by rw [r2]) dX7_markOfPoet_19 hlocks
set_option maxHeartbeats 4000000 in
set_option maxRecDepth 100000 in
theorem K_X7_markOfLawyer (l : Launch) (D : va_G) (C : cC) (a b : Nat → Nat) (V : Nat → Nat → Int) (pe : Int) (hI : cI V) (h1 : 0 ≤ pe ∧ pe < V (Int.toNat (V 0 3)) 7) (hDD : va_D (fun _ => True) (cW C a V)) : Met l yX7_markOfLawyer wsX7_markOfLawyer ({ frames := 2, cells := 0, slots := 0, locals := 42 }) (va_Pc [.ref (a 0), .int (iZ pe)] (cOk D C a b V)) (va_Qi (fun r (_ : Unit) => r = iZ (c_m5 V pe)) (fun _ t => cPo D C a (f_tr V 10101) t) (cA a)) 0 0 (cA a) := by
  refine Met.ofW (cc := cX7_markOfLawyer) (maxL := 2) (ret := (some .int)) (by decide) rfl ?_
  intro p e s m args below meth c s₁ B hml hv
  obtain ⟨rfl, hP, hK, hN⟩ := hv
  have hx := B.exec
  have hb := B.bytes
  have hr := B.returns
  have hts := atoms_spec (ws := wsX7_markOfLawyer) B.pre
  have hown : s.vm.findClass RX7 = some m.cls := findClass_of_methodNamed B.named
  have hlocks := B.notSynchronized
  have hin_X7 : ∀ w ∈ wsX70, w ∈ wsX7_markOfLawyer := fun _ w_h => (List.mem_cons_of_mem _ (List.mem_append_left _ (List.mem_append_left _ (List.mem_append_right _ w_h))))
  have hin_X2 : ∀ w ∈ wsX20, w ∈ wsX7_markOfLawyer := fun _ w_h => (List.mem_cons_of_mem _ (List.mem_append_left _ (List.mem_append_right _ w_h)))
  have hin_X6 : ∀ w ∈ wsX60, w ∈ wsX7_markOfLawyer := fun _ w_h => (List.mem_cons_of_mem _ (List.mem_append_right _ w_h))
  have hl := lv_entry ([.ref (a 0), .int (iZ pe)]) (n := 2) (Nat.le_of_ble_eq_true rfl)
  rw [lg_entry_eq]
  generalize (lg_sl ([.ref (a 0), .int (iZ pe)]) ++ List.replicate (2 - (lg_sl ([.ref (a 0), .int (iZ pe)])).length) Slot.unset).toArray = ls at hl ⊢
  replace hl : lv_has ls 2 [(0, .ref (a 0)), (1, .int (iZ pe))] := hl
  have hD : va_D (cA a) (cW C a V) := cD_own hDD
  generalize hHe : s.heap = H at hP ⊢
  have hS : va_S (cA a) s.heap H [] := by rw [hHe]; exact va_S.rf
  generalize hlo : ([] : List Loc) = locs at hS ⊢
  clear hHe hlo
  obtain ⟨hto, hto4, hne, htx, hT, hM, hpa, hpi, hki, hsz, hsg, hby⟩ := id hI
  have hnt := hT.now
  have hnm := hM.now
  have hq1 := hT.pe h1
  refine lv_aload_n hx hb dX7_markOfLawyer_0 rfl (lv_at hl 0 rfl) ?_
  refine lv_dup hx hb dX7_markOfLawyer_1 rfl ?_
  refine kq_get (i := 0) hx hb hts hin_X7 hown hK hP (by decide) (cE_0 rfl) rfl 12 (by decide) (hts (.fieldLink RX7 76 "WordFletchers" "traced" "J") (List.mem_cons_of_mem _ (List.mem_append_left _ (List.mem_append_left _ (List.mem_append_left _ (List.mem_of_getElem? (i := 0) rfl)))))) rfl dX7_markOfLawyer_2 ?_
  refine W.eq (g2 := F0 m 5 ls [.long (iL (V 0 12)), .ref (a 0)]) rfl ?_
  refine z_ldc2_w (n := 10000) hx hb hown (hts (.constantLong RX7 348 (10000)) (List.mem_cons_of_mem _ (List.mem_append_left _ (List.mem_append_left _ (List.mem_append_left _ (List.mem_of_getElem? (i := 1) rfl)))))) (by decide) dX7_markOfLawyer_5 ?_
  refine z_ladd hx hb dX7_markOfLawyer_8 ?_
  refine kq_putL (ty := .long) (i := 0) hx hb hts hin_X7 hown tyX7 tyX7_ok nmX7 hK hP hD hS (by decide) (cE_0 rfl) rfl 12 (by decide) (hts (.fieldLink RX7 76 "WordFletchers" "traced" "J") (List.mem_cons_of_mem _ (List.mem_append_left _ (List.mem_append_left _ (List.mem_append_left _ (List.mem_of_getElem? (i := 0) rfl)))))) rfl (by decide +kernel) rfl rfl (Nat.le_of_ble_eq_true rfl) rfl dX7_markOfLawyer_9 (fun H locs hP hD hS => ?_)
  obtain ⟨V1, hV1⟩ : ∃ z : Nat → Nat → Int, z = (mU V 0 12 ((V 0 12) + 10000)) := ⟨_, rfl⟩
  rw [← hV1] at hP hD
  have r1 : V1 = f_tr V 10000 := hV1
  have hI_V1 : cI V1 := by rw [r1]; exact cI_tr hI _
  have hM_V1 : moI V1 39 := by rw [r1]; exact hM.of rfl rfl rfl rfl rfl
  refine lv_aload_n hx hb dX7_markOfLawyer_12 rfl (lv_at hl 0 rfl) ?_
  refine lv_iload_n hx hb dX7_markOfLawyer_13 rfl (lv_at hl 1 rfl) ?_
  refine kq_cm (i := 0) (As := [.int (iZ pe)]) (rest := []) ⟨hx, hb, hml, hown, hts⟩ hK hP hN hD hS (by decide) (cE_0 rfl) rfl (K_X7_markOfLiar l D C a b V1 pe hI_V1 (by rw [r1]; exact f_tr_pe h1) (hD.weaken (fun _ _ _ _ => trivial))) (cwV 1 hts gX7_markOfLawyer_X7_markOfLiar rfl rfl rfl (by decide +kernel) ⟨Nat.le_of_ble_eq_true rfl, Nat.le_of_ble_eq_true rfl⟩) rfl rfl hl.1 (Nat.le_of_ble_eq_true rfl) ⟨Nat.le_of_ble_eq_true rfl, Nat.le_of_ble_eq_true rfl⟩ dX7_markOfLawyer_14 (fun H locs hP hD hS => ?_)
  obtain ⟨V2, hV2⟩ : ∃ z : Nat → Nat → Int, z = (f_tr V1 101) := ⟨_, rfl⟩
  rw [← hV2] at hP hD
  have r2 : V2 = f_tr V 10101 := by rw [hV2, r1]; exact f_tr_tr V 10000 101
  have hM_V2 : moI V2 39 := by rw [r2]; exact hM.of rfl rfl rfl rfl rfl
  refine lv_iload_n hx hb dX7_markOfLawyer_17 rfl (lv_at hl 1 rfl) ?_
  refine z_iadd hx hb dX7_markOfLawyer_18 ?_
  exact kq_retM hx hb hK hP hS hr rfl (by (try rw [r2]); (try rw [r1]); exact c_m5_trr V _ pe) (by rw [r2]) dX7_markOfLawyer_19 hlocks
set_option maxHeartbeats 4000000 in
set_option maxRecDepth 100000 in
theorem K_X7_markOfGoose (l : Launch) (D : va_G) (C : cC) (a b : Nat → Nat) (V : Nat → Nat → Int) (pe : Int) (hI : cI V) (h1 : 0 ≤ pe ∧ pe < V (Int.toNat (V 0 3)) 7) (hDD : va_D (fun _ => True) (cW C a V)) : Met l yX7_markOfGoose wsX7_markOfGoose ({ frames := 1, cells := 0, slots := 0, locals := 22 }) (va_Pc [.ref (a 0), .int (iZ pe)] (cOk D C a b V)) (va_Qi (fun r (_ : Unit) => r = iZ (c_m6 V pe)) (fun _ t => cPo D C a (f_tr V 100001) t) (cA a)) 0 0 (cA a) := by
  refine Met.ofW (cc := cX7_markOfGoose) (maxL := 2) (ret := (some .int)) (by decide) rfl ?_
  intro p e s m args below meth c s₁ B hml hv
  obtain ⟨rfl, hP, hK, hN⟩ := hv
  have hx := B.exec
  have hb := B.bytes
  have hr := B.returns
  have hts := atoms_spec (ws := wsX7_markOfGoose) B.pre
  have hown : s.vm.findClass RX7 = some m.cls := findClass_of_methodNamed B.named
  have hlocks := B.notSynchronized
  have hin_X7 : ∀ w ∈ wsX70, w ∈ wsX7_markOfGoose := fun _ w_h => (List.mem_cons_of_mem _ (List.mem_append_left _ (List.mem_append_left _ (List.mem_append_right _ w_h))))
  have hin_X6 : ∀ w ∈ wsX60, w ∈ wsX7_markOfGoose := fun _ w_h => (List.mem_cons_of_mem _ (List.mem_append_left _ (List.mem_append_right _ w_h)))
  have hin_X2 : ∀ w ∈ wsX20, w ∈ wsX7_markOfGoose := fun _ w_h => (List.mem_cons_of_mem _ (List.mem_append_right _ w_h))
  have hl := lv_entry ([.ref (a 0), .int (iZ pe)]) (n := 2) (Nat.le_of_ble_eq_true rfl)
  rw [lg_entry_eq]
  generalize (lg_sl ([.ref (a 0), .int (iZ pe)]) ++ List.replicate (2 - (lg_sl ([.ref (a 0), .int (iZ pe)])).length) Slot.unset).toArray = ls at hl ⊢
  replace hl : lv_has ls 2 [(0, .ref (a 0)), (1, .int (iZ pe))] := hl
  have hD : va_D (cA a) (cW C a V) := cD_own hDD
  generalize hHe : s.heap = H at hP ⊢
  have hS : va_S (cA a) s.heap H [] := by rw [hHe]; exact va_S.rf
  generalize hlo : ([] : List Loc) = locs at hS ⊢
  clear hHe hlo
  obtain ⟨hto, hto4, hne, htx, hT, hM, hpa, hpi, hki, hsz, hsg, hby⟩ := id hI
  have hnt := hT.now
  have hnm := hM.now
  have hq1 := hT.pe h1
  refine lv_aload_n hx hb dX7_markOfGoose_0 rfl (lv_at hl 0 rfl) ?_
  refine lv_dup hx hb dX7_markOfGoose_1 rfl ?_
  refine kq_get (i := 0) hx hb hts hin_X7 hown hK hP (by decide) (cE_0 rfl) rfl 12 (by decide) (hts (.fieldLink RX7 76 "WordFletchers" "traced" "J") (List.mem_cons_of_mem _ (List.mem_append_left _ (List.mem_append_left _ (List.mem_append_left _ (List.mem_of_getElem? (i := 0) rfl)))))) rfl dX7_markOfGoose_2 ?_
  refine W.eq (g2 := F0 m 5 ls [.long (iL (V 0 12)), .ref (a 0)]) rfl ?_
  refine z_ldc2_w (n := 100000) hx hb hown (hts (.constantLong RX7 350 (100000)) (List.mem_cons_of_mem _ (List.mem_append_left _ (List.mem_append_left _ (List.mem_append_left _ (List.mem_of_getElem? (i := 1) rfl)))))) (by decide) dX7_markOfGoose_5 ?_
  refine z_ladd hx hb dX7_markOfGoose_8 ?_
  refine kq_putL (ty := .long) (i := 0) hx hb hts hin_X7 hown tyX7 tyX7_ok nmX7 hK hP hD hS (by decide) (cE_0 rfl) rfl 12 (by decide) (hts (.fieldLink RX7 76 "WordFletchers" "traced" "J") (List.mem_cons_of_mem _ (List.mem_append_left _ (List.mem_append_left _ (List.mem_append_left _ (List.mem_of_getElem? (i := 0) rfl)))))) rfl (by decide +kernel) rfl rfl (Nat.le_of_ble_eq_true rfl) rfl dX7_markOfGoose_9 (fun H locs hP hD hS => ?_)
  obtain ⟨V1, hV1⟩ : ∃ z : Nat → Nat → Int, z = (mU V 0 12 ((V 0 12) + 100000)) := ⟨_, rfl⟩
  rw [← hV1] at hP hD
  have r1 : V1 = f_tr V 100000 := hV1
  have hI_V1 : cI V1 := by rw [r1]; exact cI_tr hI _
  have hM_V1 : moI V1 39 := by rw [r1]; exact hM.of rfl rfl rfl rfl rfl
  refine lv_aload_n hx hb dX7_markOfGoose_12 rfl (lv_at hl 0 rfl) ?_
  refine lv_iload_n hx hb dX7_markOfGoose_13 rfl (lv_at hl 1 rfl) ?_
  refine kq_cm (i := 0) (As := [.int (iZ pe)]) (rest := []) ⟨hx, hb, hml, hown, hts⟩ hK hP hN hD hS (by decide) (cE_0 rfl) rfl (K_X7_markOfOne l D C a b V1 pe hI_V1 (by rw [r1]; exact f_tr_pe h1) (hD.weaken (fun _ _ _ _ => trivial))) (cwV 1 hts gX7_markOfGoose_X7_markOfOne rfl rfl rfl (by decide +kernel) ⟨Nat.le_of_ble_eq_true rfl, Nat.le_of_ble_eq_true rfl⟩) rfl rfl hl.1 (Nat.le_of_ble_eq_true rfl) ⟨Nat.le_of_ble_eq_true rfl, Nat.le_of_ble_eq_true rfl⟩ dX7_markOfGoose_14 (fun H locs hP hD hS => ?_)
  obtain ⟨V2, hV2⟩ : ∃ z : Nat → Nat → Int, z = (f_tr V1 1) := ⟨_, rfl⟩
  rw [← hV2] at hP hD
  have r2 : V2 = f_tr V 100001 := by rw [hV2, r1]; exact f_tr_tr V 100000 1
  have hM_V2 : moI V2 39 := by rw [r2]; exact hM.of rfl rfl rfl rfl rfl
  refine lv_aload_n hx hb dX7_markOfGoose_17 rfl (lv_at hl 0 rfl) ?_
  refine kq_get (i := 0) hx hb hts hin_X7 hown hK hP (by decide) (cE_0 rfl) rfl 5 (by decide) (hts (.fieldLink RX7 39 "WordFletchers" "moment" "LWordFletchers$Moment;") (List.mem_cons_of_mem _ (List.mem_append_left _ (List.mem_append_left _ (List.mem_append_left _ (List.mem_of_getElem? (i := 2) rfl)))))) rfl dX7_markOfGoose_18 ?_
  refine kq_ci (i := 39) (As := []) (rest := [.int (iZ (c_m1 V1 pe))]) ⟨hx, hb, hml, hown, hts⟩ hK hP hN hS (isMo.l0 isMo_39) (cE_26 (isMo.s0 isMo_39)) rfl (K_X2_allFeathers l D C a b V2 39 isMo_39 (by assumption)) (cwV 0 hts gX7_markOfGoose_X2_allFeathers rfl rfl rfl (by decide +kernel) ⟨Nat.le_of_ble_eq_true rfl, Nat.le_of_ble_eq_true rfl⟩) rfl rfl hl.1 (Nat.le_of_ble_eq_true rfl) ⟨Nat.le_of_ble_eq_true rfl, Nat.le_of_ble_eq_true rfl⟩ dX7_markOfGoose_21 ?_
  refine z_iadd hx hb dX7_markOfGoose_24 ?_
  exact kq_retM hx hb hK hP hS hr rfl (by (try rw [r2]); (try rw [r1]); exact c_m6_trr V _ _ pe) (by rw [r2]) dX7_markOfGoose_25 hlocks
set_option maxHeartbeats 4000000 in
set_option maxRecDepth 100000 in
theorem K_X7_mark (l : Launch) (D : va_G) (C : cC) (a b : Nat → Nat) (V : Nat → Nat → Int) (kd : Int) (pe : Int) (hI : cI V) (h1 : -2147483648 ≤ kd ∧ kd < 2147483648) (h2 : -2147483648 ≤ pe ∧ pe < 2147483648) (hDD : va_D (fun _ => True) (cW C a V)) : Met l yX7_mark wsX7_mark ({ frames := 3, cells := 0, slots := 0, locals := 63 }) (va_Pc [.ref (a 0), .int (iZ kd), .int (iZ pe)] (cOk D C a b V)) (va_Qi (fun r (_ : Unit) => r = iZ (if (0 ≤ pe ∧ pe < V (Int.toNat (V 0 3)) 7) ∧ (0 ≤ kd ∧ kd ≤ 5) then c_mkv V kd pe else -1000000)) (fun _ t => cPo D C a (if (0 ≤ pe ∧ pe < V (Int.toNat (V 0 3)) 7) ∧ (0 ≤ kd ∧ kd ≤ 5) then f_tr V (c_mkt kd) else V) t) (cA a)) 0 0 (cA a) := by
  refine Met.ofW (cc := cX7_mark) (maxL := 3) (ret := (some .int)) (by decide) rfl ?_
  intro p e s m args below meth c s₁ B hml hv
  obtain ⟨rfl, hP, hK, hN⟩ := hv
  have hx := B.exec
  have hb := B.bytes
  have hr := B.returns
  have hts := atoms_spec (ws := wsX7_mark) B.pre
  have hown : s.vm.findClass RX7 = some m.cls := findClass_of_methodNamed B.named
  have hlocks := B.notSynchronized
  have hin_X7 : ∀ w ∈ wsX70, w ∈ wsX7_mark := fun _ w_h => (List.mem_cons_of_mem _ (List.mem_append_left _ (List.mem_append_left _ (List.mem_append_right _ w_h))))
  have hin_X6 : ∀ w ∈ wsX60, w ∈ wsX7_mark := fun _ w_h => (List.mem_cons_of_mem _ (List.mem_append_left _ (List.mem_append_right _ w_h)))
  have hin_X2 : ∀ w ∈ wsX20, w ∈ wsX7_mark := fun _ w_h => (List.mem_cons_of_mem _ (List.mem_append_right _ w_h))
  have hl := lv_entry ([.ref (a 0), .int (iZ kd), .int (iZ pe)]) (n := 3) (Nat.le_of_ble_eq_true rfl)
  rw [lg_entry_eq]
  generalize (lg_sl ([.ref (a 0), .int (iZ kd), .int (iZ pe)]) ++ List.replicate (3 - (lg_sl ([.ref (a 0), .int (iZ kd), .int (iZ pe)])).length) Slot.unset).toArray = ls at hl ⊢
  replace hl : lv_has ls 3 [(0, .ref (a 0)), (1, .int (iZ kd)), (2, .int (iZ pe))] := hl
  have hD : va_D (cA a) (cW C a V) := cD_own hDD
  generalize hHe : s.heap = H at hP ⊢
  have hS : va_S (cA a) s.heap H [] := by rw [hHe]; exact va_S.rf
  generalize hlo : ([] : List Loc) = locs at hS ⊢
  clear hHe hlo
  obtain ⟨hto, hto4, hne, htx, hT, hM, hpa, hpi, hki, hsz, hsg, hby⟩ := id hI
  have hnt := hT.now
  have hnm := hM.now
  refine lv_aload_n hx hb dX7_mark_0 rfl (lv_at hl 0 rfl) ?_
  refine W.eq (g2 := F0 m 1 ls [.ref (a 0)]) rfl ?_
  refine kq_get (i := 0) hx hb hts hin_X7 hown hK hP (by decide) (cE_0 rfl) rfl 3 (by decide) (hts (.fieldLink RX7 29 "WordFletchers" "told" "LWordFletchers$Told;") (List.mem_cons_of_mem _ (List.mem_append_left _ (List.mem_append_left _ (List.mem_append_left _ (List.mem_append_left _ (List.mem_of_getElem? (i := 0) rfl))))))) rfl dX7_mark_1 ?_
  refine lv_iload_n hx hb dX7_mark_4 rfl (lv_at hl 2 rfl) ?_
  refine kq_ci (i := (Int.toNat (V 0 3))) (As := [.int (iZ pe)]) (rest := []) ⟨hx, hb, hml, hown, hts⟩ hK hP hN hS (isTo.l0 (by assumption)) (cE_15 (isTo.s0 (by assumption))) rfl (K_X6_hasOne l D C a b V (Int.toNat (V 0 3)) (by assumption) pe (by omega) (by omega)) (cwV 1 hts gX7_mark_X6_hasOne rfl rfl rfl (by decide +kernel) ⟨Nat.le_of_ble_eq_true rfl, Nat.le_of_ble_eq_true rfl⟩) rfl rfl hl.1 (Nat.le_of_ble_eq_true rfl) ⟨Nat.le_of_ble_eq_true rfl, Nat.le_of_ble_eq_true rfl⟩ dX7_mark_5 ?_
  refine z_ifb_ne (P := (0 ≤ pe ∧ pe < V (Int.toNat (V 0 3)) 7)) (tgt := 14) hx hb dX7_mark_8 (by decide) (fun c1 => ?_) (fun c1 => ?_)
  · refine lv_iload_n hx hb dX7_mark_14 rfl (lv_at hl 1 rfl) ?_
    by_cases c2 : kd = 0
    · refine lv_tableIn (off := 37) (tgt := 52) hx hb dX7_mark_15 (by rw [iZ_toInt (by omega)]; omega) (by rw [iZ_toInt (by omega)]; omega) (by rw [iZ_toInt (by omega), c2]; rfl) (by decide) ?_
      refine lv_aload_n hx hb dX7_mark_52 rfl (lv_at hl 0 rfl) ?_
      refine lv_iload_n hx hb dX7_mark_53 rfl (lv_at hl 2 rfl) ?_
      refine kq_cm (i := 0) (As := [.int (iZ pe)]) (rest := []) ⟨hx, hb, hml, hown, hts⟩ hK hP hN hD hS (by decide) (cE_0 rfl) rfl (K_X7_markOfOne l D C a b V pe hI ⟨by omega, by omega⟩ (hD.weaken (fun _ _ _ _ => trivial))) (cwV 1 hts gX7_mark_X7_markOfOne rfl rfl rfl (by decide +kernel) ⟨Nat.le_of_ble_eq_true rfl, Nat.le_of_ble_eq_true rfl⟩) rfl rfl hl.1 (Nat.le_of_ble_eq_true rfl) ⟨Nat.le_of_ble_eq_true rfl, Nat.le_of_ble_eq_true rfl⟩ dX7_mark_54 (fun H locs hP hD hS => ?_)
      obtain ⟨V3, hV3⟩ : ∃ z : Nat → Nat → Int, z = (f_tr V 1) := ⟨_, rfl⟩
      rw [← hV3] at hP hD
      exact kq_retM hx hb hK hP hS hr rfl (by first | exact (if_neg (by omega)).symm | (refine Eq.trans ?_ (if_pos (by omega)).symm; subst_vars; rfl)) (by first | exact (if_neg (by omega)).symm | (refine Eq.trans ?_ (if_pos (by omega)).symm; subst_vars; rfl)) dX7_mark_57 hlocks
    by_cases c4 : kd = 1
    · refine lv_tableIn (off := 43) (tgt := 58) hx hb dX7_mark_15 (by rw [iZ_toInt (by omega)]; omega) (by rw [iZ_toInt (by omega)]; omega) (by rw [iZ_toInt (by omega), c4]; rfl) (by decide) ?_
      refine lv_aload_n hx hb dX7_mark_58 rfl (lv_at hl 0 rfl) ?_
      refine lv_iload_n hx hb dX7_mark_59 rfl (lv_at hl 2 rfl) ?_
      refine W.eq (g2 := F0 m 60 ls [.int (iZ pe), .ref (a 0)]) rfl ?_
      refine kq_cm (i := 0) (As := [.int (iZ pe)]) (rest := []) ⟨hx, hb, hml, hown, hts⟩ hK hP hN hD hS (by decide) (cE_0 rfl) rfl (K_X7_markOfSuitor l D C a b V pe hI ⟨by omega, by omega⟩ (hD.weaken (fun _ _ _ _ => trivial))) (cwV 1 hts gX7_mark_X7_markOfSuitor rfl rfl rfl (by decide +kernel) ⟨Nat.le_of_ble_eq_true rfl, Nat.le_of_ble_eq_true rfl⟩) rfl rfl hl.1 (Nat.le_of_ble_eq_true rfl) ⟨Nat.le_of_ble_eq_true rfl, Nat.le_of_ble_eq_true rfl⟩ dX7_mark_60 (fun H locs hP hD hS => ?_)
      obtain ⟨V5, hV5⟩ : ∃ z : Nat → Nat → Int, z = (f_tr V 11) := ⟨_, rfl⟩
      rw [← hV5] at hP hD
      exact kq_retM hx hb hK hP hS hr rfl (by first | exact (if_neg (by omega)).symm | (refine Eq.trans ?_ (if_pos (by omega)).symm; subst_vars; rfl)) (by first | exact (if_neg (by omega)).symm | (refine Eq.trans ?_ (if_pos (by omega)).symm; subst_vars; rfl)) dX7_mark_63 hlocks
    by_cases c6 : kd = 2
    · refine lv_tableIn (off := 49) (tgt := 64) hx hb dX7_mark_15 (by rw [iZ_toInt (by omega)]; omega) (by rw [iZ_toInt (by omega)]; omega) (by rw [iZ_toInt (by omega), c6]; rfl) (by decide) ?_
      refine lv_aload_n hx hb dX7_mark_64 rfl (lv_at hl 0 rfl) ?_
      refine lv_iload_n hx hb dX7_mark_65 rfl (lv_at hl 2 rfl) ?_
      refine kq_cm (i := 0) (As := [.int (iZ pe)]) (rest := []) ⟨hx, hb, hml, hown, hts⟩ hK hP hN hD hS (by decide) (cE_0 rfl) rfl (K_X7_markOfLiar l D C a b V pe hI ⟨by omega, by omega⟩ (hD.weaken (fun _ _ _ _ => trivial))) (cwV 1 hts gX7_mark_X7_markOfLiar rfl rfl rfl (by decide +kernel) ⟨Nat.le_of_ble_eq_true rfl, Nat.le_of_ble_eq_true rfl⟩) rfl rfl hl.1 (Nat.le_of_ble_eq_true rfl) ⟨Nat.le_of_ble_eq_true rfl, Nat.le_of_ble_eq_true rfl⟩ dX7_mark_66 (fun H locs hP hD hS => ?_)
      obtain ⟨V7, hV7⟩ : ∃ z : Nat → Nat → Int, z = (f_tr V 101) := ⟨_, rfl⟩
      rw [← hV7] at hP hD
      exact kq_retM hx hb hK hP hS hr rfl (by first | exact (if_neg (by omega)).symm | (refine Eq.trans ?_ (if_pos (by omega)).symm; subst_vars; rfl)) (by first | exact (if_neg (by omega)).symm | (refine Eq.trans ?_ (if_pos (by omega)).symm; subst_vars; rfl)) dX7_mark_69 hlocks
    by_cases c8 : kd = 3
    · refine lv_tableIn (off := 55) (tgt := 70) hx hb dX7_mark_15 (by rw [iZ_toInt (by omega)]; omega) (by rw [iZ_toInt (by omega)]; omega) (by rw [iZ_toInt (by omega), c8]; rfl) (by decide) ?_
      refine lv_aload_n hx hb dX7_mark_70 rfl (lv_at hl 0 rfl) ?_
      refine lv_iload_n hx hb dX7_mark_71 rfl (lv_at hl 2 rfl) ?_
      refine kq_cm (i := 0) (As := [.int (iZ pe)]) (rest := []) ⟨hx, hb, hml, hown, hts⟩ hK hP hN hD hS (by decide) (cE_0 rfl) rfl (K_X7_markOfPoet l D C a b V pe hI ⟨by omega, by omega⟩ (hD.weaken (fun _ _ _ _ => trivial))) (cwV 1 hts gX7_mark_X7_markOfPoet rfl rfl rfl (by decide +kernel) ⟨Nat.le_of_ble_eq_true rfl, Nat.le_of_ble_eq_true rfl⟩) rfl rfl hl.1 (Nat.le_of_ble_eq_true rfl) ⟨Nat.le_of_ble_eq_true rfl, Nat.le_of_ble_eq_true rfl⟩ dX7_mark_72 (fun H locs hP hD hS => ?_)
      obtain ⟨V9, hV9⟩ : ∃ z : Nat → Nat → Int, z = (f_tr V 1011) := ⟨_, rfl⟩
      rw [← hV9] at hP hD
      exact kq_retM hx hb hK hP hS hr rfl (by first | exact (if_neg (by omega)).symm | (refine Eq.trans ?_ (if_pos (by omega)).symm; subst_vars; rfl)) (by first | exact (if_neg (by omega)).symm | (refine Eq.trans ?_ (if_pos (by omega)).symm; subst_vars; rfl)) dX7_mark_75 hlocks
    by_cases c10 : kd = 4
    · refine lv_tableIn (off := 61) (tgt := 76) hx hb dX7_mark_15 (by rw [iZ_toInt (by omega)]; omega) (by rw [iZ_toInt (by omega)]; omega) (by rw [iZ_toInt (by omega), c10]; rfl) (by decide) ?_
      refine lv_aload_n hx hb dX7_mark_76 rfl (lv_at hl 0 rfl) ?_
      refine lv_iload_n hx hb dX7_mark_77 rfl (lv_at hl 2 rfl) ?_
      refine W.eq (g2 := F0 m 78 ls [.int (iZ pe), .ref (a 0)]) rfl ?_
      refine kq_cm (i := 0) (As := [.int (iZ pe)]) (rest := []) ⟨hx, hb, hml, hown, hts⟩ hK hP hN hD hS (by decide) (cE_0 rfl) rfl (K_X7_markOfLawyer l D C a b V pe hI ⟨by omega, by omega⟩ (hD.weaken (fun _ _ _ _ => trivial))) (cwV 1 hts gX7_mark_X7_markOfLawyer rfl rfl rfl (by decide +kernel) ⟨Nat.le_of_ble_eq_true rfl, Nat.le_of_ble_eq_true rfl⟩) rfl rfl hl.1 (Nat.le_of_ble_eq_true rfl) ⟨Nat.le_of_ble_eq_true rfl, Nat.le_of_ble_eq_true rfl⟩ dX7_mark_78 (fun H locs hP hD hS => ?_)
      obtain ⟨V11, hV11⟩ : ∃ z : Nat → Nat → Int, z = (f_tr V 10101) := ⟨_, rfl⟩
      rw [← hV11] at hP hD
      exact kq_retM hx hb hK hP hS hr rfl (by first | exact (if_neg (by omega)).symm | (refine Eq.trans ?_ (if_pos (by omega)).symm; subst_vars; rfl)) (by first | exact (if_neg (by omega)).symm | (refine Eq.trans ?_ (if_pos (by omega)).symm; subst_vars; rfl)) dX7_mark_81 hlocks
    by_cases c12 : kd = 5
    · refine lv_tableIn (off := 67) (tgt := 82) hx hb dX7_mark_15 (by rw [iZ_toInt (by omega)]; omega) (by rw [iZ_toInt (by omega)]; omega) (by rw [iZ_toInt (by omega), c12]; rfl) (by decide) ?_
      refine lv_aload_n hx hb dX7_mark_82 rfl (lv_at hl 0 rfl) ?_
      refine lv_iload_n hx hb dX7_mark_83 rfl (lv_at hl 2 rfl) ?_
      refine kq_cm (i := 0) (As := [.int (iZ pe)]) (rest := []) ⟨hx, hb, hml, hown, hts⟩ hK hP hN hD hS (by decide) (cE_0 rfl) rfl (K_X7_markOfGoose l D C a b V pe hI ⟨by omega, by omega⟩ (hD.weaken (fun _ _ _ _ => trivial))) (cwV 1 hts gX7_mark_X7_markOfGoose rfl rfl rfl (by decide +kernel) ⟨Nat.le_of_ble_eq_true rfl, Nat.le_of_ble_eq_true rfl⟩) rfl rfl hl.1 (Nat.le_of_ble_eq_true rfl) ⟨Nat.le_of_ble_eq_true rfl, Nat.le_of_ble_eq_true rfl⟩ dX7_mark_84 (fun H locs hP hD hS => ?_)
      obtain ⟨V13, hV13⟩ : ∃ z : Nat → Nat → Int, z = (f_tr V 100001) := ⟨_, rfl⟩
      rw [← hV13] at hP hD
      exact kq_retM hx hb hK hP hS hr rfl (by first | exact (if_neg (by omega)).symm | (refine Eq.trans ?_ (if_pos (by omega)).symm; subst_vars; rfl)) (by first | exact (if_neg (by omega)).symm | (refine Eq.trans ?_ (if_pos (by omega)).symm; subst_vars; rfl)) dX7_mark_87 hlocks
    refine lv_tableOut (tgt := 88) hx hb dX7_mark_15 (by rw [iZ_toInt (by omega)]; omega) (by decide) ?_
    refine z_ldc (n := (-1000000)) hx hb hown (hts (Cond.constant RX7 121 (-1000000)) (List.mem_cons_of_mem _ (List.mem_append_left _ (List.mem_append_left _ (List.mem_append_left _ (List.mem_append_left _ (List.mem_of_getElem? (i := 1) rfl))))))) (by decide) dX7_mark_88 ?_
    exact kq_retM hx hb hK hP hS hr rfl (by first | exact (if_neg (by omega)).symm | (refine Eq.trans ?_ (if_pos (by omega)).symm; subst_vars; rfl)) (by first | exact (if_neg (by omega)).symm | (refine Eq.trans ?_ (if_pos (by omega)).symm; subst_vars; rfl)) dX7_mark_90 hlocks
  · refine z_ldc (n := (-1000000)) hx hb hown (hts (Cond.constant RX7 121 (-1000000)) (List.mem_cons_of_mem _ (List.mem_append_left _ (List.mem_append_left _ (List.mem_append_left _ (List.mem_append_left _ (List.mem_of_getElem? (i := 1) rfl))))))) (by decide) dX7_mark_11 ?_
    exact kq_retM hx hb hK hP hS hr rfl (by first | exact (if_neg (by omega)).symm | (refine Eq.trans ?_ (if_pos (by omega)).symm; subst_vars; rfl)) (by first | exact (if_neg (by omega)).symm | (refine Eq.trans ?_ (if_pos (by omega)).symm; subst_vars; rfl)) dX7_mark_13 hlocks
