set_option maxHeartbeats 4000000 in
set_option maxRecDepth 100000 in
theorem K_X0_addMember (l : Launch) (D : va_G) (C : cC) (a b : Nat → Nat) (V : Nat → Nat → Int) (sy : Int) (h0 : 0 ≤ V 9 3 ∧ V 9 3 < 6) (h1 : 0 ≤ sy ∧ sy ≤ 5) (hDD : va_D (fun _ => True) (cW C a V)) : Met l yX0_addMember wsX0_addMember ({ frames := 0, cells := 0, slots := 0, locals := 0 }) (va_Pc [.ref (a 9), .int (iZ sy)] (cOk D C a b V)) (va_Qi (fun r (_ : Unit) => r = iZ (V 9 3)) (fun _ t => cPo D C a (f_adm V sy) t) (cA a)) 0 0 (cA a) := by
  refine Met.ofW (cc := cX0_addMember) (maxL := 2) (ret := (some .int)) (by decide) rfl ?_
  intro p e s m args below meth c s₁ B hml hv
  obtain ⟨rfl, hP, hK, hN⟩ := hv
  have hx := B.exec
  have hb := B.bytes
  have hr := B.returns
  have hts := atoms_spec (ws := wsX0_addMember) B.pre
  have hown : s.vm.findClass RX0 = some m.cls := findClass_of_methodNamed B.named
  have hlocks := B.notSynchronized
  have hin_X0 : ∀ w ∈ wsX00, w ∈ wsX0_addMember := fun _ w_h => (List.mem_cons_of_mem _ (List.mem_append_right _ w_h))
  have hl := lv_entry ([.ref (a 9), .int (iZ sy)]) (n := 2) (Nat.le_of_ble_eq_true rfl)
  rw [lg_entry_eq]
  generalize (lg_sl ([.ref (a 9), .int (iZ sy)]) ++ List.replicate (2 - (lg_sl ([.ref (a 9), .int (iZ sy)])).length) Slot.unset).toArray = ls at hl ⊢
  replace hl : lv_has ls 2 [(0, .ref (a 9)), (1, .int (iZ sy))] := hl
  have hD : va_D (cA a) (cW C a V) := cD_own hDD
  generalize hHe : s.heap = H at hP ⊢
  have hS : va_S (cA a) s.heap H [] := by rw [hHe]; exact va_S.rf
  generalize hlo : ([] : List Loc) = locs at hS ⊢
  clear hHe hlo
  refine lv_aload_n hx hb dX0_addMember_0 rfl (lv_at hl 0 rfl) ?_
  refine kq_get (i := 9) hx hb hts hin_X0 hown hK hP (by decide) (cE_9 rfl) rfl 0 (by decide) (hts (.fieldLink RX0 9 "WordFletchers$Allotment" "saying" "[I") (List.mem_cons_of_mem _ (List.mem_append_left _ (List.mem_of_getElem? (i := 0) rfl)))) rfl dX0_addMember_1 ?_
  refine lv_aload_n hx hb dX0_addMember_4 rfl (lv_at hl 0 rfl) ?_
  refine kq_get (i := 9) hx hb hts hin_X0 hown hK hP (by decide) (cE_9 rfl) rfl 3 (by decide) (hts (.fieldLink RX0 21 "WordFletchers$Allotment" "members" "I") (List.mem_cons_of_mem _ (List.mem_append_left _ (List.mem_of_getElem? (i := 1) rfl)))) rfl dX0_addMember_5 ?_
  refine W.eq (g2 := F0 m 8 ls [.int (iZ (V 9 3)), .ref (a 10)]) rfl ?_
  refine lv_iload_n hx hb dX0_addMember_8 rfl (lv_at hl 1 rfl) ?_
  refine kq_iast (i := 10) hx hb hK hP hD hS (by decide) (n := 6) (cE_10 rfl) (by decide) (Int.toNat (V 9 3)) rfl (by omega) dX0_addMember_9 (fun H locs hP hD hS => ?_)
  obtain ⟨V1, hV1⟩ : ∃ z : Nat → Nat → Int, z = (mU V 10 (Int.toNat (V 9 3)) sy) := ⟨_, rfl⟩
  rw [← hV1] at hP hD
  have e1 : V1 9 = V 9 := by rw [hV1]; rfl
  refine lv_aload_n hx hb dX0_addMember_10 rfl (lv_at hl 0 rfl) ?_
  refine lv_dup hx hb dX0_addMember_11 rfl ?_
  refine kq_get (i := 9) hx hb hts hin_X0 hown hK hP (by decide) (cE_9 rfl) rfl 3 (by decide) (hts (.fieldLink RX0 21 "WordFletchers$Allotment" "members" "I") (List.mem_cons_of_mem _ (List.mem_append_left _ (List.mem_of_getElem? (i := 1) rfl)))) rfl dX0_addMember_12 ?_
  refine lv_iconst (v := iZ 1) hx hb dX0_addMember_15 (by decide) ?_
  refine z_iadd hx hb dX0_addMember_16 ?_
  refine kq_put (ty := .int) (i := 9) hx hb hts hin_X0 hown tyX0 tyX0_ok nmX0 hK hP hD hS (by decide) (cE_9 rfl) rfl 3 (by decide) (hts (.fieldLink RX0 21 "WordFletchers$Allotment" "members" "I") (List.mem_cons_of_mem _ (List.mem_append_left _ (List.mem_of_getElem? (i := 1) rfl)))) rfl (by decide +kernel) rfl rfl (Nat.le_of_ble_eq_true rfl) rfl dX0_addMember_17 (fun H locs hP hD hS => ?_)
  obtain ⟨V2, hV2⟩ : ∃ z : Nat → Nat → Int, z = (mU V1 9 3 ((V1 9 3) + 1)) := ⟨_, rfl⟩
  rw [← hV2] at hP hD
  have e2 : V2 9 3 = V1 9 3 + 1 := by rw [hV2, mU_eq]
  refine lv_aload_n hx hb dX0_addMember_20 rfl (lv_at hl 0 rfl) ?_
  refine kq_get (i := 9) hx hb hts hin_X0 hown hK hP (by decide) (cE_9 rfl) rfl 3 (by decide) (hts (.fieldLink RX0 21 "WordFletchers$Allotment" "members" "I") (List.mem_cons_of_mem _ (List.mem_append_left _ (List.mem_of_getElem? (i := 1) rfl)))) rfl dX0_addMember_21 ?_
  refine lv_iconst (v := iZ 1) hx hb dX0_addMember_24 (by decide) ?_
  refine z_isub hx hb dX0_addMember_25 ?_
  refine W.eq (g2 := F0 m 26 ls [.int (iZ ((V2 9 3) - 1))]) rfl ?_
  exact kq_retM hx hb hK hP hS hr rfl (by rw [e2, e1]; omega) (by subst_vars; rfl) dX0_addMember_26 hlocks
set_option maxHeartbeats 4000000 in
set_option maxRecDepth 100000 in
theorem K_X0_setFewest (l : Launch) (D : va_G) (C : cC) (a b : Nat → Nat) (V : Nat → Nat → Int) (mb : Int) (kd : Int) (nn : Int) (h0 : 0 ≤ mb ∧ mb < 6) (h1 : 0 ≤ kd ∧ kd < 4) (hDD : va_D (fun _ => True) (cW C a V)) : Met l yX0_setFewest wsX0_setFewest ({ frames := 0, cells := 0, slots := 0, locals := 0 }) (va_Pc [.ref (a 9), .int (iZ mb), .int (iZ kd), .int (iZ nn)] (cOk D C a b V)) (va_Qv (fun (_ : Unit) => True) (fun _ t => cPo D C a (mU V 11 (Int.toNat (mb * 4 + kd)) nn) t) (cA a)) 0 0 (cA a) := by
  refine Met.ofW (cc := cX0_setFewest) (maxL := 4) (ret := none) (by decide) rfl ?_
  intro p e s m args below meth c s₁ B hml hv
  obtain ⟨rfl, hP, hK, hN⟩ := hv
  have hx := B.exec
  have hb := B.bytes
  have hr := B.returns
  have hts := atoms_spec (ws := wsX0_setFewest) B.pre
  have hown : s.vm.findClass RX0 = some m.cls := findClass_of_methodNamed B.named
  have hlocks := B.notSynchronized
  have hin_X0 : ∀ w ∈ wsX00, w ∈ wsX0_setFewest := fun _ w_h => (List.mem_cons_of_mem _ (List.mem_append_right _ w_h))
  have hl := lv_entry ([.ref (a 9), .int (iZ mb), .int (iZ kd), .int (iZ nn)]) (n := 4) (Nat.le_of_ble_eq_true rfl)
  rw [lg_entry_eq]
  generalize (lg_sl ([.ref (a 9), .int (iZ mb), .int (iZ kd), .int (iZ nn)]) ++ List.replicate (4 - (lg_sl ([.ref (a 9), .int (iZ mb), .int (iZ kd), .int (iZ nn)])).length) Slot.unset).toArray = ls at hl ⊢
  replace hl : lv_has ls 4 [(0, .ref (a 9)), (1, .int (iZ mb)), (2, .int (iZ kd)), (3, .int (iZ nn))] := hl
  have hD : va_D (cA a) (cW C a V) := cD_own hDD
  generalize hHe : s.heap = H at hP ⊢
  have hS : va_S (cA a) s.heap H [] := by rw [hHe]; exact va_S.rf
  generalize hlo : ([] : List Loc) = locs at hS ⊢
  clear hHe hlo
  refine lv_aload_n hx hb dX0_setFewest_0 rfl (lv_at hl 0 rfl) ?_
  refine kq_get (i := 9) hx hb hts hin_X0 hown hK hP (by decide) (cE_9 rfl) rfl 1 (by decide) (hts (.fieldLink RX0 15 "WordFletchers$Allotment" "fewest" "[I") (List.mem_cons_of_mem _ (List.mem_append_left _ (List.mem_of_getElem? (i := 0) rfl)))) rfl dX0_setFewest_1 ?_
  refine lv_iload_n hx hb dX0_setFewest_4 rfl (lv_at hl 1 rfl) ?_
  refine lv_iconst (v := iZ 4) hx hb dX0_setFewest_5 (by decide) ?_
  refine z_imul hx hb dX0_setFewest_6 ?_
  refine lv_iload_n hx hb dX0_setFewest_7 rfl (lv_at hl 2 rfl) ?_
  refine z_iadd hx hb dX0_setFewest_8 ?_
  refine lv_iload_n hx hb dX0_setFewest_9 rfl (lv_at hl 3 rfl) ?_
  refine kq_iast (i := 11) hx hb hK hP hD hS (by decide) (n := 24) (cE_11 rfl) (by decide) (Int.toNat ((mb * 4) + kd)) rfl (by omega) dX0_setFewest_10 (fun H locs hP hD hS => ?_)
  obtain ⟨V1, hV1⟩ : ∃ z : Nat → Nat → Int, z = (mU V 11 (Int.toNat ((mb * 4) + kd)) nn) := ⟨_, rfl⟩
  rw [← hV1] at hP hD
  exact kq_retV hx hb hK hP hS hr (by subst_vars; rfl) dX0_setFewest_11 hlocks
set_option maxHeartbeats 4000000 in
set_option maxRecDepth 100000 in
theorem K_X0_kindOf (l : Launch) (D : va_G) (C : cC) (a b : Nat → Nat) (V : Nat → Nat → Int) (tr : Int) (mm : Int) (h0 : 0 ≤ mm ∧ mm < V 9 3) (h1 : V 9 3 ≤ 6) (h2 : 0 ≤ tr ∧ tr < 4096) : Met l yX0_kindOf wsX0_kindOf ({ frames := 0, cells := 0, slots := 0, locals := 0 }) (va_Pc [.ref (a 9), .int (iZ tr), .int (iZ mm)] (cOk D C a b V)) (vp_Si (fun r => r = iZ (c_kd V tr mm))) 0 0 (fun _ => False) := by
  refine Met.ofW (cc := cX0_kindOf) (maxL := 3) (ret := (some .int)) (by decide) rfl ?_
  intro p e s m args below meth c s₁ B hml hv
  obtain ⟨rfl, hP, hK, hN⟩ := hv
  have hx := B.exec
  have hb := B.bytes
  have hr := B.returns
  have hts := atoms_spec (ws := wsX0_kindOf) B.pre
  have hown : s.vm.findClass RX0 = some m.cls := findClass_of_methodNamed B.named
  have hlocks := B.notSynchronized
  have hin_X0 : ∀ w ∈ wsX00, w ∈ wsX0_kindOf := fun _ w_h => (List.mem_cons_of_mem _ (List.mem_append_right _ w_h))
  have hl := lv_entry ([.ref (a 9), .int (iZ tr), .int (iZ mm)]) (n := 3) (Nat.le_of_ble_eq_true rfl)
  rw [lg_entry_eq]
  generalize (lg_sl ([.ref (a 9), .int (iZ tr), .int (iZ mm)]) ++ List.replicate (3 - (lg_sl ([.ref (a 9), .int (iZ tr), .int (iZ mm)])).length) Slot.unset).toArray = ls at hl ⊢
  replace hl : lv_has ls 3 [(0, .ref (a 9)), (1, .int (iZ tr)), (2, .int (iZ mm))] := hl
  have hS : va_S (cA a) s.heap s.heap [] := va_S.rf
  refine lv_iload_n hx hb dX0_kindOf_0 rfl (lv_at hl 1 rfl) ?_
  refine W.eq (g2 := F0 m 1 ls [.int (iZ tr)]) rfl ?_
  refine lv_iconst (v := iZ 2) hx hb dX0_kindOf_1 (by decide) ?_
  refine lv_aload_n hx hb dX0_kindOf_2 rfl (lv_at hl 0 rfl) ?_
  refine kq_get (i := 9) hx hb hts hin_X0 hown hK hP (by decide) (cE_9 rfl) rfl 3 (by decide) (hts (.fieldLink RX0 21 "WordFletchers$Allotment" "members" "I") (List.mem_cons_of_mem _ (List.mem_append_left _ (List.mem_of_getElem? (i := 0) rfl)))) rfl dX0_kindOf_3 ?_
  refine lv_iconst (v := iZ 1) hx hb dX0_kindOf_6 (by decide) ?_
  refine z_isub hx hb dX0_kindOf_7 ?_
  refine lv_iload_n hx hb dX0_kindOf_8 rfl (lv_at hl 2 rfl) ?_
  refine z_isub hx hb dX0_kindOf_9 ?_
  refine z_imul hx hb dX0_kindOf_10 ?_
  refine z_ishr hx hb (by omega) (by omega) dX0_kindOf_11 ?_
  refine lv_iconst (v := iZ 3) hx hb dX0_kindOf_12 (by decide) ?_
  refine kq_iand3 hx hb dX0_kindOf_13 ?_
  exact mq_ret hx hb hr rfl rfl dX0_kindOf_14 hlocks rfl
set_option maxHeartbeats 20000000 in
set_option maxRecDepth 100000 in
theorem K_X0_costOf (l : Launch) (D : va_G) (C : cC) (a b : Nat → Nat) (V : Nat → Nat → Int) (tr : Int) (hA : alI V) (hM : moI V 39) (h1 : 0 ≤ tr ∧ tr < 4096) (hDD : va_D (fun _ => True) (cW C a V)) : Met l yX0_costOf wsX0_costOf ({ frames := 1, cells := 0, slots := 0, locals := 22 }) (va_Pc [.ref (a 9), .int (iZ tr), .ref (a 40)] (cOk D C a b V)) (va_Qi (fun r (_ : Unit) => r = iZ (c_cst V tr)) (fun _ t => cPo D C a (f_cst V tr) t) (cA a)) 0 0 (cA a) := by
  refine Met.ofW (cc := cX0_costOf) (maxL := 7) (ret := (some .int)) (by decide) rfl ?_
  intro p e s m args below meth c s₁ B hml hv
  obtain ⟨rfl, hP, hK, hN⟩ := hv
  have hx := B.exec
  have hb := B.bytes
  have hr := B.returns
  have hts := atoms_spec (ws := wsX0_costOf) B.pre
  have hown : s.vm.findClass RX0 = some m.cls := findClass_of_methodNamed B.named
  have hlocks := B.notSynchronized
  have hin_X0 : ∀ w ∈ wsX00, w ∈ wsX0_costOf := fun _ w_h => (List.mem_cons_of_mem _ (List.mem_append_right _ w_h))
  have hl := lv_entry ([.ref (a 9), .int (iZ tr), .ref (a 40)]) (n := 7) (Nat.le_of_ble_eq_true rfl)
  rw [lg_entry_eq]
  generalize (lg_sl ([.ref (a 9), .int (iZ tr), .ref (a 40)]) ++ List.replicate (7 - (lg_sl ([.ref (a 9), .int (iZ tr), .ref (a 40)])).length) Slot.unset).toArray = ls at hl ⊢
  replace hl : lv_has ls 7 [(0, .ref (a 9)), (1, .int (iZ tr)), (2, .ref (a 40))] := hl
  have hD : va_D (cA a) (cW C a V) := cD_own hDD
  generalize hHe : s.heap = H at hP ⊢
  have hS : va_S (cA a) s.heap H [] := by rw [hHe]; exact va_S.rf
  generalize hlo : ([] : List Loc) = locs at hS ⊢
  clear hHe hlo
  have hA1 := hA.1
  refine W.eq (g2 := F0 m 0 ls []) rfl ?_
  refine lv_iconst (v := iZ 0) hx hb dX0_costOf_0 (by decide) ?_
  refine lv_istore_n (lv' := [(3, .int (iZ 0)), (0, .ref (a 9)), (1, .int (iZ tr)), (2, .ref (a 40))]) hx hb dX0_costOf_1 rfl hl (by decide) rfl (fun ls hl => ?_)
  replace hl : lv_has ls 7 [(3, .int (iZ (0 : Int))), (0, .ref (a 9)), (1, .int (iZ tr)), (2, .ref (a 40))] := lv_sub hl [0, 1, 2, 3] rfl
  replace hP := And.intro hP hS
  clear hS
  revert ls
  revert hP
  revert H locs
  refine z_loopH (σ := Int × (Nat → Nat → Int)) (fun x9 => (0 ≤ x9.1 ∧ x9.1 ≤ 4) ∧ (x9.2 = f_u0 V (Int.toNat x9.1))) (fun x9 H9 locs9 => va_P D vwCl (cW C a (x9.2)) H9 ∧ va_S (cA a) s.heap H9 locs9) (fun x9 => [(3, .int (iZ (x9.1))), (0, .ref (a 9)), (1, .int (iZ tr)), (2, .ref (a 40))]) 7 (fun x9 => (4 - x9.1).toNat) ((0 : Int), V) ⟨(by show 0 ≤ (0 : Int) ∧ (0 : Int) ≤ 4; omega), (by show V = f_u0 V (Int.toNat (0 : Int)); rfl)⟩ ?_
  rintro ⟨kk, Va⟩ hI9 ih2 H locs hPS ls hl
  have hP : va_P D vwCl (cW C a Va) H := hPS.1
  have hS : va_S (cA a) s.heap H locs := hPS.2
  clear hPS
  have hD : va_D (cA a) (cW C a Va) := cD_re hD
  obtain ⟨i1, i2⟩ := hI9
  replace i1 : 0 ≤ kk ∧ kk ≤ 4 := i1
  replace i2 : Va = f_u0 V (Int.toNat kk) := i2
  replace hl : lv_has ls 7 [(3, .int (iZ kk)), (0, .ref (a 9)), (1, .int (iZ tr)), (2, .ref (a 40))] := hl
  refine lv_iload_n hx hb dX0_costOf_2 rfl (lv_at hl 0 rfl) ?_
  refine lv_iconst (v := iZ 4) hx hb dX0_costOf_3 (by decide) ?_
  refine z_icmp_ge (x := kk) (y := 4) (tgt := 20) hx hb (by omega) (by omega) dX0_costOf_4 (by decide) (fun c1 => ?_) (fun c1 => ?_)
  · refine W.eq (g2 := F0 m 20 ls []) rfl ?_
    refine lv_iconst (v := iZ 0) hx hb dX0_costOf_20 (by decide) ?_
    refine lv_istore_n (lv' := [(3, .int (iZ 0)), (0, .ref (a 9)), (1, .int (iZ tr)), (2, .ref (a 40))]) hx hb dX0_costOf_21 rfl hl (by decide) rfl (fun ls hl => ?_)
    refine lv_iconst (v := iZ 0) hx hb dX0_costOf_22 (by decide) ?_
    refine lv_istore (lv' := [(4, .int (iZ 0)), (3, .int (iZ 0)), (0, .ref (a 9)), (1, .int (iZ tr)), (2, .ref (a 40))]) hx hb dX0_costOf_23 hl (by decide) rfl (fun ls hl => ?_)
    replace hl : lv_has ls 7 [(4, .int (iZ (0 : Int))), (3, .int (iZ (0 : Int))), (0, .ref (a 9)), (1, .int (iZ tr)), (2, .ref (a 40))] := lv_sub hl [0, 1, 2, 3, 4] rfl
    replace hP := And.intro hP hS
    clear hS
    revert ls
    revert hP
    revert H locs
    refine z_loopH (σ := Int × Int × (Nat → Nat → Int)) (fun x9 => ((0 ≤ x9.2.1 ∧ x9.2.1 ≤ V 9 3) ∧ (0 ≤ x9.1 ∧ x9.1 ≤ 3 * x9.2.1)) ∧ (x9.2.2 = f_us V tr (Int.toNat x9.2.1)) ∧ (x9.1 = c_coN V tr (Int.toNat x9.2.1)) ∧ (c_stp V tr = zfind (fun q => decide (c_bad V tr q)) (Int.toNat (V 9 3 - x9.2.1)) x9.2.1) ∧ (∀ k : Nat, k < 4 → 0 ≤ x9.2.2 12 k ∧ x9.2.2 12 k ≤ 3 * x9.2.1)) (fun x9 H9 locs9 => va_P D vwCl (cW C a (x9.2.2)) H9 ∧ va_S (cA a) s.heap H9 locs9) (fun x9 => [(4, .int (iZ (x9.2.1))), (3, .int (iZ (x9.1))), (0, .ref (a 9)), (1, .int (iZ tr)), (2, .ref (a 40))]) 7 (fun x9 => (V 9 3 - x9.2.1).toNat) ((0 : Int), (0 : Int), Va) ⟨(by show (0 ≤ (0 : Int) ∧ (0 : Int) ≤ V 9 3) ∧ (0 ≤ (0 : Int) ∧ (0 : Int) ≤ 3 * (0 : Int)); omega), (by show Va = f_us V tr (Int.toNat (0 : Int)); have q : kk = 4 := (by omega); rw [i2, q]; rfl), (by show (0 : Int) = c_coN V tr (Int.toNat (0 : Int)); rfl), (by show c_stp V tr = zfind (fun q => decide (c_bad V tr q)) (Int.toNat (V 9 3 - (0 : Int))) (0 : Int); rfl), (by show ∀ k : Nat, k < 4 → 0 ≤ Va 12 k ∧ Va 12 k ≤ 3 * (0 : Int); have q : kk = 4 := (by omega); rw [i2, q]; exact fun k hk => by rw [show f_u0 V (Int.toNat 4) 12 k = 0 from f_u0_0 V 4 k hk]; omega)⟩ ?_
    rintro ⟨co, mm, Vb⟩ hI9 ih25 H locs hPS ls hl
    have hP : va_P D vwCl (cW C a Vb) H := hPS.1
    have hS : va_S (cA a) s.heap H locs := hPS.2
    clear hPS
    have hD : va_D (cA a) (cW C a Vb) := cD_re hD
    obtain ⟨i3, i4, i5, i6, i7⟩ := hI9
    replace i3 : (0 ≤ mm ∧ mm ≤ V 9 3) ∧ (0 ≤ co ∧ co ≤ 3 * mm) := i3
    replace i4 : Vb = f_us V tr (Int.toNat mm) := i4
    replace i5 : co = c_coN V tr (Int.toNat mm) := i5
    replace i6 : c_stp V tr = zfind (fun q => decide (c_bad V tr q)) (Int.toNat (V 9 3 - mm)) mm := i6
    replace i7 : ∀ k : Nat, k < 4 → 0 ≤ Vb 12 k ∧ Vb 12 k ≤ 3 * mm := i7
    replace hl : lv_has ls 7 [(4, .int (iZ mm)), (3, .int (iZ co)), (0, .ref (a 9)), (1, .int (iZ tr)), (2, .ref (a 40))] := hl
    have o12 : ∀ g, g ≠ 12 → Vb g = V g := by rw [i4]; exact fun g hg => f_us_o V tr _ g hg
    have e93 : Vb 9 3 = V 9 3 := by rw [o12 9 (by decide)]
    have e11 := o12 11 (by decide)
    have e40 := o12 40 (by decide)
    have ekd : c_kd Vb tr mm = c_kd V tr mm := by unfold c_kd; rw [e93]
    refine lv_iload hx hb dX0_costOf_25 (lv_at hl 0 rfl) ?_
    refine lv_aload_n hx hb dX0_costOf_27 rfl (lv_at hl 2 rfl) ?_
    refine kq_get (i := 9) hx hb hts hin_X0 hown hK hP (by decide) (cE_9 rfl) rfl 3 (by decide) (hts (.fieldLink RX0 21 "WordFletchers$Allotment" "members" "I") (List.mem_cons_of_mem _ (List.mem_append_left _ (List.mem_of_getElem? (i := 1) rfl)))) rfl dX0_costOf_28 ?_
    refine z_icmp_ge (x := mm) (y := (Vb 9 3)) (tgt := 105) hx hb (by omega) (by omega) dX0_costOf_31 (by decide) (fun c3 => ?_) (fun c3 => ?_)
    · refine lv_iload_n hx hb dX0_costOf_105 rfl (lv_at hl 1 rfl) ?_
      exact kq_retM hx hb hK hP hS hr rfl (by unfold c_cst; first | (rw [if_pos (c_stp_end i6 (by omega)), i5]; congr 1; omega) | (rw [c_stp_at i6 (by omega) hbd]; exact (if_neg (by omega)).symm)) (by unfold f_cst; first | (rw [if_pos (c_stp_end i6 (by omega)), i4]; congr 1; omega) | (rw [c_stp_at i6 (by omega) hbd, i4]; congr 2; exact (if_neg (by omega)).symm)) dX0_costOf_106 hlocks
    · refine lv_aload_n hx hb dX0_costOf_34 rfl (lv_at hl 2 rfl) ?_
      refine lv_iload_n hx hb dX0_costOf_35 rfl (lv_at hl 3 rfl) ?_
      refine W.eq (g2 := F0 m 36 ls [.int (iZ tr), .ref (a 9)]) rfl ?_
      refine lv_iload hx hb dX0_costOf_36 (lv_at hl 0 rfl) ?_
      refine kq_ci (i := 9) (As := [.int (iZ tr), .int (iZ mm)]) (rest := []) ⟨hx, hb, hml, hown, hts⟩ hK hP hN hS (by decide) (cE_9 rfl) rfl (K_X0_kindOf l D C a b Vb tr mm (by omega) (by omega) (by omega)) (cwV 2 hts gX0_costOf_X0_kindOf rfl rfl rfl (by decide +kernel) ⟨Nat.le_of_ble_eq_true rfl, Nat.le_of_ble_eq_true rfl⟩) rfl rfl hl.1 (Nat.le_of_ble_eq_true rfl) ⟨Nat.le_of_ble_eq_true rfl, Nat.le_of_ble_eq_true rfl⟩ dX0_costOf_38 ?_
      have hkb := c_kd_bd Vb tr mm
      refine z_nm (fun kd hkd => ?_)
      have hkd2 : kd = c_kd V tr mm := by rw [hkd, ekd]
      rw [← hkd] at hkb
      have hfw9 := hA.fw (k := mm * 4 + kd) (by omega)
      refine lv_istore (lv' := [(5, .int (iZ kd)), (4, .int (iZ mm)), (3, .int (iZ co)), (0, .ref (a 9)), (1, .int (iZ tr)), (2, .ref (a 40))]) hx hb dX0_costOf_41 hl (by decide) rfl (fun ls hl => ?_)
      refine lv_aload_n hx hb dX0_costOf_43 rfl (lv_at hl 3 rfl) ?_
      refine kq_get (i := 9) hx hb hts hin_X0 hown hK hP (by decide) (cE_9 rfl) rfl 1 (by decide) (hts (.fieldLink RX0 15 "WordFletchers$Allotment" "fewest" "[I") (List.mem_cons_of_mem _ (List.mem_append_left _ (List.mem_of_getElem? (i := 2) rfl)))) rfl dX0_costOf_44 ?_
      refine lv_iload hx hb dX0_costOf_47 (lv_at hl 1 rfl) ?_
      refine lv_iconst (v := iZ 4) hx hb dX0_costOf_49 (by decide) ?_
      refine z_imul hx hb dX0_costOf_50 ?_
      refine lv_iload hx hb dX0_costOf_51 (lv_at hl 0 rfl) ?_
      refine z_iadd hx hb dX0_costOf_53 ?_
      refine kq_iald (i := 11) hx hb hK hP (by decide) (n := 24) (cE_11 rfl) (by decide) (Int.toNat ((mm * 4) + kd)) rfl (by omega) dX0_costOf_54 ?_
      refine z_nm (fun nn hnn => ?_)
      have hnn3 : nn = c_fw V tr mm := by rw [hnn, e11, hkd2]; rfl
      have hnn4 : -9 ≤ nn ∧ nn ≤ 3 := by rw [hnn, e11]; exact hfw9
      refine lv_istore (lv' := [(6, .int (iZ nn)), (5, .int (iZ kd)), (4, .int (iZ mm)), (3, .int (iZ co)), (0, .ref (a 9)), (1, .int (iZ tr)), (2, .ref (a 40))]) hx hb dX0_costOf_55 hl (by decide) rfl (fun ls hl => ?_)
      refine W.eq (g2 := F0 m 57 ls []) rfl ?_
      refine lv_iload hx hb dX0_costOf_57 (lv_at hl 0 rfl) ?_
      refine z_if_lt (x := nn) (tgt := 79) hx hb (by omega) dX0_costOf_59 (by decide) (fun c4 => ?_) (fun c4 => ?_)
      · have hbd : c_bad V tr mm := by unfold c_bad; rw [← hnn3, ← hkd2, ← i4]; omega
        refine lv_bipush (v := iZ (-9)) hx hb dX0_costOf_79 (by decide) ?_
        exact kq_retM hx hb hK hP hS hr rfl (by unfold c_cst; first | (rw [if_pos (c_stp_end i6 (by omega)), i5]; congr 1; omega) | (rw [c_stp_at i6 (by omega) hbd]; exact (if_neg (by omega)).symm)) (by unfold f_cst; first | (rw [if_pos (c_stp_end i6 (by omega)), i4]; congr 1; omega) | (rw [c_stp_at i6 (by omega) hbd, i4]; congr 2; exact (if_neg (by omega)).symm)) dX0_costOf_81 hlocks
      · refine lv_aload_n hx hb dX0_costOf_62 rfl (lv_at hl 4 rfl) ?_
        refine kq_get (i := 9) hx hb hts hin_X0 hown hK hP (by decide) (cE_9 rfl) rfl 2 (by decide) (hts (.fieldLink RX0 18 "WordFletchers$Allotment" "used" "[I") (List.mem_cons_of_mem _ (List.mem_append_left _ (List.mem_of_getElem? (i := 0) rfl)))) rfl dX0_costOf_63 ?_
        refine lv_iload hx hb dX0_costOf_66 (lv_at hl 1 rfl) ?_
        refine kq_iald (i := 12) hx hb hK hP (by decide) (n := 4) (cE_12 rfl) (by decide) (Int.toNat kd) rfl (by omega) dX0_costOf_68 ?_
        have h129 := i7 (Int.toNat kd) (by omega)
        refine lv_iload hx hb dX0_costOf_69 (lv_at hl 0 rfl) ?_
        refine z_iadd hx hb dX0_costOf_71 ?_
        refine lv_aload_n hx hb dX0_costOf_72 rfl (lv_at hl 6 rfl) ?_
        refine lv_iload hx hb dX0_costOf_73 (lv_at hl 1 rfl) ?_
        refine W.eq (g2 := F0 m 75 ls [.int (iZ kd), .ref (a 40), .int (iZ ((Vb 12 (Int.toNat kd)) + nn))]) rfl ?_
        refine kq_iald (i := 40) hx hb hK hP (isMo.l1 isMo_39) (n := 4) (cE_27 (isMo.s1 isMo_39)) (by decide) (Int.toNat kd) rfl (by omega) dX0_costOf_75 ?_
        have h409 : 0 ≤ V 40 (Int.toNat kd) ∧ V 40 (Int.toNat kd) ≤ 20 := hM.fe (k := kd) (by omega)
        have e409 : Vb 40 (Int.toNat kd) = V 40 (Int.toNat kd) := by rw [e40]
        refine z_icmp_le (x := ((Vb 12 (Int.toNat kd)) + nn)) (y := (Vb 40 (Int.toNat kd))) (tgt := 82) hx hb (by omega) (by omega) dX0_costOf_76 (by decide) (fun c5 => ?_) (fun c5 => ?_)
        · have hnb : ¬ c_bad V tr mm := by unfold c_bad; rw [← hnn3, ← hkd2, ← i4]; omega
          refine lv_aload_n hx hb dX0_costOf_82 rfl (lv_at hl 4 rfl) ?_
          refine kq_get (i := 9) hx hb hts hin_X0 hown hK hP (by decide) (cE_9 rfl) rfl 2 (by decide) (hts (.fieldLink RX0 18 "WordFletchers$Allotment" "used" "[I") (List.mem_cons_of_mem _ (List.mem_append_left _ (List.mem_of_getElem? (i := 0) rfl)))) rfl dX0_costOf_83 ?_
          refine lv_iload hx hb dX0_costOf_86 (lv_at hl 1 rfl) ?_
          refine lv_dup2_11 hx hb dX0_costOf_88 rfl rfl ?_
          refine kq_iald (i := 12) hx hb hK hP (by decide) (n := 4) (cE_12 rfl) (by decide) (Int.toNat kd) rfl (by omega) dX0_costOf_89 ?_
          refine lv_iload hx hb dX0_costOf_90 (lv_at hl 0 rfl) ?_
          refine z_iadd hx hb dX0_costOf_92 ?_
          refine kq_iast (i := 12) hx hb hK hP hD hS (by decide) (n := 4) (cE_12 rfl) (by decide) (Int.toNat kd) rfl (by omega) dX0_costOf_93 (fun H locs hP hD hS => ?_)
          obtain ⟨V6, hV6⟩ : ∃ z : Nat → Nat → Int, z = (mU Vb 12 (Int.toNat kd) ((Vb 12 (Int.toNat kd)) + nn)) := ⟨_, rfl⟩
          rw [← hV6] at hP hD
          refine lv_iload_n hx hb dX0_costOf_94 rfl (lv_at hl 3 rfl) ?_
          refine lv_iload hx hb dX0_costOf_95 (lv_at hl 0 rfl) ?_
          refine W.eq (g2 := F0 m 97 ls [.int (iZ nn), .int (iZ co)]) rfl ?_
          refine z_iadd hx hb dX0_costOf_97 ?_
          refine lv_istore_n (lv' := [(3, .int (iZ (co + nn))), (6, .int (iZ nn)), (5, .int (iZ kd)), (4, .int (iZ mm)), (0, .ref (a 9)), (1, .int (iZ tr)), (2, .ref (a 40))]) hx hb dX0_costOf_98 rfl hl (by decide) rfl (fun ls hl => ?_)
          refine lv_iinc (v := iZ (mm + 1)) (lv' := [(4, .int (iZ (mm + 1))), (3, .int (iZ (co + nn))), (6, .int (iZ nn)), (5, .int (iZ kd)), (0, .ref (a 9)), (1, .int (iZ tr)), (2, .ref (a 40))]) hx hb dX0_costOf_99 hl (k := 3) rfl (iZ_add _ _) (by decide) rfl (fun ls hl => ?_)
          refine lv_goto (tgt := 25) hx hb dX0_costOf_102 (by decide) ?_
          exact ih25 ((co + nn), (mm + 1), V6) ⟨(by show (0 ≤ (mm + 1) ∧ (mm + 1) ≤ V 9 3) ∧ (0 ≤ (co + nn) ∧ (co + nn) ≤ 3 * (mm + 1)); omega), (by show V6 = f_us V tr (Int.toNat (mm + 1)); rw [f_us_succ _ _ (by omega), ← i4, ← hkd2, ← hnn3]; assumption), (by show (co + nn) = c_coN V tr (Int.toNat (mm + 1)); rw [c_coN_succ _ _ (by omega), ← i5, ← hnn3]), (by show c_stp V tr = zfind (fun q => decide (c_bad V tr q)) (Int.toNat (V 9 3 - (mm + 1))) (mm + 1); rw [i6, zfind_step _ _ _ (by omega)]; exact if_neg (fun h9 => absurd (of_decide_eq_true h9) hnb)), (by show ∀ k : Nat, k < 4 → 0 ≤ V6 12 k ∧ V6 12 k ≤ 3 * (mm + 1); subst_vars; exact us_bd i7 (by omega) (by omega))⟩ (by show (V 9 3 - (mm + 1)).toNat < (V 9 3 - mm).toNat; omega) H locs ⟨hP, hS⟩ ls (lv_sub hl [0, 1, 4, 5, 6] rfl)
        · have hbd : c_bad V tr mm := by unfold c_bad; rw [← hnn3, ← hkd2, ← i4]; omega
          refine lv_bipush (v := iZ (-9)) hx hb dX0_costOf_79 (by decide) ?_
          exact kq_retM hx hb hK hP hS hr rfl (by unfold c_cst; first | (rw [if_pos (c_stp_end i6 (by omega)), i5]; congr 1; omega) | (rw [c_stp_at i6 (by omega) hbd]; exact (if_neg (by omega)).symm)) (by unfold f_cst; first | (rw [if_pos (c_stp_end i6 (by omega)), i4]; congr 1; omega) | (rw [c_stp_at i6 (by omega) hbd, i4]; congr 2; exact (if_neg (by omega)).symm)) dX0_costOf_81 hlocks
  · refine lv_aload_n hx hb dX0_costOf_7 rfl (lv_at hl 1 rfl) ?_
    refine kq_get (i := 9) hx hb hts hin_X0 hown hK hP (by decide) (cE_9 rfl) rfl 2 (by decide) (hts (.fieldLink RX0 18 "WordFletchers$Allotment" "used" "[I") (List.mem_cons_of_mem _ (List.mem_append_left _ (List.mem_of_getElem? (i := 0) rfl)))) rfl dX0_costOf_8 ?_
    refine lv_iload_n hx hb dX0_costOf_11 rfl (lv_at hl 0 rfl) ?_
    refine lv_iconst (v := iZ 0) hx hb dX0_costOf_12 (by decide) ?_
    refine kq_iast (i := 12) hx hb hK hP hD hS (by decide) (n := 4) (cE_12 rfl) (by decide) (Int.toNat kk) rfl (by omega) dX0_costOf_13 (fun H locs hP hD hS => ?_)
    obtain ⟨V7, hV7⟩ : ∃ z : Nat → Nat → Int, z = (mU Va 12 (Int.toNat kk) 0) := ⟨_, rfl⟩
    rw [← hV7] at hP hD
    refine lv_iinc (v := iZ (kk + 1)) (lv' := [(3, .int (iZ (kk + 1))), (0, .ref (a 9)), (1, .int (iZ tr)), (2, .ref (a 40))]) hx hb dX0_costOf_14 hl (k := 0) rfl (iZ_add _ _) (by decide) rfl (fun ls hl => ?_)
    refine W.eq (g2 := F0 m 17 ls []) rfl ?_
    refine lv_goto (tgt := 2) hx hb dX0_costOf_17 (by decide) ?_
    exact ih2 ((kk + 1), V7) ⟨(by show 0 ≤ (kk + 1) ∧ (kk + 1) ≤ 4; omega), (by show V7 = f_u0 V (Int.toNat (kk + 1)); rw [f_u0_succ _ (by omega), ← i2]; assumption)⟩ (by show (4 - (kk + 1)).toNat < (4 - kk).toNat; omega) H locs ⟨hP, hS⟩ ls (lv_sub hl [0, 1, 2, 3] rfl)
set_option maxHeartbeats 20000000 in
set_option maxRecDepth 100000 in
theorem K_X0_search (l : Launch) (D : va_G) (C : cC) (a b : Nat → Nat) (V : Nat → Nat → Int) (hA : alI V) (hM : moI V 39) (hDD : va_D (fun _ => True) (cW C a V)) : Met l yX0_search wsX0_search ({ frames := 2, cells := 0, slots := 0, locals := 48 }) (va_Pc [.ref (a 9), .ref (a 40)] (cOk D C a b V)) (va_Qi (fun r (_ : Unit) => r = iZ (if 0 ≤ f_sea V 9 5 then 1 else 0)) (fun _ t => cPo D C a (f_sea V) t) (cA a)) 0 0 (cA a) := by
  refine Met.ofW (cc := cX0_search) (maxL := 4) (ret := (some .boolean)) (by decide) rfl ?_
  intro p e s m args below meth c s₁ B hml hv
  obtain ⟨rfl, hP, hK, hN⟩ := hv
  have hx := B.exec
  have hb := B.bytes
  have hr := B.returns
  have hts := atoms_spec (ws := wsX0_search) B.pre
  have hown : s.vm.findClass RX0 = some m.cls := findClass_of_methodNamed B.named
  have hlocks := B.notSynchronized
  have hin_X0 : ∀ w ∈ wsX00, w ∈ wsX0_search := fun _ w_h => (List.mem_cons_of_mem _ (List.mem_append_right _ w_h))
  have hl := lv_entry ([.ref (a 9), .ref (a 40)]) (n := 4) (Nat.le_of_ble_eq_true rfl)
  rw [lg_entry_eq]
  generalize (lg_sl ([.ref (a 9), .ref (a 40)]) ++ List.replicate (4 - (lg_sl ([.ref (a 9), .ref (a 40)])).length) Slot.unset).toArray = ls at hl ⊢
  replace hl : lv_has ls 4 [(0, .ref (a 9)), (1, .ref (a 40))] := hl
  have hD : va_D (cA a) (cW C a V) := cD_own hDD
  generalize hHe : s.heap = H at hP ⊢
  have hS : va_S (cA a) s.heap H [] := by rw [hHe]; exact va_S.rf
  generalize hlo : ([] : List Loc) = locs at hS ⊢
  clear hHe hlo
  have hA1 := hA.1
  have hz12 := zp_le12 (k := 2 * V 9 3) (by omega)
  have hzp9 := zp_nn (2 * V 9 3)
  refine lv_aload_n hx hb dX0_search_0 rfl (lv_at hl 0 rfl) ?_
  refine lv_bipush (v := iZ (-9)) hx hb dX0_search_1 (by decide) ?_
  refine kq_put (ty := .int) (i := 9) hx hb hts hin_X0 hown tyX0 tyX0_ok nmX0 hK hP hD hS (by decide) (cE_9 rfl) rfl 5 (by decide) (hts (.fieldLink RX0 25 "WordFletchers$Allotment" "total" "I") (List.mem_cons_of_mem _ (List.mem_append_left _ (List.mem_of_getElem? (i := 0) rfl)))) rfl (by decide +kernel) rfl rfl (Nat.le_of_ble_eq_true rfl) rfl dX0_search_3 (fun H locs hP hD hS => ?_)
  obtain ⟨V1, hV1⟩ : ∃ z : Nat → Nat → Int, z = (mU V 9 5 (-9)) := ⟨_, rfl⟩
  rw [← hV1] at hP hD
  refine lv_iconst (v := iZ 0) hx hb dX0_search_6 (by decide) ?_
  refine lv_istore_n (lv' := [(2, .int (iZ 0)), (0, .ref (a 9)), (1, .ref (a 40))]) hx hb dX0_search_7 rfl hl (by decide) rfl (fun ls hl => ?_)
  replace hl : lv_has ls 4 [(2, .int (iZ (0 : Int))), (0, .ref (a 9)), (1, .ref (a 40))] := lv_sub hl [0, 1, 2] rfl
  replace hP := And.intro hP hS
  clear hS
  revert ls
  revert hP
  revert H locs
  refine z_loopH (σ := Int × (Nat → Nat → Int)) (fun x9 => (0 ≤ x9.1 ∧ x9.1 ≤ zp (2 * V 9 3)) ∧ (x9.2 = f_se V (Int.toNat x9.1))) (fun x9 H9 locs9 => va_P D vwCl (cW C a (x9.2)) H9 ∧ va_S (cA a) s.heap H9 locs9) (fun x9 => [(2, .int (iZ (x9.1))), (0, .ref (a 9)), (1, .ref (a 40))]) 4 (fun x9 => (zp (2 * V 9 3) - x9.1).toNat) ((0 : Int), V1) ⟨(by show 0 ≤ (0 : Int) ∧ (0 : Int) ≤ zp (2 * V 9 3); omega), (by show V1 = f_se V (Int.toNat (0 : Int)); assumption)⟩ ?_
  rintro ⟨tr, Va⟩ hI9 ih8 H locs hPS ls hl
  have hP : va_P D vwCl (cW C a Va) H := hPS.1
  have hS : va_S (cA a) s.heap H locs := hPS.2
  clear hPS
  have hD : va_D (cA a) (cW C a Va) := cD_re hD
  obtain ⟨i1, i2⟩ := hI9
  replace i1 : 0 ≤ tr ∧ tr ≤ zp (2 * V 9 3) := i1
  replace i2 : Va = f_se V (Int.toNat tr) := i2
  replace hl : lv_has ls 4 [(2, .int (iZ tr)), (0, .ref (a 9)), (1, .ref (a 40))] := hl
  have oo : c_seo V Va := by rw [i2]; exact f_se_o V _
  have e93 : Va 9 3 = V 9 3 := oo.2
  have hzz : zp (2 * Va 9 3) = zp (2 * V 9 3) := by rw [e93]
  have hA_Va : alI Va := hA.se oo
  have hM_Va : moI Va 39 := hM.of (oo.1 _ (by decide) (by decide)) (oo.1 _ (by decide) (by decide)) (oo.1 _ (by decide) (by decide)) (oo.1 _ (by decide) (by decide)) (oo.1 _ (by decide) (by decide))
  have htt : c_tot Va (Int.toNat tr) := by rw [i2]; exact f_se_tot hA _
  unfold c_tot at htt
  refine lv_iload_n hx hb dX0_search_8 rfl (lv_at hl 0 rfl) ?_
  refine lv_iconst (v := iZ 1) hx hb dX0_search_9 (by decide) ?_
  refine lv_iconst (v := iZ 2) hx hb dX0_search_10 (by decide) ?_
  refine lv_aload_n hx hb dX0_search_11 rfl (lv_at hl 1 rfl) ?_
  refine kq_get (i := 9) hx hb hts hin_X0 hown hK hP (by decide) (cE_9 rfl) rfl 3 (by decide) (hts (.fieldLink RX0 21 "WordFletchers$Allotment" "members" "I") (List.mem_cons_of_mem _ (List.mem_append_left _ (List.mem_of_getElem? (i := 1) rfl)))) rfl dX0_search_12 ?_
  refine z_imul hx hb dX0_search_15 ?_
  refine W.eq (g2 := F0 m 16 ls [.int (iZ (2 * (Va 9 3))), .int (iZ 1), .int (iZ tr)]) rfl ?_
  refine z_ishl1 hx hb (by omega) dX0_search_16 ?_
  refine z_icmp_ge (x := tr) (y := (zp (2 * (Va 9 3)))) (tgt := 62) hx hb (by omega) (by omega) dX0_search_17 (by decide) (fun c2 => ?_) (fun c2 => ?_)
  · refine W.eq (g2 := F0 m 62 ls []) rfl ?_
    refine lv_aload_n hx hb dX0_search_62 rfl (lv_at hl 1 rfl) ?_
    refine kq_get (i := 9) hx hb hts hin_X0 hown hK hP (by decide) (cE_9 rfl) rfl 5 (by decide) (hts (.fieldLink RX0 25 "WordFletchers$Allotment" "total" "I") (List.mem_cons_of_mem _ (List.mem_append_left _ (List.mem_of_getElem? (i := 0) rfl)))) rfl dX0_search_63 ?_
    refine z_if_lt (x := (Va 9 5)) (tgt := 73) hx hb (by omega) dX0_search_66 (by decide) (fun c11 => ?_) (fun c11 => ?_)
    · refine lv_iconst (v := iZ 0) hx hb dX0_search_73 (by decide) ?_
      exact kq_retM hx hb hK hP hS hr (z_nbool (by first | omega | (split <;> omega))) (by have q : tr = zp (2 * V 9 3) := (by omega); have q2 : f_sea V = Va := (by rw [i2, q]; rfl); rw [q2]; first | exact (if_pos (by omega)).symm | exact (if_neg (by omega)).symm) (by have q : tr = zp (2 * V 9 3) := (by omega); rw [i2, q]; rfl) dX0_search_74 hlocks
    · refine lv_iconst (v := iZ 1) hx hb dX0_search_69 (by decide) ?_
      refine lv_goto (tgt := 74) hx hb dX0_search_70 (by decide) ?_
      exact kq_retM hx hb hK hP hS hr (z_nbool (by first | omega | (split <;> omega))) (by have q : tr = zp (2 * V 9 3) := (by omega); have q2 : f_sea V = Va := (by rw [i2, q]; rfl); rw [q2]; first | exact (if_pos (by omega)).symm | exact (if_neg (by omega)).symm) (by have q : tr = zp (2 * V 9 3) := (by omega); rw [i2, q]; rfl) dX0_search_74 hlocks
  · refine lv_aload_n hx hb dX0_search_20 rfl (lv_at hl 1 rfl) ?_
    refine lv_iload_n hx hb dX0_search_21 rfl (lv_at hl 0 rfl) ?_
    refine lv_aload_n hx hb dX0_search_22 rfl (lv_at hl 2 rfl) ?_
    refine kq_cm (i := 9) (As := [.int (iZ tr), .ref (a 40)]) (rest := []) ⟨hx, hb, hml, hown, hts⟩ hK hP hN hD hS (by decide) (cE_9 rfl) rfl (K_X0_costOf l D C a b Va tr (by assumption) (by assumption) (by omega) (hD.weaken (fun _ _ _ _ => trivial))) (cwV 2 hts gX0_search_X0_costOf rfl rfl rfl (by decide +kernel) ⟨Nat.le_of_ble_eq_true rfl, Nat.le_of_ble_eq_true rfl⟩) rfl rfl hl.1 (Nat.le_of_ble_eq_true rfl) ⟨Nat.le_of_ble_eq_true rfl, Nat.le_of_ble_eq_true rfl⟩ dX0_search_23 (fun H locs hP hD hS => ?_)
    obtain ⟨V12, hV12⟩ : ∃ z : Nat → Nat → Int, z = (f_cst Va tr) := ⟨_, rfl⟩
    rw [← hV12] at hP hD
    have hfc : V12 = f_cst Va tr := hV12
    have e9_V12 : V12 9 = Va 9 := by rw [hV12]; exact f_cst_o Va tr 9 (by decide)
    have e95 : V12 9 5 = Va 9 5 := by rw [e9_V12]
    refine z_nm (fun co hco => ?_)
    have hcb := c_cst_bd hA_Va tr
    rw [← hco] at hcb
    refine W.eq (g2 := F0 m 26 ls [.int (iZ co)]) rfl ?_
    refine lv_istore_n (lv' := [(3, .int (iZ co)), (2, .int (iZ tr)), (0, .ref (a 9)), (1, .ref (a 40))]) hx hb dX0_search_26 rfl hl (by decide) rfl (fun ls hl => ?_)
    refine lv_iload_n hx hb dX0_search_27 rfl (lv_at hl 0 rfl) ?_
    refine z_if_lt (x := co) (tgt := 56) hx hb (by omega) dX0_search_28 (by decide) (fun c13 => ?_) (fun c13 => ?_)
    · refine lv_iinc (v := iZ (tr + 1)) (lv' := [(2, .int (iZ (tr + 1))), (3, .int (iZ co)), (0, .ref (a 9)), (1, .ref (a 40))]) hx hb dX0_search_56 hl (k := 1) rfl (iZ_add _ _) (by decide) rfl (fun ls hl => ?_)
      refine lv_goto (tgt := 8) hx hb dX0_search_59 (by decide) ?_
      exact ih8 ((tr + 1), V12) ⟨(by show 0 ≤ (tr + 1) ∧ (tr + 1) ≤ zp (2 * V 9 3); omega), (by show V12 = f_se V (Int.toNat (tr + 1)); rw [f_se_succ _ (by omega), ← i2]; unfold c_sst; rw [← hco, ← hfc]; first | exact (if_neg (by omega)).symm | (rw [if_pos (by omega)]; subst_vars; rfl))⟩ (by show (zp (2 * V 9 3) - (tr + 1)).toNat < (zp (2 * V 9 3) - tr).toNat; omega) H locs ⟨hP, hS⟩ ls (lv_sub hl [0, 2, 3] rfl)
    · refine lv_aload_n hx hb dX0_search_31 rfl (lv_at hl 2 rfl) ?_
      refine kq_get (i := 9) hx hb hts hin_X0 hown hK hP (by decide) (cE_9 rfl) rfl 5 (by decide) (hts (.fieldLink RX0 25 "WordFletchers$Allotment" "total" "I") (List.mem_cons_of_mem _ (List.mem_append_left _ (List.mem_of_getElem? (i := 0) rfl)))) rfl dX0_search_32 ?_
      refine z_if_lt (x := (V12 9 5)) (tgt := 46) hx hb (by omega) dX0_search_35 (by decide) (fun c14 => ?_) (fun c14 => ?_)
      · refine lv_aload_n hx hb dX0_search_46 rfl (lv_at hl 2 rfl) ?_
        refine lv_iload_n hx hb dX0_search_47 rfl (lv_at hl 0 rfl) ?_
        refine kq_put (ty := .int) (i := 9) hx hb hts hin_X0 hown tyX0 tyX0_ok nmX0 hK hP hD hS (by decide) (cE_9 rfl) rfl 5 (by decide) (hts (.fieldLink RX0 25 "WordFletchers$Allotment" "total" "I") (List.mem_cons_of_mem _ (List.mem_append_left _ (List.mem_of_getElem? (i := 0) rfl)))) rfl (by decide +kernel) rfl rfl (Nat.le_of_ble_eq_true rfl) rfl dX0_search_48 (fun H locs hP hD hS => ?_)
        obtain ⟨V15, hV15⟩ : ∃ z : Nat → Nat → Int, z = (mU V12 9 5 co) := ⟨_, rfl⟩
        rw [← hV15] at hP hD
        refine lv_aload_n hx hb dX0_search_51 rfl (lv_at hl 2 rfl) ?_
        refine W.eq (g2 := F0 m 52 ls [.ref (a 9)]) rfl ?_
        refine lv_iload_n hx hb dX0_search_52 rfl (lv_at hl 1 rfl) ?_
        refine kq_put (ty := .int) (i := 9) hx hb hts hin_X0 hown tyX0 tyX0_ok nmX0 hK hP hD hS (by decide) (cE_9 rfl) rfl 4 (by decide) (hts (.fieldLink RX0 32 "WordFletchers$Allotment" "way" "I") (List.mem_cons_of_mem _ (List.mem_append_left _ (List.mem_of_getElem? (i := 2) rfl)))) rfl (by decide +kernel) rfl rfl (Nat.le_of_ble_eq_true rfl) rfl dX0_search_53 (fun H locs hP hD hS => ?_)
        obtain ⟨V16, hV16⟩ : ∃ z : Nat → Nat → Int, z = (mU V15 9 4 tr) := ⟨_, rfl⟩
        rw [← hV16] at hP hD
        refine lv_iinc (v := iZ (tr + 1)) (lv' := [(2, .int (iZ (tr + 1))), (3, .int (iZ co)), (0, .ref (a 9)), (1, .ref (a 40))]) hx hb dX0_search_56 hl (k := 1) rfl (iZ_add _ _) (by decide) rfl (fun ls hl => ?_)
        refine lv_goto (tgt := 8) hx hb dX0_search_59 (by decide) ?_
        exact ih8 ((tr + 1), V16) ⟨(by show 0 ≤ (tr + 1) ∧ (tr + 1) ≤ zp (2 * V 9 3); omega), (by show V16 = f_se V (Int.toNat (tr + 1)); rw [f_se_succ _ (by omega), ← i2]; unfold c_sst; rw [← hco, ← hfc]; first | exact (if_neg (by omega)).symm | (rw [if_pos (by omega)]; subst_vars; rfl))⟩ (by show (zp (2 * V 9 3) - (tr + 1)).toNat < (zp (2 * V 9 3) - tr).toNat; omega) H locs ⟨hP, hS⟩ ls (lv_sub hl [0, 2, 3] rfl)
      · refine lv_iload_n hx hb dX0_search_38 rfl (lv_at hl 0 rfl) ?_
        refine lv_aload_n hx hb dX0_search_39 rfl (lv_at hl 2 rfl) ?_
        refine kq_get (i := 9) hx hb hts hin_X0 hown hK hP (by decide) (cE_9 rfl) rfl 5 (by decide) (hts (.fieldLink RX0 25 "WordFletchers$Allotment" "total" "I") (List.mem_cons_of_mem _ (List.mem_append_left _ (List.mem_of_getElem? (i := 0) rfl)))) rfl dX0_search_40 ?_
        refine z_icmp_ge (x := co) (y := (V12 9 5)) (tgt := 56) hx hb (by omega) (by omega) dX0_search_43 (by decide) (fun c17 => ?_) (fun c17 => ?_)
        · refine lv_iinc (v := iZ (tr + 1)) (lv' := [(2, .int (iZ (tr + 1))), (3, .int (iZ co)), (0, .ref (a 9)), (1, .ref (a 40))]) hx hb dX0_search_56 hl (k := 1) rfl (iZ_add _ _) (by decide) rfl (fun ls hl => ?_)
          refine lv_goto (tgt := 8) hx hb dX0_search_59 (by decide) ?_
          exact ih8 ((tr + 1), V12) ⟨(by show 0 ≤ (tr + 1) ∧ (tr + 1) ≤ zp (2 * V 9 3); omega), (by show V12 = f_se V (Int.toNat (tr + 1)); rw [f_se_succ _ (by omega), ← i2]; unfold c_sst; rw [← hco, ← hfc]; first | exact (if_neg (by omega)).symm | (rw [if_pos (by omega)]; subst_vars; rfl))⟩ (by show (zp (2 * V 9 3) - (tr + 1)).toNat < (zp (2 * V 9 3) - tr).toNat; omega) H locs ⟨hP, hS⟩ ls (lv_sub hl [0, 2, 3] rfl)
        · refine lv_aload_n hx hb dX0_search_46 rfl (lv_at hl 2 rfl) ?_
          refine lv_iload_n hx hb dX0_search_47 rfl (lv_at hl 0 rfl) ?_
          refine W.eq (g2 := F0 m 48 ls [.int (iZ co), .ref (a 9)]) rfl ?_
          refine kq_put (ty := .int) (i := 9) hx hb hts hin_X0 hown tyX0 tyX0_ok nmX0 hK hP hD hS (by decide) (cE_9 rfl) rfl 5 (by decide) (hts (.fieldLink RX0 25 "WordFletchers$Allotment" "total" "I") (List.mem_cons_of_mem _ (List.mem_append_left _ (List.mem_of_getElem? (i := 0) rfl)))) rfl (by decide +kernel) rfl rfl (Nat.le_of_ble_eq_true rfl) rfl dX0_search_48 (fun H locs hP hD hS => ?_)
          obtain ⟨V18, hV18⟩ : ∃ z : Nat → Nat → Int, z = (mU V12 9 5 co) := ⟨_, rfl⟩
          rw [← hV18] at hP hD
          refine lv_aload_n hx hb dX0_search_51 rfl (lv_at hl 2 rfl) ?_
          refine lv_iload_n hx hb dX0_search_52 rfl (lv_at hl 1 rfl) ?_
          refine kq_put (ty := .int) (i := 9) hx hb hts hin_X0 hown tyX0 tyX0_ok nmX0 hK hP hD hS (by decide) (cE_9 rfl) rfl 4 (by decide) (hts (.fieldLink RX0 32 "WordFletchers$Allotment" "way" "I") (List.mem_cons_of_mem _ (List.mem_append_left _ (List.mem_of_getElem? (i := 2) rfl)))) rfl (by decide +kernel) rfl rfl (Nat.le_of_ble_eq_true rfl) rfl dX0_search_53 (fun H locs hP hD hS => ?_)
          obtain ⟨V19, hV19⟩ : ∃ z : Nat → Nat → Int, z = (mU V18 9 4 tr) := ⟨_, rfl⟩
          rw [← hV19] at hP hD
          refine lv_iinc (v := iZ (tr + 1)) (lv' := [(2, .int (iZ (tr + 1))), (3, .int (iZ co)), (0, .ref (a 9)), (1, .ref (a 40))]) hx hb dX0_search_56 hl (k := 1) rfl (iZ_add _ _) (by decide) rfl (fun ls hl => ?_)
          refine lv_goto (tgt := 8) hx hb dX0_search_59 (by decide) ?_
          exact ih8 ((tr + 1), V19) ⟨(by show 0 ≤ (tr + 1) ∧ (tr + 1) ≤ zp (2 * V 9 3); omega), (by show V19 = f_se V (Int.toNat (tr + 1)); rw [f_se_succ _ (by omega), ← i2]; unfold c_sst; rw [← hco, ← hfc]; first | exact (if_neg (by omega)).symm | (rw [if_pos (by omega)]; subst_vars; rfl))⟩ (by show (zp (2 * V 9 3) - (tr + 1)).toNat < (zp (2 * V 9 3) - tr).toNat; omega) H locs ⟨hP, hS⟩ ls (lv_sub hl [0, 2, 3] rfl)
set_option maxHeartbeats 4000000 in
set_option maxRecDepth 100000 in
theorem K_X0_shareOf (l : Launch) (D : va_G) (C : cC) (a b : Nat → Nat) (V : Nat → Nat → Int) (sy : Int) (hA : alI V) (h0 : 0 ≤ V 9 4 ∧ V 9 4 < 4096) (h1 : -2147483648 ≤ sy ∧ sy < 2147483648) : Met l yX0_shareOf wsX0_shareOf ({ frames := 1, cells := 0, slots := 0, locals := 22 }) (va_Pc [.ref (a 9), .int (iZ sy)] (cOk D C a b V)) (vp_Si (fun r => r = iZ (c_sha V sy))) 0 0 (fun _ => False) := by
  refine Met.ofW (cc := cX0_shareOf) (maxL := 4) (ret := (some .int)) (by decide) rfl ?_
  intro p e s m args below meth c s₁ B hml hv
  obtain ⟨rfl, hP, hK, hN⟩ := hv
  have hx := B.exec
  have hb := B.bytes
  have hr := B.returns
  have hts := atoms_spec (ws := wsX0_shareOf) B.pre
  have hown : s.vm.findClass RX0 = some m.cls := findClass_of_methodNamed B.named
  have hlocks := B.notSynchronized
  have hin_X0 : ∀ w ∈ wsX00, w ∈ wsX0_shareOf := fun _ w_h => (List.mem_cons_of_mem _ (List.mem_append_right _ w_h))
  have hl := lv_entry ([.ref (a 9), .int (iZ sy)]) (n := 4) (Nat.le_of_ble_eq_true rfl)
  rw [lg_entry_eq]
  generalize (lg_sl ([.ref (a 9), .int (iZ sy)]) ++ List.replicate (4 - (lg_sl ([.ref (a 9), .int (iZ sy)])).length) Slot.unset).toArray = ls at hl ⊢
  replace hl : lv_has ls 4 [(0, .ref (a 9)), (1, .int (iZ sy))] := hl
  have hS : va_S (cA a) s.heap s.heap [] := va_S.rf
  have hA1 := hA.1
  refine lv_iconst (v := iZ 0) hx hb dX0_shareOf_0 (by decide) ?_
  refine lv_istore_n (lv' := [(2, .int (iZ 0)), (0, .ref (a 9)), (1, .int (iZ sy))]) hx hb dX0_shareOf_1 rfl hl (by decide) rfl (fun ls hl => ?_)
  replace hl : lv_has ls 4 [(2, .int (iZ (0 : Int))), (0, .ref (a 9)), (1, .int (iZ sy))] := lv_sub hl [0, 1, 2] rfl
  revert ls
  refine z_loop (σ := Int) (fun x9 => (0 ≤ x9 ∧ x9 ≤ V 9 3) ∧ (c_shi V sy = zfind (fun q => decide (V 10 (Int.toNat q) = sy)) (Int.toNat (V 9 3 - x9)) x9)) (fun x9 => [(2, .int (iZ x9)), (0, .ref (a 9)), (1, .int (iZ sy))]) 4 (fun x9 => (V 9 3 - x9).toNat) (0 : Int) ⟨(by show 0 ≤ (0 : Int) ∧ (0 : Int) ≤ V 9 3; omega), (by show c_shi V sy = zfind (fun q => decide (V 10 (Int.toNat q) = sy)) (Int.toNat (V 9 3 - (0 : Int))) (0 : Int); rfl)⟩ ?_
  rintro kk hI9 ih2 ls hl
  obtain ⟨i1, i2⟩ := hI9
  replace i1 : 0 ≤ kk ∧ kk ≤ V 9 3 := i1
  replace i2 : c_shi V sy = zfind (fun q => decide (V 10 (Int.toNat q) = sy)) (Int.toNat (V 9 3 - kk)) kk := i2
  replace hl : lv_has ls 4 [(2, .int (iZ kk)), (0, .ref (a 9)), (1, .int (iZ sy))] := hl
  have hsa9 : kk < V 9 3 → 0 ≤ V 10 (Int.toNat kk) ∧ V 10 (Int.toNat kk) ≤ 5 := fun h9 => hA.sa ⟨i1.1, h9⟩
  refine lv_iload_n hx hb dX0_shareOf_2 rfl (lv_at hl 0 rfl) ?_
  refine lv_aload_n hx hb dX0_shareOf_3 rfl (lv_at hl 1 rfl) ?_
  refine kq_get (i := 9) hx hb hts hin_X0 hown hK hP (by decide) (cE_9 rfl) rfl 3 (by decide) (hts (.fieldLink RX0 21 "WordFletchers$Allotment" "members" "I") (List.mem_cons_of_mem _ (List.mem_append_left _ (List.mem_of_getElem? (i := 0) rfl)))) rfl dX0_shareOf_4 ?_
  refine z_icmp_ge (x := kk) (y := (V 9 3)) (tgt := 52) hx hb (by omega) (by omega) dX0_shareOf_7 (by decide) (fun c1 => ?_) (fun c1 => ?_)
  · refine W.eq (g2 := F0 m 52 ls []) rfl ?_
    refine lv_bipush (v := iZ (-9)) hx hb dX0_shareOf_52 (by decide) ?_
    exact mq_ret hx hb hr rfl (by unfold c_sha; first | (have q : c_shi V sy = kk := (by rw [i2, zfind_step _ _ _ (by omega)]; exact if_pos (decide_eq_true (by assumption))); rw [q]; exact (if_neg (by omega)).symm) | (have q : c_shi V sy = -9 := (by rw [i2, show Int.toNat (V 9 3 - kk) = 0 by omega]; rfl); rw [q]; rfl)) dX0_shareOf_54 hlocks rfl
  · refine lv_aload_n hx hb dX0_shareOf_10 rfl (lv_at hl 1 rfl) ?_
    refine kq_get (i := 9) hx hb hts hin_X0 hown hK hP (by decide) (cE_9 rfl) rfl 0 (by decide) (hts (.fieldLink RX0 9 "WordFletchers$Allotment" "saying" "[I") (List.mem_cons_of_mem _ (List.mem_append_left _ (List.mem_of_getElem? (i := 1) rfl)))) rfl dX0_shareOf_11 ?_
    refine lv_iload_n hx hb dX0_shareOf_14 rfl (lv_at hl 0 rfl) ?_
    refine kq_iald (i := 10) hx hb hK hP (by decide) (n := 6) (cE_10 rfl) (by decide) (Int.toNat kk) rfl (by omega) dX0_shareOf_15 ?_
    refine lv_iload_n hx hb dX0_shareOf_16 rfl (lv_at hl 2 rfl) ?_
    refine z_icmp_ne (x := (V 10 (Int.toNat kk))) (y := sy) (tgt := 46) hx hb (by omega) (by omega) dX0_shareOf_17 (by decide) (fun c2 => ?_) (fun c2 => ?_)
    · refine lv_iinc (v := iZ (kk + 1)) (lv' := [(2, .int (iZ (kk + 1))), (0, .ref (a 9)), (1, .int (iZ sy))]) hx hb dX0_shareOf_46 hl (k := 0) rfl (iZ_add _ _) (by decide) rfl (fun ls hl => ?_)
      refine lv_goto (tgt := 2) hx hb dX0_shareOf_49 (by decide) ?_
      exact ih2 (kk + 1) ⟨(by show 0 ≤ (kk + 1) ∧ (kk + 1) ≤ V 9 3; omega), (by show c_shi V sy = zfind (fun q => decide (V 10 (Int.toNat q) = sy)) (Int.toNat (V 9 3 - (kk + 1))) (kk + 1); rw [i2, zfind_step _ _ _ (by omega)]; exact if_neg (fun h9 => absurd (of_decide_eq_true h9) (by assumption)))⟩ (by show (V 9 3 - (kk + 1)).toNat < (V 9 3 - kk).toNat; omega) ls (lv_sub hl [0, 1, 2] rfl)
    · refine lv_aload_n hx hb dX0_shareOf_20 rfl (lv_at hl 1 rfl) ?_
      refine lv_aload_n hx hb dX0_shareOf_21 rfl (lv_at hl 1 rfl) ?_
      refine W.eq (g2 := F0 m 22 ls [.ref (a 9), .ref (a 9)]) rfl ?_
      refine kq_get (i := 9) hx hb hts hin_X0 hown hK hP (by decide) (cE_9 rfl) rfl 4 (by decide) (hts (.fieldLink RX0 32 "WordFletchers$Allotment" "way" "I") (List.mem_cons_of_mem _ (List.mem_append_left _ (List.mem_of_getElem? (i := 2) rfl)))) rfl dX0_shareOf_22 ?_
      refine lv_iload_n hx hb dX0_shareOf_25 rfl (lv_at hl 0 rfl) ?_
      refine kq_ci (i := 9) (As := [.int (iZ (V 9 4)), .int (iZ kk)]) (rest := []) ⟨hx, hb, hml, hown, hts⟩ hK hP hN hS (by decide) (cE_9 rfl) rfl (K_X0_kindOf l D C a b V (V 9 4) kk (by omega) (by omega) (by omega)) (cwV 2 hts gX0_shareOf_X0_kindOf rfl rfl rfl (by decide +kernel) ⟨Nat.le_of_ble_eq_true rfl, Nat.le_of_ble_eq_true rfl⟩) rfl rfl hl.1 (Nat.le_of_ble_eq_true rfl) ⟨Nat.le_of_ble_eq_true rfl, Nat.le_of_ble_eq_true rfl⟩ dX0_shareOf_26 ?_
      have hkb := c_kd_bd V (V 9 4) kk
      refine lv_istore_n (lv' := [(3, .int (iZ (c_kd V (V 9 4) kk))), (2, .int (iZ kk)), (0, .ref (a 9)), (1, .int (iZ sy))]) hx hb dX0_shareOf_29 rfl hl (by decide) rfl (fun ls hl => ?_)
      refine lv_bipush (v := iZ 10) hx hb dX0_shareOf_30 (by decide) ?_
      refine lv_iload_n hx hb dX0_shareOf_32 rfl (lv_at hl 0 rfl) ?_
      refine z_imul hx hb dX0_shareOf_33 ?_
      refine lv_aload_n hx hb dX0_shareOf_34 rfl (lv_at hl 2 rfl) ?_
      refine kq_get (i := 9) hx hb hts hin_X0 hown hK hP (by decide) (cE_9 rfl) rfl 1 (by decide) (hts (.fieldLink RX0 15 "WordFletchers$Allotment" "fewest" "[I") (List.mem_cons_of_mem _ (List.mem_append_left _ (List.mem_of_getElem? (i := 3) rfl)))) rfl dX0_shareOf_35 ?_
      refine lv_iload_n hx hb dX0_shareOf_38 rfl (lv_at hl 1 rfl) ?_
      refine lv_iconst (v := iZ 4) hx hb dX0_shareOf_39 (by decide) ?_
      refine z_imul hx hb dX0_shareOf_40 ?_
      refine W.eq (g2 := F0 m 41 ls [.int (iZ (kk * 4)), .ref (a 11), .int (iZ (10 * c_kd V (V 9 4) kk))]) rfl ?_
      refine lv_iload_n hx hb dX0_shareOf_41 rfl (lv_at hl 0 rfl) ?_
      refine z_iadd hx hb dX0_shareOf_42 ?_
      refine kq_iald (i := 11) hx hb hK hP (by decide) (n := 24) (cE_11 rfl) (by decide) (Int.toNat ((kk * 4) + c_kd V (V 9 4) kk)) rfl (by omega) dX0_shareOf_43 ?_
      refine z_iadd hx hb dX0_shareOf_44 ?_
      exact mq_ret hx hb hr rfl (by unfold c_sha; first | (have q : c_shi V sy = kk := (by rw [i2, zfind_step _ _ _ (by omega)]; exact if_pos (decide_eq_true (by assumption))); rw [q]; exact (if_neg (by omega)).symm) | (have q : c_shi V sy = -9 := (by rw [i2, show Int.toNat (V 9 3 - kk) = 0 by omega]; rfl); rw [q]; rfl)) dX0_shareOf_45 hlocks rfl
