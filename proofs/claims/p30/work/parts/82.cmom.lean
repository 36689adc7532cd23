set_option maxHeartbeats 4000000 in
set_option maxRecDepth 100000 in
theorem K_X2_become (l : Launch) (D : va_G) (C : cC) (a b : Nat → Nat) (V : Nat → Nat → Int) (i : Nat) (hi : isMo i) (j : Nat) (hj : isMo j) (hDD : va_D (fun _ => True) (cW C a V)) : Met l yX2_become wsX2_become ({ frames := 1, cells := 0, slots := 0, locals := 48 }) (va_Pc [.ref (a i), .ref (a j)] (cOk D C a b V)) (va_Qv (fun (_ : Unit) => True) (fun _ t => cPo D C a (f_bec V i j) t) (cA a)) 0 0 (cA a) := by
  refine Met.ofW (cc := cX2_become) (maxL := 2) (ret := none) (by decide) rfl ?_
  intro p e s m args below meth c s₁ B hml hv
  obtain ⟨rfl, hP, hK, hN⟩ := hv
  have hx := B.exec
  have hb := B.bytes
  have hr := B.returns
  have hts := atoms_spec (ws := wsX2_become) B.pre
  have hown : s.vm.findClass RX2 = some m.cls := findClass_of_methodNamed B.named
  have hlocks := B.notSynchronized
  have hin_X2 : ∀ w ∈ wsX20, w ∈ wsX2_become := fun _ w_h => (List.mem_cons_of_mem _ (List.mem_append_right _ w_h))
  have hl := lv_entry ([.ref (a i), .ref (a j)]) (n := 2) (Nat.le_of_ble_eq_true rfl)
  rw [lg_entry_eq]
  generalize (lg_sl ([.ref (a i), .ref (a j)]) ++ List.replicate (2 - (lg_sl ([.ref (a i), .ref (a j)])).length) Slot.unset).toArray = ls at hl ⊢
  replace hl : lv_has ls 2 [(0, .ref (a i)), (1, .ref (a j))] := hl
  have hD : va_D (cA a) (cW C a V) := cD_own hDD
  generalize hHe : s.heap = H at hP ⊢
  have hS : va_S (cA a) s.heap H [] := by rw [hHe]; exact va_S.rf
  generalize hlo : ([] : List Loc) = locs at hS ⊢
  clear hHe hlo
  refine lv_aload_n hx hb dX2_become_0 rfl (lv_at hl 0 rfl) ?_
  refine lv_aload_n hx hb dX2_become_1 rfl (lv_at hl 1 rfl) ?_
  refine kq_get (i := j) hx hb hts hin_X2 hown hK hP (isMo.l0 hj) (cE_26 (isMo.s0 hj)) rfl 0 (by decide) (hts (.fieldLink RX2 24 "WordFletchers$Moment" "hour" "I") (List.mem_cons_of_mem _ (List.mem_append_left _ (List.mem_of_getElem? (i := 0) rfl)))) rfl dX2_become_2 ?_
  refine kq_put (ty := .int) (i := i) hx hb hts hin_X2 hown tyX2 tyX2_ok nmX2 hK hP hD hS (isMo.l0 hi) (cE_26 (isMo.s0 hi)) rfl 0 (by decide) (hts (.fieldLink RX2 24 "WordFletchers$Moment" "hour" "I") (List.mem_cons_of_mem _ (List.mem_append_left _ (List.mem_of_getElem? (i := 0) rfl)))) rfl (by decide +kernel) rfl rfl (Nat.le_of_ble_eq_true rfl) rfl dX2_become_5 (fun H locs hP hD hS => ?_)
  obtain ⟨V1, hV1⟩ : ∃ z : Nat → Nat → Int, z = (mU V i 0 (V j 0)) := ⟨_, rfl⟩
  rw [← hV1] at hP hD
  refine lv_aload_n hx hb dX2_become_8 rfl (lv_at hl 0 rfl) ?_
  refine lv_aload_n hx hb dX2_become_9 rfl (lv_at hl 1 rfl) ?_
  refine kq_get (i := j) hx hb hts hin_X2 hown hK hP (isMo.l0 hj) (cE_26 (isMo.s0 hj)) rfl 1 (by decide) (hts (.fieldLink RX2 28 "WordFletchers$Moment" "damp" "I") (List.mem_cons_of_mem _ (List.mem_append_left _ (List.mem_of_getElem? (i := 1) rfl)))) rfl dX2_become_10 ?_
  refine kq_put (ty := .int) (i := i) hx hb hts hin_X2 hown tyX2 tyX2_ok nmX2 hK hP hD hS (isMo.l0 hi) (cE_26 (isMo.s0 hi)) rfl 1 (by decide) (hts (.fieldLink RX2 28 "WordFletchers$Moment" "damp" "I") (List.mem_cons_of_mem _ (List.mem_append_left _ (List.mem_of_getElem? (i := 1) rfl)))) rfl (by decide +kernel) rfl rfl (Nat.le_of_ble_eq_true rfl) rfl dX2_become_13 (fun H locs hP hD hS => ?_)
  obtain ⟨V2, hV2⟩ : ∃ z : Nat → Nat → Int, z = (mU V1 i 1 (V1 j 1)) := ⟨_, rfl⟩
  rw [← hV2] at hP hD
  refine lv_aload_n hx hb dX2_become_16 rfl (lv_at hl 0 rfl) ?_
  refine lv_aload_n hx hb dX2_become_17 rfl (lv_at hl 1 rfl) ?_
  refine kq_get (i := j) hx hb hts hin_X2 hown hK hP (isMo.l0 hj) (cE_26 (isMo.s0 hj)) rfl 2 (by decide) (hts (.fieldLink RX2 31 "WordFletchers$Moment" "strays" "I") (List.mem_cons_of_mem _ (List.mem_append_left _ (List.mem_of_getElem? (i := 2) rfl)))) rfl dX2_become_18 ?_
  refine W.eq (g2 := F0 m 21 ls [.int (iZ (V2 j 2)), .ref (a i)]) rfl ?_
  refine kq_put (ty := .int) (i := i) hx hb hts hin_X2 hown tyX2 tyX2_ok nmX2 hK hP hD hS (isMo.l0 hi) (cE_26 (isMo.s0 hi)) rfl 2 (by decide) (hts (.fieldLink RX2 31 "WordFletchers$Moment" "strays" "I") (List.mem_cons_of_mem _ (List.mem_append_left _ (List.mem_of_getElem? (i := 2) rfl)))) rfl (by decide +kernel) rfl rfl (Nat.le_of_ble_eq_true rfl) rfl dX2_become_21 (fun H locs hP hD hS => ?_)
  obtain ⟨V3, hV3⟩ : ∃ z : Nat → Nat → Int, z = (mU V2 i 2 (V2 j 2)) := ⟨_, rfl⟩
  rw [← hV3] at hP hD
  refine lv_aload_n hx hb dX2_become_24 rfl (lv_at hl 1 rfl) ?_
  refine kq_get (i := j) hx hb hts hin_X2 hown hK hP (isMo.l0 hj) (cE_26 (isMo.s0 hj)) rfl 3 (by decide) (hts (.fieldLink RX2 9 "WordFletchers$Moment" "feathers" "[I") (List.mem_cons_of_mem _ (List.mem_append_left _ (List.mem_of_getElem? (i := 3) rfl)))) rfl dX2_become_25 ?_
  refine lv_iconst (v := iZ 0) hx hb dX2_become_28 (by decide) ?_
  refine lv_aload_n hx hb dX2_become_29 rfl (lv_at hl 0 rfl) ?_
  refine kq_get (i := i) hx hb hts hin_X2 hown hK hP (isMo.l0 hi) (cE_26 (isMo.s0 hi)) rfl 3 (by decide) (hts (.fieldLink RX2 9 "WordFletchers$Moment" "feathers" "[I") (List.mem_cons_of_mem _ (List.mem_append_left _ (List.mem_of_getElem? (i := 3) rfl)))) rfl dX2_become_30 ?_
  refine lv_iconst (v := iZ 0) hx hb dX2_become_33 (by decide) ?_
  refine lv_iconst (v := iZ 4) hx hb dX2_become_34 (by decide) ?_
  refine kq_copy (i := (j + 1)) (j := (i + 1)) (n := 4) hx hb (hml.trans hl.1.symm) hown (hts (.methodLink RX2 47 arraycopyName) (List.mem_cons_of_mem _ (List.mem_append_left _ (List.mem_of_getElem? (i := 4) rfl)))) (hts (.native arraycopyName) (List.mem_cons_of_mem _ (List.mem_append_left _ (List.mem_of_getElem? (i := 5) rfl)))) (hts (.static arraycopyName) (List.mem_cons_of_mem _ (List.mem_append_left _ (List.mem_of_getElem? (i := 6) rfl)))) (hts (.initialized "java/lang/System") (List.mem_cons_of_mem _ (List.mem_append_left _ (List.mem_of_getElem? (i := 7) rfl)))) hK hP hD hS (isMo.l1 hj) (isMo.l1 hi) (cE_27 (isMo.s1 hj)) (cE_27 (isMo.s1 hi)) (by decide) (Nat.le_of_ble_eq_true rfl) (Nat.le_of_ble_eq_true rfl) dX2_become_35 (fun H locs hP hD hS => ?_)
  obtain ⟨V4, hV4⟩ : ∃ z : Nat → Nat → Int, z = (cB V3 (j + 1) (i + 1) 4) := ⟨_, rfl⟩
  rw [← hV4] at hP hD
  refine lv_aload_n hx hb dX2_become_38 rfl (lv_at hl 1 rfl) ?_
  refine kq_get (i := j) hx hb hts hin_X2 hown hK hP (isMo.l0 hj) (cE_26 (isMo.s0 hj)) rfl 4 (by decide) (hts (.fieldLink RX2 15 "WordFletchers$Moment" "knows" "[I") (List.mem_cons_of_mem _ (List.mem_append_left _ (List.mem_of_getElem? (i := 8) rfl)))) rfl dX2_become_39 ?_
  refine lv_iconst (v := iZ 0) hx hb dX2_become_42 (by decide) ?_
  refine W.eq (g2 := F0 m 43 ls [.int (iZ 0), .ref (a (j + 2))]) rfl ?_
  refine lv_aload_n hx hb dX2_become_43 rfl (lv_at hl 0 rfl) ?_
  refine kq_get (i := i) hx hb hts hin_X2 hown hK hP (isMo.l0 hi) (cE_26 (isMo.s0 hi)) rfl 4 (by decide) (hts (.fieldLink RX2 15 "WordFletchers$Moment" "knows" "[I") (List.mem_cons_of_mem _ (List.mem_append_left _ (List.mem_of_getElem? (i := 8) rfl)))) rfl dX2_become_44 ?_
  refine lv_iconst (v := iZ 0) hx hb dX2_become_47 (by decide) ?_
  refine lv_bipush (v := iZ 6) hx hb dX2_become_48 (by decide) ?_
  refine kq_copy (i := (j + 2)) (j := (i + 2)) (n := 6) hx hb (hml.trans hl.1.symm) hown (hts (.methodLink RX2 47 arraycopyName) (List.mem_cons_of_mem _ (List.mem_append_left _ (List.mem_of_getElem? (i := 4) rfl)))) (hts (.native arraycopyName) (List.mem_cons_of_mem _ (List.mem_append_left _ (List.mem_of_getElem? (i := 5) rfl)))) (hts (.static arraycopyName) (List.mem_cons_of_mem _ (List.mem_append_left _ (List.mem_of_getElem? (i := 6) rfl)))) (hts (.initialized "java/lang/System") (List.mem_cons_of_mem _ (List.mem_append_left _ (List.mem_of_getElem? (i := 7) rfl)))) hK hP hD hS (isMo.l2 hj) (isMo.l2 hi) (cE_28 (isMo.s2 hj)) (cE_28 (isMo.s2 hi)) (by decide) (Nat.le_of_ble_eq_true rfl) (Nat.le_of_ble_eq_true rfl) dX2_become_50 (fun H locs hP hD hS => ?_)
  obtain ⟨V5, hV5⟩ : ∃ z : Nat → Nat → Int, z = (cB V4 (j + 2) (i + 2) 6) := ⟨_, rfl⟩
  rw [← hV5] at hP hD
  refine lv_aload_n hx hb dX2_become_53 rfl (lv_at hl 1 rfl) ?_
  refine kq_get (i := j) hx hb hts hin_X2 hown hK hP (isMo.l0 hj) (cE_26 (isMo.s0 hj)) rfl 5 (by decide) (hts (.fieldLink RX2 18 "WordFletchers$Moment" "straySaying" "[I") (List.mem_cons_of_mem _ (List.mem_append_left _ (List.mem_of_getElem? (i := 9) rfl)))) rfl dX2_become_54 ?_
  refine lv_iconst (v := iZ 0) hx hb dX2_become_57 (by decide) ?_
  refine lv_aload_n hx hb dX2_become_58 rfl (lv_at hl 0 rfl) ?_
  refine kq_get (i := i) hx hb hts hin_X2 hown hK hP (isMo.l0 hi) (cE_26 (isMo.s0 hi)) rfl 5 (by decide) (hts (.fieldLink RX2 18 "WordFletchers$Moment" "straySaying" "[I") (List.mem_cons_of_mem _ (List.mem_append_left _ (List.mem_of_getElem? (i := 9) rfl)))) rfl dX2_become_59 ?_
  refine lv_iconst (v := iZ 0) hx hb dX2_become_62 (by decide) ?_
  refine lv_bipush (v := iZ 8) hx hb dX2_become_63 (by decide) ?_
  refine W.eq (g2 := F0 m 65 ls [.int (iZ 8), .int (iZ 0), .ref (a (i + 3)), .int (iZ 0), .ref (a (j + 3))]) rfl ?_
  refine kq_copy (i := (j + 3)) (j := (i + 3)) (n := 8) hx hb (hml.trans hl.1.symm) hown (hts (.methodLink RX2 47 arraycopyName) (List.mem_cons_of_mem _ (List.mem_append_left _ (List.mem_of_getElem? (i := 4) rfl)))) (hts (.native arraycopyName) (List.mem_cons_of_mem _ (List.mem_append_left _ (List.mem_of_getElem? (i := 5) rfl)))) (hts (.static arraycopyName) (List.mem_cons_of_mem _ (List.mem_append_left _ (List.mem_of_getElem? (i := 6) rfl)))) (hts (.initialized "java/lang/System") (List.mem_cons_of_mem _ (List.mem_append_left _ (List.mem_of_getElem? (i := 7) rfl)))) hK hP hD hS (isMo.l3 hj) (isMo.l3 hi) (cE_29 (isMo.s3 hj)) (cE_29 (isMo.s3 hi)) (by decide) (Nat.le_of_ble_eq_true rfl) (Nat.le_of_ble_eq_true rfl) dX2_become_65 (fun H locs hP hD hS => ?_)
  obtain ⟨V6, hV6⟩ : ∃ z : Nat → Nat → Int, z = (cB V5 (j + 3) (i + 3) 8) := ⟨_, rfl⟩
  rw [← hV6] at hP hD
  refine lv_aload_n hx hb dX2_become_68 rfl (lv_at hl 1 rfl) ?_
  refine kq_get (i := j) hx hb hts hin_X2 hown hK hP (isMo.l0 hj) (cE_26 (isMo.s0 hj)) rfl 6 (by decide) (hts (.fieldLink RX2 21 "WordFletchers$Moment" "strayPlace" "[I") (List.mem_cons_of_mem _ (List.mem_append_left _ (List.mem_of_getElem? (i := 10) rfl)))) rfl dX2_become_69 ?_
  refine lv_iconst (v := iZ 0) hx hb dX2_become_72 (by decide) ?_
  refine lv_aload_n hx hb dX2_become_73 rfl (lv_at hl 0 rfl) ?_
  refine kq_get (i := i) hx hb hts hin_X2 hown hK hP (isMo.l0 hi) (cE_26 (isMo.s0 hi)) rfl 6 (by decide) (hts (.fieldLink RX2 21 "WordFletchers$Moment" "strayPlace" "[I") (List.mem_cons_of_mem _ (List.mem_append_left _ (List.mem_of_getElem? (i := 10) rfl)))) rfl dX2_become_74 ?_
  refine lv_iconst (v := iZ 0) hx hb dX2_become_77 (by decide) ?_
  refine lv_bipush (v := iZ 8) hx hb dX2_become_78 (by decide) ?_
  refine kq_copy (i := (j + 4)) (j := (i + 4)) (n := 8) hx hb (hml.trans hl.1.symm) hown (hts (.methodLink RX2 47 arraycopyName) (List.mem_cons_of_mem _ (List.mem_append_left _ (List.mem_of_getElem? (i := 4) rfl)))) (hts (.native arraycopyName) (List.mem_cons_of_mem _ (List.mem_append_left _ (List.mem_of_getElem? (i := 5) rfl)))) (hts (.static arraycopyName) (List.mem_cons_of_mem _ (List.mem_append_left _ (List.mem_of_getElem? (i := 6) rfl)))) (hts (.initialized "java/lang/System") (List.mem_cons_of_mem _ (List.mem_append_left _ (List.mem_of_getElem? (i := 7) rfl)))) hK hP hD hS (isMo.l4 hj) (isMo.l4 hi) (cE_30 (isMo.s4 hj)) (cE_30 (isMo.s4 hi)) (by decide) (Nat.le_of_ble_eq_true rfl) (Nat.le_of_ble_eq_true rfl) dX2_become_80 (fun H locs hP hD hS => ?_)
  obtain ⟨V7, hV7⟩ : ∃ z : Nat → Nat → Int, z = (cB V6 (j + 4) (i + 4) 8) := ⟨_, rfl⟩
  rw [← hV7] at hP hD
  exact kq_retV hx hb hK hP hS hr (by subst_vars; rfl) dX2_become_83 hlocks
set_option maxHeartbeats 4000000 in
set_option maxRecDepth 100000 in
theorem K_X3_loseOldest (l : Launch) (D : va_G) (C : cC) (a b : Nat → Nat) (V : Nat → Nat → Int) (i : Nat) (hi : isPa i) (hpa : paI V i) (hDD : va_D (fun _ => True) (cW C a V)) : Met l yX3_loseOldest wsX3_loseOldest ({ frames := 0, cells := 0, slots := 0, locals := 0 }) (va_Pc [.ref (a i)] (cOk D C a b V)) (va_Qv (fun (_ : Unit) => True) (fun _ t => cPo D C a (f_los V i) t) (cA a)) 0 0 (cA a) := by
  refine Met.ofW (cc := cX3_loseOldest) (maxL := 3) (ret := none) (by decide) rfl ?_
  intro p e s m args below meth c s₁ B hml hv
  obtain ⟨rfl, hP, hK, hN⟩ := hv
  have hx := B.exec
  have hb := B.bytes
  have hr := B.returns
  have hts := atoms_spec (ws := wsX3_loseOldest) B.pre
  have hown : s.vm.findClass RX3 = some m.cls := findClass_of_methodNamed B.named
  have hlocks := B.notSynchronized
  have hin_X3 : ∀ w ∈ wsX30, w ∈ wsX3_loseOldest := fun _ w_h => (List.mem_cons_of_mem _ (List.mem_append_right _ w_h))
  have hl := lv_entry ([.ref (a i)]) (n := 3) (Nat.le_of_ble_eq_true rfl)
  rw [lg_entry_eq]
  generalize (lg_sl ([.ref (a i)]) ++ List.replicate (3 - (lg_sl ([.ref (a i)])).length) Slot.unset).toArray = ls at hl ⊢
  replace hl : lv_has ls 3 [(0, .ref (a i))] := hl
  have hD : va_D (cA a) (cW C a V) := cD_own hDD
  generalize hHe : s.heap = H at hP ⊢
  have hS : va_S (cA a) s.heap H [] := by rw [hHe]; exact va_S.rf
  generalize hlo : ([] : List Loc) = locs at hS ⊢
  clear hHe hlo
  have hpb := hpa.1
  have hm0 : isMo (Int.toNat (V (i + 1) 0)) := (hpa.2 0 (by omega)).1
  have hz0 : 0 ≤ V (i + 1) 0 := (by unfold isMo at hm0; omega)
  refine lv_aload_n hx hb dX3_loseOldest_0 rfl (lv_at hl 0 rfl) ?_
  refine kq_get (i := i) hx hb hts hin_X3 hown hK hP (isPa.l0 hi) (cE_23 (isPa.s0 hi)) rfl 0 (by decide) (hts (.fieldLink RX3 11 "WordFletchers$Past" "moments" "[LWordFletchers$Moment;") (List.mem_cons_of_mem _ (List.mem_append_left _ (List.mem_of_getElem? (i := 0) rfl)))) rfl dX3_loseOldest_1 ?_
  refine W.eq (g2 := F0 m 4 ls [.ref (a (i + 1))]) rfl ?_
  refine lv_iconst (v := iZ 0) hx hb dX3_loseOldest_4 (by decide) ?_
  refine kq_aldM (i := i) hx hb hK hP hi 0 rfl (by omega) dX3_loseOldest_5 ?_
  refine lv_astore_n (lv' := [(1, .ref (a (Int.toNat (V (i + 1) 0)))), (0, .ref (a i))]) hx hb dX3_loseOldest_6 rfl hl (by decide) rfl (fun ls hl => ?_)
  refine lv_iconst (v := iZ 1) hx hb dX3_loseOldest_7 (by decide) ?_
  refine lv_istore_n (lv' := [(2, .int (iZ 1)), (1, .ref (a (Int.toNat (V (i + 1) 0)))), (0, .ref (a i))]) hx hb dX3_loseOldest_8 rfl hl (by decide) rfl (fun ls hl => ?_)
  replace hl : lv_has ls 3 [(2, .int (iZ (1 : Int))), (1, .ref (a (Int.toNat (V (i + 1) 0)))), (0, .ref (a i))] := lv_sub hl [0, 1, 2] rfl
  replace hP := And.intro hP hS
  clear hS
  revert ls
  revert hP
  revert H locs
  refine z_loopH (σ := Int × (Nat → Nat → Int)) (fun x9 => (1 ≤ x9.1 ∧ x9.1 ≤ 10) ∧ (x9.2 = f_loN V i (Int.toNat x9.1))) (fun x9 H9 locs9 => va_P D vwCl (cW C a (x9.2)) H9 ∧ va_S (cA a) s.heap H9 locs9) (fun x9 => [(2, .int (iZ (x9.1))), (1, .ref (a (Int.toNat (V (i + 1) 0)))), (0, .ref (a i))]) 3 (fun x9 => (10 - x9.1).toNat) ((1 : Int), V) ⟨(by show 1 ≤ (1 : Int) ∧ (1 : Int) ≤ 10; omega), (by show V = f_loN V i (Int.toNat (1 : Int)); exact (f_loN_1 V i).symm)⟩ ?_
  rintro ⟨n, Vw⟩ hI9 ih9 H locs hPS ls hl
  have hP : va_P D vwCl (cW C a Vw) H := hPS.1
  have hS : va_S (cA a) s.heap H locs := hPS.2
  clear hPS
  have hD : va_D (cA a) (cW C a Vw) := cD_re hD
  obtain ⟨i1, i2⟩ := hI9
  replace i1 : 1 ≤ n ∧ n ≤ 10 := i1
  replace i2 : Vw = f_loN V i (Int.toNat n) := i2
  replace hl : lv_has ls 3 [(2, .int (iZ n)), (1, .ref (a (Int.toNat (V (i + 1) 0)))), (0, .ref (a i))] := hl
  have hm : n < 10 → isMo (Int.toNat (Vw (i + 1) (Int.toNat n))) := fun h9 => by rw [i2, f_loN_rd]; exact (hpa.2 _ (by omega)).1
  refine lv_iload_n hx hb dX3_loseOldest_9 rfl (lv_at hl 0 rfl) ?_
  refine lv_bipush (v := iZ 10) hx hb dX3_loseOldest_10 (by decide) ?_
  refine z_icmp_ge (x := n) (y := 10) (tgt := 35) hx hb (by omega) (by omega) dX3_loseOldest_12 (by decide) (fun c1 => ?_) (fun c1 => ?_)
  · refine lv_aload_n hx hb dX3_loseOldest_35 rfl (lv_at hl 2 rfl) ?_
    refine kq_get (i := i) hx hb hts hin_X3 hown hK hP (isPa.l0 hi) (cE_23 (isPa.s0 hi)) rfl 0 (by decide) (hts (.fieldLink RX3 11 "WordFletchers$Past" "moments" "[LWordFletchers$Moment;") (List.mem_cons_of_mem _ (List.mem_append_left _ (List.mem_of_getElem? (i := 0) rfl)))) rfl dX3_loseOldest_36 ?_
    refine lv_bipush (v := iZ 9) hx hb dX3_loseOldest_39 (by decide) ?_
    refine lv_aload_n hx hb dX3_loseOldest_41 rfl (lv_at hl 1 rfl) ?_
    refine W.eq (g2 := F0 m 42 ls [.ref (a (Int.toNat (V (i + 1) 0))), .int (iZ 9), .ref (a (i + 1))]) rfl ?_
    refine kq_astM (i := i) (j0 := (Int.toNat (V (i + 1) 0))) hx hb hK hP hD hS hi hm0 9 rfl (by omega) dX3_loseOldest_42 (fun H locs hP hD hS => ?_)
    obtain ⟨V3, hV3⟩ : ∃ z : Nat → Nat → Int, z = (mU Vw (i + 1) 9 (((Int.toNat (V (i + 1) 0)) : Nat) : Int)) := ⟨_, rfl⟩
    rw [← hV3] at hP hD
    refine lv_aload_n hx hb dX3_loseOldest_43 rfl (lv_at hl 2 rfl) ?_
    refine lv_dup hx hb dX3_loseOldest_44 rfl ?_
    refine kq_get (i := i) hx hb hts hin_X3 hown hK hP (isPa.l0 hi) (cE_23 (isPa.s0 hi)) rfl 1 (by decide) (hts (.fieldLink RX3 17 "WordFletchers$Past" "known" "I") (List.mem_cons_of_mem _ (List.mem_append_left _ (List.mem_of_getElem? (i := 1) rfl)))) rfl dX3_loseOldest_45 ?_
    refine lv_iconst (v := iZ 1) hx hb dX3_loseOldest_48 (by decide) ?_
    refine z_isub hx hb dX3_loseOldest_49 ?_
    refine kq_put (ty := .int) (i := i) hx hb hts hin_X3 hown tyX3 tyX3_ok nmX3 hK hP hD hS (isPa.l0 hi) (cE_23 (isPa.s0 hi)) rfl 1 (by decide) (hts (.fieldLink RX3 17 "WordFletchers$Past" "known" "I") (List.mem_cons_of_mem _ (List.mem_append_left _ (List.mem_of_getElem? (i := 1) rfl)))) rfl (by decide +kernel) rfl rfl (Nat.le_of_ble_eq_true rfl) rfl dX3_loseOldest_50 (fun H locs hP hD hS => ?_)
    obtain ⟨V4, hV4⟩ : ∃ z : Nat → Nat → Int, z = (mU V3 i 1 ((V3 i 1) - 1)) := ⟨_, rfl⟩
    rw [← hV4] at hP hD
    exact kq_retV hx hb hK hP hS hr (by have q : n = 10 := (by omega); subst_vars; have e9 : mU (f_loN V i 10) (i + 1) 9 ((Int.toNat (V (i + 1) 0) : Nat) : Int) i 1 = V i 1 := (by simp [mU, f_loN]); show mU (mU (f_loN V i 10) (i + 1) 9 ((Int.toNat (V (i + 1) 0) : Nat) : Int)) i 1 (mU (f_loN V i 10) (i + 1) 9 ((Int.toNat (V (i + 1) 0) : Nat) : Int) i 1 - 1) = _; rw [e9]; exact f_los_e V ⟨hpb, hz0⟩) dX3_loseOldest_53 hlocks
  · refine lv_aload_n hx hb dX3_loseOldest_15 rfl (lv_at hl 2 rfl) ?_
    refine kq_get (i := i) hx hb hts hin_X3 hown hK hP (isPa.l0 hi) (cE_23 (isPa.s0 hi)) rfl 0 (by decide) (hts (.fieldLink RX3 11 "WordFletchers$Past" "moments" "[LWordFletchers$Moment;") (List.mem_cons_of_mem _ (List.mem_append_left _ (List.mem_of_getElem? (i := 0) rfl)))) rfl dX3_loseOldest_16 ?_
    refine lv_iload_n hx hb dX3_loseOldest_19 rfl (lv_at hl 0 rfl) ?_
    refine lv_iconst (v := iZ 1) hx hb dX3_loseOldest_20 (by decide) ?_
    refine W.eq (g2 := F0 m 21 ls [.int (iZ 1), .int (iZ n), .ref (a (i + 1))]) rfl ?_
    refine z_isub hx hb dX3_loseOldest_21 ?_
    refine lv_aload_n hx hb dX3_loseOldest_22 rfl (lv_at hl 2 rfl) ?_
    refine kq_get (i := i) hx hb hts hin_X3 hown hK hP (isPa.l0 hi) (cE_23 (isPa.s0 hi)) rfl 0 (by decide) (hts (.fieldLink RX3 11 "WordFletchers$Past" "moments" "[LWordFletchers$Moment;") (List.mem_cons_of_mem _ (List.mem_append_left _ (List.mem_of_getElem? (i := 0) rfl)))) rfl dX3_loseOldest_23 ?_
    refine lv_iload_n hx hb dX3_loseOldest_26 rfl (lv_at hl 0 rfl) ?_
    refine kq_aldM (i := i) hx hb hK hP hi (Int.toNat n) rfl (by omega) dX3_loseOldest_27 ?_
    refine kq_astM (i := i) (j0 := (Int.toNat (Vw (i + 1) (Int.toNat n)))) hx hb hK hP hD hS hi (hm (by omega)) (Int.toNat (n - 1)) rfl (by omega) dX3_loseOldest_28 (fun H locs hP hD hS => ?_)
    obtain ⟨V5, hV5⟩ : ∃ z : Nat → Nat → Int, z = (mU Vw (i + 1) (Int.toNat (n - 1)) (((Int.toNat (Vw (i + 1) (Int.toNat n))) : Nat) : Int)) := ⟨_, rfl⟩
    rw [← hV5] at hP hD
    have hst : V5 = f_loN V i (Int.toNat (n + 1)) := by rw [hV5, i2]; exact f_loN_succ V i i1.1 _ (by have q := hm (by omega); rw [i2, f_loN_rd] at q; rw [f_loN_rd]; unfold isMo at q; omega)
    refine lv_iinc (v := iZ (n + 1)) (lv' := [(2, .int (iZ (n + 1))), (1, .ref (a (Int.toNat (V (i + 1) 0)))), (0, .ref (a i))]) hx hb dX3_loseOldest_29 hl (k := 0) rfl (iZ_add _ _) (by decide) rfl (fun ls hl => ?_)
    refine lv_goto (tgt := 9) hx hb dX3_loseOldest_32 (by decide) ?_
    exact ih9 ((n + 1), V5) ⟨(by show 1 ≤ (n + 1) ∧ (n + 1) ≤ 10; omega), (by show V5 = f_loN V i (Int.toNat (n + 1)); exact hst)⟩ (by show (10 - (n + 1)).toNat < (10 - n).toNat; omega) H locs ⟨hP, hS⟩ ls (lv_sub hl [0, 1, 2] rfl)
set_option maxHeartbeats 4000000 in
set_option maxRecDepth 100000 in
theorem K_X3_remember (l : Launch) (D : va_G) (C : cC) (a b : Nat → Nat) (V : Nat → Nat → Int) (i : Nat) (hi : isPa i) (j : Nat) (hj : isMo j) (hpa : paI V i) (hDD : va_D (fun _ => True) (cW C a V)) : Met l yX3_remember wsX3_remember ({ frames := 2, cells := 0, slots := 0, locals := 69 }) (va_Pc [.ref (a i), .ref (a j)] (cOk D C a b V)) (va_Qv (fun (_ : Unit) => True) (fun _ t => cPo D C a (f_rem V i j) t) (cA a)) 0 0 (cA a) := by
  refine Met.ofW (cc := cX3_remember) (maxL := 2) (ret := none) (by decide) rfl ?_
  intro p e s m args below meth c s₁ B hml hv
  obtain ⟨rfl, hP, hK, hN⟩ := hv
  have hx := B.exec
  have hb := B.bytes
  have hr := B.returns
  have hts := atoms_spec (ws := wsX3_remember) B.pre
  have hown : s.vm.findClass RX3 = some m.cls := findClass_of_methodNamed B.named
  have hlocks := B.notSynchronized
  have hin_X3 : ∀ w ∈ wsX30, w ∈ wsX3_remember := fun _ w_h => (List.mem_cons_of_mem _ (List.mem_append_left _ (List.mem_append_right _ w_h)))
  have hin_X2 : ∀ w ∈ wsX20, w ∈ wsX3_remember := fun _ w_h => (List.mem_cons_of_mem _ (List.mem_append_right _ w_h))
  have hl := lv_entry ([.ref (a i), .ref (a j)]) (n := 2) (Nat.le_of_ble_eq_true rfl)
  rw [lg_entry_eq]
  generalize (lg_sl ([.ref (a i), .ref (a j)]) ++ List.replicate (2 - (lg_sl ([.ref (a i), .ref (a j)])).length) Slot.unset).toArray = ls at hl ⊢
  replace hl : lv_has ls 2 [(0, .ref (a i)), (1, .ref (a j))] := hl
  have hD : va_D (cA a) (cW C a V) := cD_own hDD
  generalize hHe : s.heap = H at hP ⊢
  have hS : va_S (cA a) s.heap H [] := by rw [hHe]; exact va_S.rf
  generalize hlo : ([] : List Loc) = locs at hS ⊢
  clear hHe hlo
  have hpb := hpa.1
  have hre := f_re1_pa hpa
  have hrm := (f_reS_mo hpa).1
  refine lv_aload_n hx hb dX3_remember_0 rfl (lv_at hl 0 rfl) ?_
  refine kq_get (i := i) hx hb hts hin_X3 hown hK hP (isPa.l0 hi) (cE_23 (isPa.s0 hi)) rfl 1 (by decide) (hts (.fieldLink RX3 17 "WordFletchers$Past" "known" "I") (List.mem_cons_of_mem _ (List.mem_append_left _ (List.mem_append_left _ (List.mem_of_getElem? (i := 0) rfl))))) rfl dX3_remember_1 ?_
  refine lv_bipush (v := iZ 10) hx hb dX3_remember_4 (by decide) ?_
  refine z_icmp_lt (x := (V i 1)) (y := 10) (tgt := 13) hx hb (by omega) (by omega) dX3_remember_6 (by decide) (fun c1 => ?_) (fun c1 => ?_)
  · refine W.eq (g2 := F0 m 13 ls []) rfl ?_
    have hv2 : f_re1 V i = V := (by first | assumption | exact if_neg (by omega))
    have hre2 := hre
    rw [hv2] at hre2
    have hbn := hre2.1.1
    have hbo := hre2.2
    have hmo : isMo (Int.toNat (V (i + 1) (Int.toNat (V i 1)))) := hre2.1.mo (by omega)
    refine lv_aload_n hx hb dX3_remember_13 rfl (lv_at hl 0 rfl) ?_
    refine kq_get (i := i) hx hb hts hin_X3 hown hK hP (isPa.l0 hi) (cE_23 (isPa.s0 hi)) rfl 0 (by decide) (hts (.fieldLink RX3 11 "WordFletchers$Past" "moments" "[LWordFletchers$Moment;") (List.mem_cons_of_mem _ (List.mem_append_left _ (List.mem_append_left _ (List.mem_of_getElem? (i := 1) rfl))))) rfl dX3_remember_14 ?_
    refine lv_aload_n hx hb dX3_remember_17 rfl (lv_at hl 0 rfl) ?_
    refine kq_get (i := i) hx hb hts hin_X3 hown hK hP (isPa.l0 hi) (cE_23 (isPa.s0 hi)) rfl 1 (by decide) (hts (.fieldLink RX3 17 "WordFletchers$Past" "known" "I") (List.mem_cons_of_mem _ (List.mem_append_left _ (List.mem_append_left _ (List.mem_of_getElem? (i := 0) rfl))))) rfl dX3_remember_18 ?_
    refine kq_aldM (i := i) hx hb hK hP hi (Int.toNat (V i 1)) rfl (by omega) dX3_remember_21 ?_
    refine lv_aload_n hx hb dX3_remember_22 rfl (lv_at hl 1 rfl) ?_
    refine kq_cv (i := (Int.toNat (V (i + 1) (Int.toNat (V i 1))))) (As := [.ref (a j)]) (rest := []) ⟨hx, hb, hml, hown, hts⟩ hK hP hN hD hS (isMo.l0 (by assumption)) (cE_26 (isMo.s0 (by assumption))) rfl (K_X2_become l D C a b V (Int.toNat (V (i + 1) (Int.toNat (V i 1)))) (by assumption) j hj (hD.weaken (fun _ _ _ _ => trivial))) (cwV 1 hts gX3_remember_X2_become rfl rfl rfl (by decide +kernel) ⟨Nat.le_of_ble_eq_true rfl, Nat.le_of_ble_eq_true rfl⟩) rfl rfl hl.1 (Nat.le_of_ble_eq_true rfl) ⟨Nat.le_of_ble_eq_true rfl, Nat.le_of_ble_eq_true rfl⟩ dX3_remember_23 (fun H locs hP hD hS => ?_)
    obtain ⟨V2, hV2⟩ : ∃ z : Nat → Nat → Int, z = (f_bec V (Int.toNat (V (i + 1) (Int.toNat (V i 1)))) j) := ⟨_, rfl⟩
    rw [← hV2] at hP hD
    refine lv_aload_n hx hb dX3_remember_26 rfl (lv_at hl 0 rfl) ?_
    refine lv_dup hx hb dX3_remember_27 rfl ?_
    refine kq_get (i := i) hx hb hts hin_X3 hown hK hP (isPa.l0 hi) (cE_23 (isPa.s0 hi)) rfl 1 (by decide) (hts (.fieldLink RX3 17 "WordFletchers$Past" "known" "I") (List.mem_cons_of_mem _ (List.mem_append_left _ (List.mem_append_left _ (List.mem_of_getElem? (i := 0) rfl))))) rfl dX3_remember_28 ?_
    refine lv_iconst (v := iZ 1) hx hb dX3_remember_31 (by decide) ?_
    refine z_iadd hx hb dX3_remember_32 ?_
    refine W.eq (g2 := F0 m 33 ls [.int (iZ ((V2 i 1) + 1)), .ref (a i)]) rfl ?_
    refine kq_put (ty := .int) (i := i) hx hb hts hin_X3 hown tyX3 tyX3_ok nmX3 hK hP hD hS (isPa.l0 hi) (cE_23 (isPa.s0 hi)) rfl 1 (by decide) (hts (.fieldLink RX3 17 "WordFletchers$Past" "known" "I") (List.mem_cons_of_mem _ (List.mem_append_left _ (List.mem_append_left _ (List.mem_of_getElem? (i := 0) rfl))))) rfl (by decide +kernel) rfl rfl (Nat.le_of_ble_eq_true rfl) rfl dX3_remember_33 (fun H locs hP hD hS => ?_)
    obtain ⟨V3, hV3⟩ : ∃ z : Nat → Nat → Int, z = (mU V2 i 1 ((V2 i 1) + 1)) := ⟨_, rfl⟩
    rw [← hV3] at hP hD
    exact kq_retV hx hb hK hP hS hr (by unfold f_rem f_reS; rw [hv2]; subst_vars; rfl) dX3_remember_36 hlocks
  · refine lv_aload_n hx hb dX3_remember_9 rfl (lv_at hl 0 rfl) ?_
    refine kq_cv (i := i) (As := []) (rest := []) ⟨hx, hb, hml, hown, hts⟩ hK hP hN hD hS (isPa.l0 hi) (cE_23 (isPa.s0 hi)) rfl (K_X3_loseOldest l D C a b V i hi (by assumption) (hD.weaken (fun _ _ _ _ => trivial))) (cwV 0 hts gX3_remember_X3_loseOldest rfl rfl rfl (by decide +kernel) ⟨Nat.le_of_ble_eq_true rfl, Nat.le_of_ble_eq_true rfl⟩) rfl rfl hl.1 (Nat.le_of_ble_eq_true rfl) ⟨Nat.le_of_ble_eq_true rfl, Nat.le_of_ble_eq_true rfl⟩ dX3_remember_10 (fun H locs hP hD hS => ?_)
    obtain ⟨V4, hV4⟩ : ∃ z : Nat → Nat → Int, z = (f_los V i) := ⟨_, rfl⟩
    rw [← hV4] at hP hD
    have hv1 : f_re1 V i = V4 := by rw [hV4]; exact if_pos (by omega)
    have hv2 : f_re1 V i = V4 := (by first | assumption | exact if_neg (by omega))
    have hre2 := hre
    rw [hv2] at hre2
    have hbn := hre2.1.1
    have hbo := hre2.2
    have hmo : isMo (Int.toNat (V4 (i + 1) (Int.toNat (V4 i 1)))) := hre2.1.mo (by omega)
    refine lv_aload_n hx hb dX3_remember_13 rfl (lv_at hl 0 rfl) ?_
    refine kq_get (i := i) hx hb hts hin_X3 hown hK hP (isPa.l0 hi) (cE_23 (isPa.s0 hi)) rfl 0 (by decide) (hts (.fieldLink RX3 11 "WordFletchers$Past" "moments" "[LWordFletchers$Moment;") (List.mem_cons_of_mem _ (List.mem_append_left _ (List.mem_append_left _ (List.mem_of_getElem? (i := 1) rfl))))) rfl dX3_remember_14 ?_
    refine lv_aload_n hx hb dX3_remember_17 rfl (lv_at hl 0 rfl) ?_
    refine kq_get (i := i) hx hb hts hin_X3 hown hK hP (isPa.l0 hi) (cE_23 (isPa.s0 hi)) rfl 1 (by decide) (hts (.fieldLink RX3 17 "WordFletchers$Past" "known" "I") (List.mem_cons_of_mem _ (List.mem_append_left _ (List.mem_append_left _ (List.mem_of_getElem? (i := 0) rfl))))) rfl dX3_remember_18 ?_
    refine kq_aldM (i := i) hx hb hK hP hi (Int.toNat (V4 i 1)) rfl (by omega) dX3_remember_21 ?_
    refine lv_aload_n hx hb dX3_remember_22 rfl (lv_at hl 1 rfl) ?_
    refine kq_cv (i := (Int.toNat (V4 (i + 1) (Int.toNat (V4 i 1))))) (As := [.ref (a j)]) (rest := []) ⟨hx, hb, hml, hown, hts⟩ hK hP hN hD hS (isMo.l0 (by assumption)) (cE_26 (isMo.s0 (by assumption))) rfl (K_X2_become l D C a b V4 (Int.toNat (V4 (i + 1) (Int.toNat (V4 i 1)))) (by assumption) j hj (hD.weaken (fun _ _ _ _ => trivial))) (cwV 1 hts gX3_remember_X2_become rfl rfl rfl (by decide +kernel) ⟨Nat.le_of_ble_eq_true rfl, Nat.le_of_ble_eq_true rfl⟩) rfl rfl hl.1 (Nat.le_of_ble_eq_true rfl) ⟨Nat.le_of_ble_eq_true rfl, Nat.le_of_ble_eq_true rfl⟩ dX3_remember_23 (fun H locs hP hD hS => ?_)
    obtain ⟨V5, hV5⟩ : ∃ z : Nat → Nat → Int, z = (f_bec V4 (Int.toNat (V4 (i + 1) (Int.toNat (V4 i 1)))) j) := ⟨_, rfl⟩
    rw [← hV5] at hP hD
    refine lv_aload_n hx hb dX3_remember_26 rfl (lv_at hl 0 rfl) ?_
    refine W.eq (g2 := F0 m 27 ls [.ref (a i)]) rfl ?_
    refine lv_dup hx hb dX3_remember_27 rfl ?_
    refine kq_get (i := i) hx hb hts hin_X3 hown hK hP (isPa.l0 hi) (cE_23 (isPa.s0 hi)) rfl 1 (by decide) (hts (.fieldLink RX3 17 "WordFletchers$Past" "known" "I") (List.mem_cons_of_mem _ (List.mem_append_left _ (List.mem_append_left _ (List.mem_of_getElem? (i := 0) rfl))))) rfl dX3_remember_28 ?_
    refine lv_iconst (v := iZ 1) hx hb dX3_remember_31 (by decide) ?_
    refine z_iadd hx hb dX3_remember_32 ?_
    refine kq_put (ty := .int) (i := i) hx hb hts hin_X3 hown tyX3 tyX3_ok nmX3 hK hP hD hS (isPa.l0 hi) (cE_23 (isPa.s0 hi)) rfl 1 (by decide) (hts (.fieldLink RX3 17 "WordFletchers$Past" "known" "I") (List.mem_cons_of_mem _ (List.mem_append_left _ (List.mem_append_left _ (List.mem_of_getElem? (i := 0) rfl))))) rfl (by decide +kernel) rfl rfl (Nat.le_of_ble_eq_true rfl) rfl dX3_remember_33 (fun H locs hP hD hS => ?_)
    obtain ⟨V6, hV6⟩ : ∃ z : Nat → Nat → Int, z = (mU V5 i 1 ((V5 i 1) + 1)) := ⟨_, rfl⟩
    rw [← hV6] at hP hD
    exact kq_retV hx hb hK hP hS hr (by unfold f_rem f_reS; rw [hv2]; subst_vars; rfl) dX3_remember_36 hlocks
set_option maxHeartbeats 8000000 in
set_option maxRecDepth 100000 in
theorem K_X3_bringBack (l : Launch) (D : va_G) (C : cC) (a b : Nat → Nat) (V : Nat → Nat → Int) (i : Nat) (hi : isPa i) (j : Nat) (hj : isMo j) (hpa : paI V i) (hne : j ≠ i) (hDD : va_D (fun _ => True) (cW C a V)) : Met l yX3_bringBack wsX3_bringBack ({ frames := 2, cells := 0, slots := 0, locals := 69 }) (va_Pc [.ref (a i), .ref (a j)] (cOk D C a b V)) (va_Qv (fun (_ : Unit) => True) (fun _ t => cPo D C a (f_brg V i j) t) (cA a)) 0 0 (cA a) := by
  refine Met.ofW (cc := cX3_bringBack) (maxL := 2) (ret := none) (by decide) rfl ?_
  intro p e s m args below meth c s₁ B hml hv
  obtain ⟨rfl, hP, hK, hN⟩ := hv
  have hx := B.exec
  have hb := B.bytes
  have hr := B.returns
  have hts := atoms_spec (ws := wsX3_bringBack) B.pre
  have hown : s.vm.findClass RX3 = some m.cls := findClass_of_methodNamed B.named
  have hlocks := B.notSynchronized
  have hin_X3 : ∀ w ∈ wsX30, w ∈ wsX3_bringBack := fun _ w_h => (List.mem_cons_of_mem _ (List.mem_append_left _ (List.mem_append_right _ w_h)))
  have hin_X2 : ∀ w ∈ wsX20, w ∈ wsX3_bringBack := fun _ w_h => (List.mem_cons_of_mem _ (List.mem_append_right _ w_h))
  have hl := lv_entry ([.ref (a i), .ref (a j)]) (n := 2) (Nat.le_of_ble_eq_true rfl)
  rw [lg_entry_eq]
  generalize (lg_sl ([.ref (a i), .ref (a j)]) ++ List.replicate (2 - (lg_sl ([.ref (a i), .ref (a j)])).length) Slot.unset).toArray = ls at hl ⊢
  replace hl : lv_has ls 2 [(0, .ref (a i)), (1, .ref (a j))] := hl
  have hD : va_D (cA a) (cW C a V) := cD_own hDD
  generalize hHe : s.heap = H at hP ⊢
  have hS : va_S (cA a) s.heap H [] := by rw [hHe]; exact va_S.rf
  generalize hlo : ([] : List Loc) = locs at hS ⊢
  clear hHe hlo
  have hpb := hpa.1
  refine lv_aload_n hx hb dX3_bringBack_0 rfl (lv_at hl 0 rfl) ?_
  refine kq_get (i := i) hx hb hts hin_X3 hown hK hP (isPa.l0 hi) (cE_23 (isPa.s0 hi)) rfl 1 (by decide) (hts (.fieldLink RX3 17 "WordFletchers$Past" "known" "I") (List.mem_cons_of_mem _ (List.mem_append_left _ (List.mem_append_left _ (List.mem_of_getElem? (i := 0) rfl))))) rfl dX3_bringBack_1 ?_
  refine z_if_le (x := (V i 1)) (tgt := 30) hx hb (by omega) dX3_bringBack_4 (by decide) (fun c1 => ?_) (fun c1 => ?_)
  · exact kq_retV hx hb hK hP hS hr (by unfold f_brg; first | (rw [if_neg (by omega)]; done) | (rw [if_pos (by omega)]; subst_vars; rfl)) dX3_bringBack_30 hlocks
  · refine lv_aload_n hx hb dX3_bringBack_7 rfl (lv_at hl 0 rfl) ?_
    refine W.eq (g2 := F0 m 8 ls [.ref (a i)]) rfl ?_
    refine lv_dup hx hb dX3_bringBack_8 rfl ?_
    refine kq_get (i := i) hx hb hts hin_X3 hown hK hP (isPa.l0 hi) (cE_23 (isPa.s0 hi)) rfl 1 (by decide) (hts (.fieldLink RX3 17 "WordFletchers$Past" "known" "I") (List.mem_cons_of_mem _ (List.mem_append_left _ (List.mem_append_left _ (List.mem_of_getElem? (i := 0) rfl))))) rfl dX3_bringBack_9 ?_
    refine lv_iconst (v := iZ 1) hx hb dX3_bringBack_12 (by decide) ?_
    refine z_isub hx hb dX3_bringBack_13 ?_
    refine kq_put (ty := .int) (i := i) hx hb hts hin_X3 hown tyX3 tyX3_ok nmX3 hK hP hD hS (isPa.l0 hi) (cE_23 (isPa.s0 hi)) rfl 1 (by decide) (hts (.fieldLink RX3 17 "WordFletchers$Past" "known" "I") (List.mem_cons_of_mem _ (List.mem_append_left _ (List.mem_append_left _ (List.mem_of_getElem? (i := 0) rfl))))) rfl (by decide +kernel) rfl rfl (Nat.le_of_ble_eq_true rfl) rfl dX3_bringBack_14 (fun H locs hP hD hS => ?_)
    obtain ⟨V4, hV4⟩ : ∃ z : Nat → Nat → Int, z = (mU V i 1 ((V i 1) - 1)) := ⟨_, rfl⟩
    rw [← hV4] at hP hD
    have he1 : V4 i 1 = V i 1 - 1 := by rw [hV4, mU_eq]
    have he2 : V4 (i + 1) = V (i + 1) := by rw [hV4]; exact mU_or _ _ _ (by omega)
    have hmo : isMo (Int.toNat (V4 (i + 1) (Int.toNat (V4 i 1)))) := by rw [he2]; exact hpa.mo (by omega)
    refine lv_aload_n hx hb dX3_bringBack_17 rfl (lv_at hl 1 rfl) ?_
    refine lv_aload_n hx hb dX3_bringBack_18 rfl (lv_at hl 0 rfl) ?_
    refine kq_get (i := i) hx hb hts hin_X3 hown hK hP (isPa.l0 hi) (cE_23 (isPa.s0 hi)) rfl 0 (by decide) (hts (.fieldLink RX3 11 "WordFletchers$Past" "moments" "[LWordFletchers$Moment;") (List.mem_cons_of_mem _ (List.mem_append_left _ (List.mem_append_left _ (List.mem_of_getElem? (i := 1) rfl))))) rfl dX3_bringBack_19 ?_
    refine lv_aload_n hx hb dX3_bringBack_22 rfl (lv_at hl 0 rfl) ?_
    refine kq_get (i := i) hx hb hts hin_X3 hown hK hP (isPa.l0 hi) (cE_23 (isPa.s0 hi)) rfl 1 (by decide) (hts (.fieldLink RX3 17 "WordFletchers$Past" "known" "I") (List.mem_cons_of_mem _ (List.mem_append_left _ (List.mem_append_left _ (List.mem_of_getElem? (i := 0) rfl))))) rfl dX3_bringBack_23 ?_
    refine kq_aldM (i := i) hx hb hK hP hi (Int.toNat (V4 i 1)) rfl (by omega) dX3_bringBack_26 ?_
    refine kq_cv (i := j) (As := [.ref (a (Int.toNat (V4 (i + 1) (Int.toNat (V4 i 1)))))]) (rest := []) ⟨hx, hb, hml, hown, hts⟩ hK hP hN hD hS (isMo.l0 hj) (cE_26 (isMo.s0 hj)) rfl (K_X2_become l D C a b V4 j hj (Int.toNat (V4 (i + 1) (Int.toNat (V4 i 1)))) (by assumption) (hD.weaken (fun _ _ _ _ => trivial))) (cwV 1 hts gX3_bringBack_X2_become rfl rfl rfl (by decide +kernel) ⟨Nat.le_of_ble_eq_true rfl, Nat.le_of_ble_eq_true rfl⟩) rfl rfl hl.1 (Nat.le_of_ble_eq_true rfl) ⟨Nat.le_of_ble_eq_true rfl, Nat.le_of_ble_eq_true rfl⟩ dX3_bringBack_27 (fun H locs hP hD hS => ?_)
    obtain ⟨V5, hV5⟩ : ∃ z : Nat → Nat → Int, z = (f_bec V4 j (Int.toNat (V4 (i + 1) (Int.toNat (V4 i 1))))) := ⟨_, rfl⟩
    rw [← hV5] at hP hD
    refine W.eq (g2 := F0 m 30 ls []) rfl ?_
    exact kq_retV hx hb hK hP hS hr (by unfold f_brg; first | (rw [if_neg (by omega)]; done) | (rw [if_pos (by omega)]; subst_vars; rfl)) dX3_bringBack_30 hlocks
set_option maxHeartbeats 4000000 in
set_option maxRecDepth 100000 in
theorem K_X3_become (l : Launch) (D : va_G) (C : cC) (a b : Nat → Nat) (V : Nat → Nat → Int) (i : Nat) (hi : isPa i) (j : Nat) (hj : isPa j) (hpa : paI V i) (hpb : paI V j) (hDD : va_D (fun _ => True) (cW C a V)) : Met l yX3_become wsX3_become ({ frames := 2, cells := 0, slots := 0, locals := 69 }) (va_Pc [.ref (a i), .ref (a j)] (cOk D C a b V)) (va_Qv (fun (_ : Unit) => True) (fun _ t => cPo D C a (f_pbN V i j (Int.toNat (V j 1))) t) (cA a)) 0 0 (cA a) := by
  refine Met.ofW (cc := cX3_become) (maxL := 3) (ret := none) (by decide) rfl ?_
  intro p e s m args below meth c s₁ B hml hv
  obtain ⟨rfl, hP, hK, hN⟩ := hv
  have hx := B.exec
  have hb := B.bytes
  have hr := B.returns
  have hts := atoms_spec (ws := wsX3_become) B.pre
  have hown : s.vm.findClass RX3 = some m.cls := findClass_of_methodNamed B.named
  have hlocks := B.notSynchronized
  have hin_X3 : ∀ w ∈ wsX30, w ∈ wsX3_become := fun _ w_h => (List.mem_cons_of_mem _ (List.mem_append_left _ (List.mem_append_right _ w_h)))
  have hin_X2 : ∀ w ∈ wsX20, w ∈ wsX3_become := fun _ w_h => (List.mem_cons_of_mem _ (List.mem_append_right _ w_h))
  have hl := lv_entry ([.ref (a i), .ref (a j)]) (n := 3) (Nat.le_of_ble_eq_true rfl)
  rw [lg_entry_eq]
  generalize (lg_sl ([.ref (a i), .ref (a j)]) ++ List.replicate (3 - (lg_sl ([.ref (a i), .ref (a j)])).length) Slot.unset).toArray = ls at hl ⊢
  replace hl : lv_has ls 3 [(0, .ref (a i)), (1, .ref (a j))] := hl
  have hD : va_D (cA a) (cW C a V) := cD_own hDD
  generalize hHe : s.heap = H at hP ⊢
  have hS : va_S (cA a) s.heap H [] := by rw [hHe]; exact va_S.rf
  generalize hlo : ([] : List Loc) = locs at hS ⊢
  clear hHe hlo
  have hpc := hpb.1
  have hpd := hpa.1
  refine lv_aload_n hx hb dX3_become_0 rfl (lv_at hl 0 rfl) ?_
  refine lv_aload_n hx hb dX3_become_1 rfl (lv_at hl 1 rfl) ?_
  refine kq_get (i := j) hx hb hts hin_X3 hown hK hP (isPa.l0 hj) (cE_23 (isPa.s0 hj)) rfl 1 (by decide) (hts (.fieldLink RX3 17 "WordFletchers$Past" "known" "I") (List.mem_cons_of_mem _ (List.mem_append_left _ (List.mem_append_left _ (List.mem_of_getElem? (i := 0) rfl))))) rfl dX3_become_2 ?_
  refine kq_put (ty := .int) (i := i) hx hb hts hin_X3 hown tyX3 tyX3_ok nmX3 hK hP hD hS (isPa.l0 hi) (cE_23 (isPa.s0 hi)) rfl 1 (by decide) (hts (.fieldLink RX3 17 "WordFletchers$Past" "known" "I") (List.mem_cons_of_mem _ (List.mem_append_left _ (List.mem_append_left _ (List.mem_of_getElem? (i := 0) rfl))))) rfl (by decide +kernel) rfl rfl (Nat.le_of_ble_eq_true rfl) rfl dX3_become_5 (fun H locs hP hD hS => ?_)
  obtain ⟨V1, hV1⟩ : ∃ z : Nat → Nat → Int, z = (mU V i 1 (V j 1)) := ⟨_, rfl⟩
  rw [← hV1] at hP hD
  have hz : V1 = f_pbN V i j (Int.toNat 0) := hV1
  refine lv_iconst (v := iZ 0) hx hb dX3_become_8 (by decide) ?_
  refine lv_istore_n (lv' := [(2, .int (iZ 0)), (0, .ref (a i)), (1, .ref (a j))]) hx hb dX3_become_9 rfl hl (by decide) rfl (fun ls hl => ?_)
  replace hl : lv_has ls 3 [(2, .int (iZ (0 : Int))), (0, .ref (a i)), (1, .ref (a j))] := lv_sub hl [0, 1, 2] rfl
  replace hP := And.intro hP hS
  clear hS
  revert ls
  revert hP
  revert H locs
  refine z_loopH (σ := Int × (Nat → Nat → Int)) (fun x9 => (0 ≤ x9.1 ∧ x9.1 ≤ V j 1) ∧ (x9.2 = f_pbN V i j (Int.toNat x9.1))) (fun x9 H9 locs9 => va_P D vwCl (cW C a (x9.2)) H9 ∧ va_S (cA a) s.heap H9 locs9) (fun x9 => [(2, .int (iZ (x9.1))), (0, .ref (a i)), (1, .ref (a j))]) 3 (fun x9 => (V j 1 - x9.1).toNat) ((0 : Int), V1) ⟨(by show 0 ≤ (0 : Int) ∧ (0 : Int) ≤ V j 1; omega), (by show V1 = f_pbN V i j (Int.toNat (0 : Int)); assumption)⟩ ?_
  rintro ⟨n, Vw⟩ hI9 ih10 H locs hPS ls hl
  have hP : va_P D vwCl (cW C a Vw) H := hPS.1
  have hS : va_S (cA a) s.heap H locs := hPS.2
  clear hPS
  have hD : va_D (cA a) (cW C a Vw) := cD_re hD
  obtain ⟨i1, i2⟩ := hI9
  replace i1 : 0 ≤ n ∧ n ≤ V j 1 := i1
  replace i2 : Vw = f_pbN V i j (Int.toNat n) := i2
  replace hl : lv_has ls 3 [(2, .int (iZ n)), (0, .ref (a i)), (1, .ref (a j))] := hl
  obtain ⟨w1, w2, w3⟩ := f_pbN_pa hi hj hpa hpb (Int.toNat n) (by omega)
  rw [← i2] at w1 w2 w3
  have hm1 : n < 10 → isMo (Int.toNat (Vw (i + 1) (Int.toNat n))) := fun h9 => (w1.2 _ (by omega)).1
  have hm2 : n < 10 → isMo (Int.toNat (Vw (j + 1) (Int.toNat n))) := fun h9 => (w2.2 _ (by omega)).1
  refine lv_iload_n hx hb dX3_become_10 rfl (lv_at hl 0 rfl) ?_
  refine lv_aload_n hx hb dX3_become_11 rfl (lv_at hl 1 rfl) ?_
  refine kq_get (i := i) hx hb hts hin_X3 hown hK hP (isPa.l0 hi) (cE_23 (isPa.s0 hi)) rfl 1 (by decide) (hts (.fieldLink RX3 17 "WordFletchers$Past" "known" "I") (List.mem_cons_of_mem _ (List.mem_append_left _ (List.mem_append_left _ (List.mem_of_getElem? (i := 0) rfl))))) rfl dX3_become_12 ?_
  refine z_icmp_ge (x := n) (y := (Vw i 1)) (tgt := 39) hx hb (by omega) (by omega) dX3_become_15 (by decide) (fun c2 => ?_) (fun c2 => ?_)
  · exact kq_retV hx hb hK hP hS hr (by have q : n = V j 1 := (by omega); rw [i2, q]) dX3_become_39 hlocks
  · refine lv_aload_n hx hb dX3_become_18 rfl (lv_at hl 1 rfl) ?_
    refine W.eq (g2 := F0 m 19 ls [.ref (a i)]) rfl ?_
    refine kq_get (i := i) hx hb hts hin_X3 hown hK hP (isPa.l0 hi) (cE_23 (isPa.s0 hi)) rfl 0 (by decide) (hts (.fieldLink RX3 11 "WordFletchers$Past" "moments" "[LWordFletchers$Moment;") (List.mem_cons_of_mem _ (List.mem_append_left _ (List.mem_append_left _ (List.mem_of_getElem? (i := 1) rfl))))) rfl dX3_become_19 ?_
    refine lv_iload_n hx hb dX3_become_22 rfl (lv_at hl 0 rfl) ?_
    refine kq_aldM (i := i) hx hb hK hP hi (Int.toNat n) rfl (by omega) dX3_become_23 ?_
    refine lv_aload_n hx hb dX3_become_24 rfl (lv_at hl 2 rfl) ?_
    refine kq_get (i := j) hx hb hts hin_X3 hown hK hP (isPa.l0 hj) (cE_23 (isPa.s0 hj)) rfl 0 (by decide) (hts (.fieldLink RX3 11 "WordFletchers$Past" "moments" "[LWordFletchers$Moment;") (List.mem_cons_of_mem _ (List.mem_append_left _ (List.mem_append_left _ (List.mem_of_getElem? (i := 1) rfl))))) rfl dX3_become_25 ?_
    refine lv_iload_n hx hb dX3_become_28 rfl (lv_at hl 0 rfl) ?_
    refine kq_aldM (i := j) hx hb hK hP hj (Int.toNat n) rfl (by omega) dX3_become_29 ?_
    refine kq_cv (i := (Int.toNat (Vw (i + 1) (Int.toNat n)))) (As := [.ref (a (Int.toNat (Vw (j + 1) (Int.toNat n))))]) (rest := []) ⟨hx, hb, hml, hown, hts⟩ hK hP hN hD hS (isMo.l0 (hm1 (by omega))) (cE_26 (isMo.s0 (hm1 (by omega)))) rfl (K_X2_become l D C a b Vw (Int.toNat (Vw (i + 1) (Int.toNat n))) (hm1 (by omega)) (Int.toNat (Vw (j + 1) (Int.toNat n))) (hm2 (by omega)) (hD.weaken (fun _ _ _ _ => trivial))) (cwV 1 hts gX3_become_X2_become rfl rfl rfl (by decide +kernel) ⟨Nat.le_of_ble_eq_true rfl, Nat.le_of_ble_eq_true rfl⟩) rfl rfl hl.1 (Nat.le_of_ble_eq_true rfl) ⟨Nat.le_of_ble_eq_true rfl, Nat.le_of_ble_eq_true rfl⟩ dX3_become_30 (fun H locs hP hD hS => ?_)
    obtain ⟨V4, hV4⟩ : ∃ z : Nat → Nat → Int, z = (f_bec Vw (Int.toNat (Vw (i + 1) (Int.toNat n))) (Int.toNat (Vw (j + 1) (Int.toNat n)))) := ⟨_, rfl⟩
    rw [← hV4] at hP hD
    have hst : V4 = f_pbN V i j (Int.toNat (n + 1)) := by rw [hV4, f_pbN_succ V i j i1.1, i2]
    refine lv_iinc (v := iZ (n + 1)) (lv' := [(2, .int (iZ (n + 1))), (0, .ref (a i)), (1, .ref (a j))]) hx hb dX3_become_33 hl (k := 0) rfl (iZ_add _ _) (by decide) rfl (fun ls hl => ?_)
    refine lv_goto (tgt := 10) hx hb dX3_become_36 (by decide) ?_
    exact ih10 ((n + 1), V4) ⟨(by show 0 ≤ (n + 1) ∧ (n + 1) ≤ V j 1; omega), (by show V4 = f_pbN V i j (Int.toNat (n + 1)); exact hst)⟩ (by show (V j 1 - (n + 1)).toNat < (V j 1 - n).toNat; omega) H locs ⟨hP, hS⟩ ls (lv_sub hl [0, 1, 2] rfl)
set_option maxHeartbeats 4000000 in
set_option maxRecDepth 100000 in
theorem K_X1_take (l : Launch) (D : va_G) (C : cC) (a b : Nat → Nat) (V : Nat → Nat → Int) (i : Nat) (hi : isIm i) (j : Nat) (hj : isMo j) (k : Nat) (hk : isPa k) (hpa : paI V (33 + 2 * (i - 37))) (hpb : paI V k) (hjo : j = 39) (hDD : va_D (fun _ => True) (cW C a V)) : Met l yX1_take wsX1_take ({ frames := 3, cells := 0, slots := 0, locals := 91 }) (va_Pc [.ref (a i), .ref (a j), .ref (a k)] (cOk D C a b V)) (va_Qv (fun (_ : Unit) => True) (fun _ t => cPo D C a (f_tak V i j k) t) (cA a)) 0 0 (cA a) := by
  refine Met.ofW (cc := cX1_take) (maxL := 3) (ret := none) (by decide) rfl ?_
  intro p e s m args below meth c s₁ B hml hv
  obtain ⟨rfl, hP, hK, hN⟩ := hv
  have hx := B.exec
  have hb := B.bytes
  have hr := B.returns
  have hts := atoms_spec (ws := wsX1_take) B.pre
  have hown : s.vm.findClass RX1 = some m.cls := findClass_of_methodNamed B.named
  have hlocks := B.notSynchronized
  have hin_X1 : ∀ w ∈ wsX10, w ∈ wsX1_take := fun _ w_h => (List.mem_cons_of_mem _ (List.mem_append_left _ (List.mem_append_left _ (List.mem_append_right _ w_h))))
  have hin_X2 : ∀ w ∈ wsX20, w ∈ wsX1_take := fun _ w_h => (List.mem_cons_of_mem _ (List.mem_append_left _ (List.mem_append_right _ w_h)))
  have hin_X3 : ∀ w ∈ wsX30, w ∈ wsX1_take := fun _ w_h => (List.mem_cons_of_mem _ (List.mem_append_right _ w_h))
  have hl := lv_entry ([.ref (a i), .ref (a j), .ref (a k)]) (n := 3) (Nat.le_of_ble_eq_true rfl)
  rw [lg_entry_eq]
  generalize (lg_sl ([.ref (a i), .ref (a j), .ref (a k)]) ++ List.replicate (3 - (lg_sl ([.ref (a i), .ref (a j), .ref (a k)])).length) Slot.unset).toArray = ls at hl ⊢
  replace hl : lv_has ls 3 [(0, .ref (a i)), (1, .ref (a j)), (2, .ref (a k))] := hl
  have hD : va_D (cA a) (cW C a V) := cD_own hDD
  generalize hHe : s.heap = H at hP ⊢
  have hS : va_S (cA a) s.heap H [] := by rw [hHe]; exact va_S.rf
  generalize hlo : ([] : List Loc) = locs at hS ⊢
  clear hHe hlo
  have hio := hi
  unfold isIm at hio
  have hko := hk
  unfold isPa at hko
  refine lv_aload_n hx hb dX1_take_0 rfl (lv_at hl 0 rfl) ?_
  refine kq_get (i := i) hx hb hts hin_X1 hown hK hP (isIm.l0 hi) (cE_25 (isIm.s0 hi)) rfl 0 (by decide) (hts (.fieldLink RX1 10 "WordFletchers$Image" "moment" "LWordFletchers$Moment;") (List.mem_cons_of_mem _ (List.mem_append_left _ (List.mem_append_left _ (List.mem_append_left _ (List.mem_append_left _ (List.mem_of_getElem? (i := 0) rfl))))))) rfl dX1_take_1 ?_
  refine W.eq (g2 := F0 m 4 ls [.ref (a (44 + 5 * (i - 37)))]) rfl ?_
  refine lv_aload_n hx hb dX1_take_4 rfl (lv_at hl 1 rfl) ?_
  refine kq_cv (i := (44 + 5 * (i - 37))) (As := [.ref (a j)]) (rest := []) ⟨hx, hb, hml, hown, hts⟩ hK hP hN hD hS (isMo.l0 (isIm.mo hi)) (cE_26 (isMo.s0 (isIm.mo hi))) rfl (K_X2_become l D C a b V (44 + 5 * (i - 37)) (isIm.mo hi) j hj (hD.weaken (fun _ _ _ _ => trivial))) (cwV 1 hts gX1_take_X2_become rfl rfl rfl (by decide +kernel) ⟨Nat.le_of_ble_eq_true rfl, Nat.le_of_ble_eq_true rfl⟩) rfl rfl hl.1 (Nat.le_of_ble_eq_true rfl) ⟨Nat.le_of_ble_eq_true rfl, Nat.le_of_ble_eq_true rfl⟩ dX1_take_5 (fun H locs hP hD hS => ?_)
  obtain ⟨V1, hV1⟩ : ∃ z : Nat → Nat → Int, z = (f_bec V (44 + 5 * (i - 37)) j) := ⟨_, rfl⟩
  rw [← hV1] at hP hD
  have hq1 : paI V1 (33 + 2 * (i - 37)) := by rw [hV1]; exact hpa.of (f_bec_o _ (by omega)) (f_bec_o _ (by omega))
  have hq2 : paI V1 k := by rw [hV1]; exact hpb.of (f_bec_o _ (by omega)) (f_bec_o _ (by omega))
  refine lv_aload_n hx hb dX1_take_8 rfl (lv_at hl 0 rfl) ?_
  refine kq_get (i := i) hx hb hts hin_X1 hown hK hP (isIm.l0 hi) (cE_25 (isIm.s0 hi)) rfl 1 (by decide) (hts (.fieldLink RX1 19 "WordFletchers$Image" "past" "LWordFletchers$Past;") (List.mem_cons_of_mem _ (List.mem_append_left _ (List.mem_append_left _ (List.mem_append_left _ (List.mem_append_left _ (List.mem_of_getElem? (i := 1) rfl))))))) rfl dX1_take_9 ?_
  refine lv_aload_n hx hb dX1_take_12 rfl (lv_at hl 2 rfl) ?_
  refine kq_cv (i := (33 + 2 * (i - 37))) (As := [.ref (a k)]) (rest := []) ⟨hx, hb, hml, hown, hts⟩ hK hP hN hD hS (isPa.l0 (isIm.pa hi)) (cE_23 (isPa.s0 (isIm.pa hi))) rfl (K_X3_become l D C a b V1 (33 + 2 * (i - 37)) (isIm.pa hi) k hk (by assumption) (by assumption) (hD.weaken (fun _ _ _ _ => trivial))) (cwV 1 hts gX1_take_X3_become rfl rfl rfl (by decide +kernel) ⟨Nat.le_of_ble_eq_true rfl, Nat.le_of_ble_eq_true rfl⟩) rfl rfl hl.1 (Nat.le_of_ble_eq_true rfl) ⟨Nat.le_of_ble_eq_true rfl, Nat.le_of_ble_eq_true rfl⟩ dX1_take_13 (fun H locs hP hD hS => ?_)
  obtain ⟨V2, hV2⟩ : ∃ z : Nat → Nat → Int, z = (f_pbN V1 (33 + 2 * (i - 37)) k (Int.toNat (V1 k 1))) := ⟨_, rfl⟩
  rw [← hV2] at hP hD
  refine lv_aload_n hx hb dX1_take_16 rfl (lv_at hl 0 rfl) ?_
  refine lv_iconst (v := iZ 1) hx hb dX1_take_17 (by decide) ?_
  refine kq_put (ty := .boolean) (i := i) hx hb hts hin_X1 hown tyX1 tyX1_ok nmX1 hK hP hD hS (isIm.l0 hi) (cE_25 (isIm.s0 hi)) rfl 2 (by decide) (hts (.fieldLink RX1 23 "WordFletchers$Image" "kept" "Z") (List.mem_cons_of_mem _ (List.mem_append_left _ (List.mem_append_left _ (List.mem_append_left _ (List.mem_append_left _ (List.mem_of_getElem? (i := 2) rfl))))))) rfl (by decide +kernel) (z_nbool (by omega)) (z_fbool (by omega)) (Nat.le_of_ble_eq_true rfl) rfl dX1_take_18 (fun H locs hP hD hS => ?_)
  obtain ⟨V3, hV3⟩ : ∃ z : Nat → Nat → Int, z = (mU V2 i 2 1) := ⟨_, rfl⟩
  rw [← hV3] at hP hD
  exact kq_retV hx hb hK hP hS hr (by unfold f_tak; subst_vars; rfl) dX1_take_21 hlocks
set_option maxHeartbeats 4000000 in
set_option maxRecDepth 100000 in
theorem K_X1_give (l : Launch) (D : va_G) (C : cC) (a b : Nat → Nat) (V : Nat → Nat → Int) (i : Nat) (hi : isIm i) (j : Nat) (hj : isMo j) (k : Nat) (hk : isPa k) (hpa : paI V (33 + 2 * (i - 37))) (hpb : paI V k) (hjo : j = 39) (hDD : va_D (fun _ => True) (cW C a V)) : Met l yX1_give wsX1_give ({ frames := 3, cells := 0, slots := 0, locals := 91 }) (va_Pc [.ref (a i), .ref (a j), .ref (a k)] (cOk D C a b V)) (va_Qv (fun (_ : Unit) => True) (fun _ t => cPo D C a (f_giv V i j k) t) (cA a)) 0 0 (cA a) := by
  refine Met.ofW (cc := cX1_give) (maxL := 3) (ret := none) (by decide) rfl ?_
  intro p e s m args below meth c s₁ B hml hv
  obtain ⟨rfl, hP, hK, hN⟩ := hv
  have hx := B.exec
  have hb := B.bytes
  have hr := B.returns
  have hts := atoms_spec (ws := wsX1_give) B.pre
  have hown : s.vm.findClass RX1 = some m.cls := findClass_of_methodNamed B.named
  have hlocks := B.notSynchronized
  have hin_X1 : ∀ w ∈ wsX10, w ∈ wsX1_give := fun _ w_h => (List.mem_cons_of_mem _ (List.mem_append_left _ (List.mem_append_left _ (List.mem_append_right _ w_h))))
  have hin_X2 : ∀ w ∈ wsX20, w ∈ wsX1_give := fun _ w_h => (List.mem_cons_of_mem _ (List.mem_append_left _ (List.mem_append_right _ w_h)))
  have hin_X3 : ∀ w ∈ wsX30, w ∈ wsX1_give := fun _ w_h => (List.mem_cons_of_mem _ (List.mem_append_right _ w_h))
  have hl := lv_entry ([.ref (a i), .ref (a j), .ref (a k)]) (n := 3) (Nat.le_of_ble_eq_true rfl)
  rw [lg_entry_eq]
  generalize (lg_sl ([.ref (a i), .ref (a j), .ref (a k)]) ++ List.replicate (3 - (lg_sl ([.ref (a i), .ref (a j), .ref (a k)])).length) Slot.unset).toArray = ls at hl ⊢
  replace hl : lv_has ls 3 [(0, .ref (a i)), (1, .ref (a j)), (2, .ref (a k))] := hl
  have hD : va_D (cA a) (cW C a V) := cD_own hDD
  generalize hHe : s.heap = H at hP ⊢
  have hS : va_S (cA a) s.heap H [] := by rw [hHe]; exact va_S.rf
  generalize hlo : ([] : List Loc) = locs at hS ⊢
  clear hHe hlo
  have hio := hi
  unfold isIm at hio
  have hko := hk
  unfold isPa at hko
  refine lv_aload_n hx hb dX1_give_0 rfl (lv_at hl 1 rfl) ?_
  refine lv_aload_n hx hb dX1_give_1 rfl (lv_at hl 0 rfl) ?_
  refine W.eq (g2 := F0 m 2 ls [.ref (a i), .ref (a j)]) rfl ?_
  refine kq_get (i := i) hx hb hts hin_X1 hown hK hP (isIm.l0 hi) (cE_25 (isIm.s0 hi)) rfl 0 (by decide) (hts (.fieldLink RX1 10 "WordFletchers$Image" "moment" "LWordFletchers$Moment;") (List.mem_cons_of_mem _ (List.mem_append_left _ (List.mem_append_left _ (List.mem_append_left _ (List.mem_append_left _ (List.mem_of_getElem? (i := 0) rfl))))))) rfl dX1_give_2 ?_
  refine kq_cv (i := j) (As := [.ref (a (44 + 5 * (i - 37)))]) (rest := []) ⟨hx, hb, hml, hown, hts⟩ hK hP hN hD hS (isMo.l0 hj) (cE_26 (isMo.s0 hj)) rfl (K_X2_become l D C a b V j hj (44 + 5 * (i - 37)) (isIm.mo hi) (hD.weaken (fun _ _ _ _ => trivial))) (cwV 1 hts gX1_give_X2_become rfl rfl rfl (by decide +kernel) ⟨Nat.le_of_ble_eq_true rfl, Nat.le_of_ble_eq_true rfl⟩) rfl rfl hl.1 (Nat.le_of_ble_eq_true rfl) ⟨Nat.le_of_ble_eq_true rfl, Nat.le_of_ble_eq_true rfl⟩ dX1_give_5 (fun H locs hP hD hS => ?_)
  obtain ⟨V1, hV1⟩ : ∃ z : Nat → Nat → Int, z = (f_bec V j (44 + 5 * (i - 37))) := ⟨_, rfl⟩
  rw [← hV1] at hP hD
  have hq1 : paI V1 (33 + 2 * (i - 37)) := by rw [hV1]; exact hpa.of (f_bec_o _ (by omega)) (f_bec_o _ (by omega))
  have hq2 : paI V1 k := by rw [hV1]; exact hpb.of (f_bec_o _ (by omega)) (f_bec_o _ (by omega))
  refine lv_aload_n hx hb dX1_give_8 rfl (lv_at hl 2 rfl) ?_
  refine lv_aload_n hx hb dX1_give_9 rfl (lv_at hl 0 rfl) ?_
  refine kq_get (i := i) hx hb hts hin_X1 hown hK hP (isIm.l0 hi) (cE_25 (isIm.s0 hi)) rfl 1 (by decide) (hts (.fieldLink RX1 19 "WordFletchers$Image" "past" "LWordFletchers$Past;") (List.mem_cons_of_mem _ (List.mem_append_left _ (List.mem_append_left _ (List.mem_append_left _ (List.mem_append_left _ (List.mem_of_getElem? (i := 1) rfl))))))) rfl dX1_give_10 ?_
  refine kq_cv (i := k) (As := [.ref (a (33 + 2 * (i - 37)))]) (rest := []) ⟨hx, hb, hml, hown, hts⟩ hK hP hN hD hS (isPa.l0 hk) (cE_23 (isPa.s0 hk)) rfl (K_X3_become l D C a b V1 k hk (33 + 2 * (i - 37)) (isIm.pa hi) (by assumption) (by assumption) (hD.weaken (fun _ _ _ _ => trivial))) (cwV 1 hts gX1_give_X3_become rfl rfl rfl (by decide +kernel) ⟨Nat.le_of_ble_eq_true rfl, Nat.le_of_ble_eq_true rfl⟩) rfl rfl hl.1 (Nat.le_of_ble_eq_true rfl) ⟨Nat.le_of_ble_eq_true rfl, Nat.le_of_ble_eq_true rfl⟩ dX1_give_13 (fun H locs hP hD hS => ?_)
  obtain ⟨V2, hV2⟩ : ∃ z : Nat → Nat → Int, z = (f_pbN V1 k (33 + 2 * (i - 37)) (Int.toNat (V1 (33 + 2 * (i - 37)) 1))) := ⟨_, rfl⟩
  rw [← hV2] at hP hD
  exact kq_retV hx hb hK hP hS hr (by unfold f_giv; subst_vars; rfl) dX1_give_16 hlocks
