set_option maxHeartbeats 4000000 in
set_option maxRecDepth 100000 in
theorem K_X5_readOne (l : Launch) (D : va_G) (C : cC) (a b : Nat → Nat) (V : Nat → Nat → Int) (to : Nat) (hto : isTo to) (hR : rdI V) (hd : dtI V to) (hDD : va_D (fun _ => True) (cW C a V)) : Met l yX5_readOne wsX5_readOne ({ frames := 4, cells := 0, slots := 0, locals := 88 }) (va_Pc [.ref (a 2), .ref (a to)] (cOk D C a b V)) (va_Qi (fun r (_ : Unit) => r = iZ (r_one V to)) (fun _ t => cPo D C a (f_one V to) t) (cA a)) 0 0 (cA a) := by
  refine Met.ofW (cc := cX5_readOne) (maxL := 4) (ret := (some .boolean)) (by decide) rfl ?_
  intro p e s m args below meth c s₁ B hml hv
  obtain ⟨rfl, hP, hK, hN⟩ := hv
  have hx := B.exec
  have hb := B.bytes
  have hr := B.returns
  have hts := atoms_spec (ws := wsX5_readOne) B.pre
  have hown : s.vm.findClass RX5 = some m.cls := findClass_of_methodNamed B.named
  have hlocks := B.notSynchronized
  have hin_X6 : ∀ w ∈ wsX60, w ∈ wsX5_readOne := fun _ w_h => (List.mem_cons_of_mem _ (List.mem_append_left _ (List.mem_append_right _ w_h)))
  have hin_X5 : ∀ w ∈ wsX50, w ∈ wsX5_readOne := fun _ w_h => (List.mem_cons_of_mem _ (List.mem_append_right _ w_h))
  have hl := lv_entry ([.ref (a 2), .ref (a to)]) (n := 4) (Nat.le_of_ble_eq_true rfl)
  rw [lg_entry_eq]
  generalize (lg_sl ([.ref (a 2), .ref (a to)]) ++ List.replicate (4 - (lg_sl ([.ref (a 2), .ref (a to)])).length) Slot.unset).toArray = ls at hl ⊢
  replace hl : lv_has ls 4 [(0, .ref (a 2)), (1, .ref (a to))] := hl
  have hD : va_D (cA a) (cW C a V) := cD_own hDD
  generalize hHe : s.heap = H at hP ⊢
  have hS : va_S (cA a) s.heap H [] := by rw [hHe]; exact va_S.rf
  generalize hlo : ([] : List Loc) = locs at hS ⊢
  clear hHe hlo
  obtain ⟨⟨r1, r2, r3, r4, r6⟩, r5⟩ := id hR
  have hH : rdH V := hR.1.h
  obtain ⟨d7, d8, d9⟩ := id hd
  have hto9 := hto
  unfold isTo at hto9
  refine lv_aload_n hx hb dX5_readOne_0 rfl (lv_at hl 1 rfl) ?_
  refine kq_get (i := to) hx hb hts hin_X6 hown hK hP (isTo.l0 hto) (cE_15 (isTo.s0 hto)) rfl 7 (by decide) (hts (.fieldLink RX5 61 "WordFletchers$Told" "people" "I") (List.mem_cons_of_mem _ (List.mem_append_left _ (List.mem_append_left _ (List.mem_append_left _ (List.mem_of_getElem? (i := 0) rfl)))))) rfl dX5_readOne_1 ?_
  refine lv_bipush (v := iZ 6) hx hb dX5_readOne_4 (by decide) ?_
  refine z_icmp_lt (x := (V to 7)) (y := 6) (tgt := 11) hx hb (by omega) (by omega) dX5_readOne_6 (by decide) (fun c1 => ?_) (fun c1 => ?_)
  · refine lv_aload_n hx hb dX5_readOne_11 rfl (lv_at hl 0 rfl) ?_
    refine kq_cv (i := 2) (As := []) (rest := []) ⟨hx, hb, hml, hown, hts⟩ hK hP hN hD hS (by decide) (cE_2 rfl) rfl (K_X5_step l D C a b V  (by assumption) (hD.weaken (fun _ _ _ _ => trivial))) (cwV 0 hts gX5_readOne_X5_step rfl rfl rfl (by decide +kernel) ⟨Nat.le_of_ble_eq_true rfl, Nat.le_of_ble_eq_true rfl⟩) rfl rfl hl.1 (Nat.le_of_ble_eq_true rfl) ⟨Nat.le_of_ble_eq_true rfl, Nat.le_of_ble_eq_true rfl⟩ dX5_readOne_12 (fun H locs hP hD hS => ?_)
    obtain ⟨V2, hV2⟩ : ∃ z : Nat → Nat → Int, z = (f_kst V) := ⟨_, rfl⟩
    rw [← hV2] at hP hD
    have q1 : V2 = f_kst V := hV2
    have hR_V2 : rdI V2 := by rw [hV2]; exact rdI_kst hR.1.h
    refine lv_aload_n hx hb dX5_readOne_15 rfl (lv_at hl 0 rfl) ?_
    refine lv_iconst (v := iZ 0) hx hb dX5_readOne_16 (by decide) ?_
    refine lv_bipush (v := iZ 30) hx hb dX5_readOne_17 (by decide) ?_
    refine kq_cm (i := 2) (As := [.int (iZ 0), .int (iZ 30)]) (rest := []) ⟨hx, hb, hml, hown, hts⟩ hK hP hN hD hS (by decide) (cE_2 rfl) rfl (K_X5_takeNumber l D C a b V2 0 30 (by assumption) (by omega) (by omega) (hD.weaken (fun _ _ _ _ => trivial))) (cwV 2 hts gX5_readOne_X5_takeNumber rfl rfl rfl (by decide +kernel) ⟨Nat.le_of_ble_eq_true rfl, Nat.le_of_ble_eq_true rfl⟩) rfl rfl hl.1 (Nat.le_of_ble_eq_true rfl) ⟨Nat.le_of_ble_eq_true rfl, Nat.le_of_ble_eq_true rfl⟩ dX5_readOne_19 (fun H locs hP hD hS => ?_)
    obtain ⟨V3, hV3⟩ : ∃ z : Nat → Nat → Int, z = (f_knum V2 0 30) := ⟨_, rfl⟩
    rw [← hV3] at hP hD
    have q2 : V3 = f_o2 V := by rw [hV3, q1]; rfl
    have hR_V3 : rdI V3 := by rw [hV3]; exact rdI_knum hR_V2 _ _
    refine z_nm (fun pl hpl => ?_)
    have q2e : pl = o_pl V := by rw [hpl, q1]; rfl
    have q2b : pl = -1 ∨ (0 ≤ pl ∧ pl ≤ 30) := by rw [hpl]; exact k_num_bd 0 30 (by decide)
    refine lv_istore_n (lv' := [(2, .int (iZ pl)), (0, .ref (a 2)), (1, .ref (a to))]) hx hb dX5_readOne_22 rfl hl (by decide) rfl (fun ls hl => ?_)
    refine W.eq (g2 := F0 m 23 ls []) rfl ?_
    refine lv_iload_n hx hb dX5_readOne_23 rfl (lv_at hl 0 rfl) ?_
    refine z_if_ge (x := pl) (tgt := 31) hx hb (by omega) dX5_readOne_24 (by decide) (fun c4 => ?_) (fun c4 => ?_)
    · refine lv_aload_n hx hb dX5_readOne_31 rfl (lv_at hl 1 rfl) ?_
      refine lv_iconst (v := iZ 0) hx hb dX5_readOne_32 (by decide) ?_
      refine lv_iconst (v := iZ 5) hx hb dX5_readOne_33 (by decide) ?_
      refine kq_cm (i := 2) (As := [.int (iZ 0), .int (iZ 5)]) (rest := []) ⟨hx, hb, hml, hown, hts⟩ hK hP hN hD hS (by decide) (cE_2 rfl) rfl (K_X5_takeNumber l D C a b V3 0 5 (by assumption) (by omega) (by omega) (hD.weaken (fun _ _ _ _ => trivial))) (cwV 2 hts gX5_readOne_X5_takeNumber rfl rfl rfl (by decide +kernel) ⟨Nat.le_of_ble_eq_true rfl, Nat.le_of_ble_eq_true rfl⟩) rfl rfl hl.1 (Nat.le_of_ble_eq_true rfl) ⟨Nat.le_of_ble_eq_true rfl, Nat.le_of_ble_eq_true rfl⟩ dX5_readOne_34 (fun H locs hP hD hS => ?_)
      obtain ⟨V5, hV5⟩ : ∃ z : Nat → Nat → Int, z = (f_knum V3 0 5) := ⟨_, rfl⟩
      rw [← hV5] at hP hD
      have q3 : V5 = f_o3 V := by rw [hV5, q2]; rfl
      have hR_V5 : rdI V5 := by rw [hV5]; exact rdI_knum hR_V3 _ _
      refine z_nm (fun er her => ?_)
      have q3e : er = o_er V := by rw [her, q2]; rfl
      have q3b : er = -1 ∨ (0 ≤ er ∧ er ≤ 5) := by rw [her]; exact k_num_bd 0 5 (by decide)
      refine lv_istore_n (lv' := [(3, .int (iZ er)), (2, .int (iZ pl)), (0, .ref (a 2)), (1, .ref (a to))]) hx hb dX5_readOne_37 rfl hl (by decide) rfl (fun ls hl => ?_)
      refine lv_iload_n hx hb dX5_readOne_38 rfl (lv_at hl 0 rfl) ?_
      refine z_if_lt (x := er) (tgt := 49) hx hb (by omega) dX5_readOne_39 (by decide) (fun c6 => ?_) (fun c6 => ?_)
      · refine lv_iconst (v := iZ 0) hx hb dX5_readOne_49 (by decide) ?_
        exact kq_retM hx hb hK hP hS hr (z_nbool (by first | omega | (split <;> omega))) (by unfold r_one; first | exact (if_pos (by omega)).symm | exact (if_neg (by omega)).symm) (by unfold f_one; (first | (refine Eq.trans ?_ (if_pos (by omega)).symm; rfl) | (refine Eq.trans ?_ (if_neg (by omega)).symm; first | (refine Eq.trans ?_ (if_pos (by omega)).symm; exact q2) | (refine Eq.trans ?_ (if_neg (by omega)).symm; first | (refine Eq.trans ?_ (if_pos (by omega)).symm; exact q3) | (refine Eq.trans ?_ (if_neg (by omega)).symm; first | (refine Eq.trans ?_ (if_pos (by omega)).symm; exact q9) | (refine Eq.trans ?_ (if_neg (by omega)).symm; rw [← q9, ← q2e, ← q3e, r7, w6, r6, w5, r5]; rfl)))))) dX5_readOne_50 hlocks
      · refine lv_aload_n hx hb dX5_readOne_42 rfl (lv_at hl 2 rfl) ?_
        refine W.eq (g2 := F0 m 43 ls [.ref (a 2)]) rfl ?_
        refine kq_cm (i := 2) (As := []) (rest := []) ⟨hx, hb, hml, hown, hts⟩ hK hP hN hD hS (by decide) (cE_2 rfl) rfl (K_X5_takeSemicolon l D C a b V5  (by assumption) (hD.weaken (fun _ _ _ _ => trivial))) (cwV 0 hts gX5_readOne_X5_takeSemicolon rfl rfl rfl (by decide +kernel) ⟨Nat.le_of_ble_eq_true rfl, Nat.le_of_ble_eq_true rfl⟩) rfl rfl hl.1 (Nat.le_of_ble_eq_true rfl) ⟨Nat.le_of_ble_eq_true rfl, Nat.le_of_ble_eq_true rfl⟩ dX5_readOne_43 (fun H locs hP hD hS => ?_)
        obtain ⟨V7, hV7⟩ : ∃ z : Nat → Nat → Int, z = (f_ksem V5) := ⟨_, rfl⟩
        rw [← hV7] at hP hD
        have q9 : V7 = f_ksem (f_o3 V) := by rw [hV7, q3]
        have eto : V7 to = V to := by rw [q9, f_ksem_o _ to hto.n2, f_o3_o V hto.n2]
        have q9s : V5 2 3 = f_o3 V 2 3 := by rw [q3]
        have d7m : V7 to 7 = V to 7 := by rw [eto]
        have d8m : V7 to 8 = V to 8 := by rw [eto]
        refine z_ifb_ne (P := V5 2 3 = 3) (tgt := 51) hx hb dX5_readOne_46 (by decide) (fun c8 => ?_) (fun c8 => ?_)
        · refine lv_aload_n hx hb dX5_readOne_51 rfl (lv_at hl 3 rfl) ?_
          refine kq_get (i := to) hx hb hts hin_X6 hown hK hP (isTo.l0 hto) (cE_15 (isTo.s0 hto)) rfl 0 (by decide) (hts (.fieldLink RX5 71 "WordFletchers$Told" "place" "[I") (List.mem_cons_of_mem _ (List.mem_append_left _ (List.mem_append_left _ (List.mem_append_left _ (List.mem_of_getElem? (i := 1) rfl)))))) rfl dX5_readOne_52 ?_
          refine lv_aload_n hx hb dX5_readOne_55 rfl (lv_at hl 3 rfl) ?_
          refine kq_get (i := to) hx hb hts hin_X6 hown hK hP (isTo.l0 hto) (cE_15 (isTo.s0 hto)) rfl 7 (by decide) (hts (.fieldLink RX5 61 "WordFletchers$Told" "people" "I") (List.mem_cons_of_mem _ (List.mem_append_left _ (List.mem_append_left _ (List.mem_append_left _ (List.mem_of_getElem? (i := 0) rfl)))))) rfl dX5_readOne_56 ?_
          refine lv_iload_n hx hb dX5_readOne_59 rfl (lv_at hl 1 rfl) ?_
          refine kq_iast (i := (to + 1)) hx hb hK hP hD hS (isTo.l1 hto) (n := 6) (cE_16 (isTo.s1 hto)) (by decide) (Int.toNat (V7 to 7)) rfl (by omega) dX5_readOne_60 (fun H locs hP hD hS => ?_)
          obtain ⟨V9, hV9⟩ : ∃ z : Nat → Nat → Int, z = (mU V7 (to + 1) (Int.toNat (V7 to 7)) pl) := ⟨_, rfl⟩
          rw [← hV9] at hP hD
          have w5 : V9 to = V7 to := by rw [hV9, mU_or _ _ _ (by omega)]
          have r5 := hV9
          have d75 : V9 to 7 = V7 to 7 := by rw [w5]
          have d85 : V9 to 8 = V7 to 8 := by rw [w5]
          refine lv_aload_n hx hb dX5_readOne_61 rfl (lv_at hl 3 rfl) ?_
          refine kq_get (i := to) hx hb hts hin_X6 hown hK hP (isTo.l0 hto) (cE_15 (isTo.s0 hto)) rfl 1 (by decide) (hts (.fieldLink RX5 74 "WordFletchers$Told" "ear" "[I") (List.mem_cons_of_mem _ (List.mem_append_left _ (List.mem_append_left _ (List.mem_append_left _ (List.mem_of_getElem? (i := 2) rfl)))))) rfl dX5_readOne_62 ?_
          refine lv_aload_n hx hb dX5_readOne_65 rfl (lv_at hl 3 rfl) ?_
          refine kq_get (i := to) hx hb hts hin_X6 hown hK hP (isTo.l0 hto) (cE_15 (isTo.s0 hto)) rfl 7 (by decide) (hts (.fieldLink RX5 61 "WordFletchers$Told" "people" "I") (List.mem_cons_of_mem _ (List.mem_append_left _ (List.mem_append_left _ (List.mem_append_left _ (List.mem_of_getElem? (i := 0) rfl)))))) rfl dX5_readOne_66 ?_
          refine W.eq (g2 := F0 m 69 ls [.int (iZ (V9 to 7)), .ref (a (to + 2))]) rfl ?_
          refine lv_iload_n hx hb dX5_readOne_69 rfl (lv_at hl 0 rfl) ?_
          refine kq_iast (i := (to + 2)) hx hb hK hP hD hS (isTo.l2 hto) (n := 6) (cE_17 (isTo.s2 hto)) (by decide) (Int.toNat (V9 to 7)) rfl (by omega) dX5_readOne_70 (fun H locs hP hD hS => ?_)
          obtain ⟨V10, hV10⟩ : ∃ z : Nat → Nat → Int, z = (mU V9 (to + 2) (Int.toNat (V9 to 7)) er) := ⟨_, rfl⟩
          rw [← hV10] at hP hD
          have w6 : V10 to = V9 to := by rw [hV10, mU_or _ _ _ (by omega)]
          have r6 := hV10
          have d76 : V10 to 7 = V9 to 7 := by rw [w6]
          have d86 : V10 to 8 = V9 to 8 := by rw [w6]
          refine lv_aload_n hx hb dX5_readOne_71 rfl (lv_at hl 3 rfl) ?_
          refine lv_dup hx hb dX5_readOne_72 rfl ?_
          refine kq_get (i := to) hx hb hts hin_X6 hown hK hP (isTo.l0 hto) (cE_15 (isTo.s0 hto)) rfl 7 (by decide) (hts (.fieldLink RX5 61 "WordFletchers$Told" "people" "I") (List.mem_cons_of_mem _ (List.mem_append_left _ (List.mem_append_left _ (List.mem_append_left _ (List.mem_of_getElem? (i := 0) rfl)))))) rfl dX5_readOne_73 ?_
          refine lv_iconst (v := iZ 1) hx hb dX5_readOne_76 (by decide) ?_
          refine z_iadd hx hb dX5_readOne_77 ?_
          refine kq_put (ty := .int) (i := to) hx hb hts hin_X6 hown tyX6 tyX6_ok nmX6 hK hP hD hS (isTo.l0 hto) (cE_15 (isTo.s0 hto)) rfl 7 (by decide) (hts (.fieldLink RX5 61 "WordFletchers$Told" "people" "I") (List.mem_cons_of_mem _ (List.mem_append_left _ (List.mem_append_left _ (List.mem_append_left _ (List.mem_of_getElem? (i := 0) rfl)))))) rfl (by decide +kernel) rfl rfl (Nat.le_of_ble_eq_true rfl) rfl dX5_readOne_78 (fun H locs hP hD hS => ?_)
          obtain ⟨V11, hV11⟩ : ∃ z : Nat → Nat → Int, z = (mU V10 to 7 ((V10 to 7) + 1)) := ⟨_, rfl⟩
          rw [← hV11] at hP hD
          have r7 := hV11
          refine lv_iconst (v := iZ 1) hx hb dX5_readOne_81 (by decide) ?_
          exact kq_retM hx hb hK hP hS hr (z_nbool (by first | omega | (split <;> omega))) (by unfold r_one; first | exact (if_pos (by omega)).symm | exact (if_neg (by omega)).symm) (by unfold f_one; (first | (refine Eq.trans ?_ (if_pos (by omega)).symm; rfl) | (refine Eq.trans ?_ (if_neg (by omega)).symm; first | (refine Eq.trans ?_ (if_pos (by omega)).symm; exact q2) | (refine Eq.trans ?_ (if_neg (by omega)).symm; first | (refine Eq.trans ?_ (if_pos (by omega)).symm; exact q3) | (refine Eq.trans ?_ (if_neg (by omega)).symm; first | (refine Eq.trans ?_ (if_pos (by omega)).symm; exact q9) | (refine Eq.trans ?_ (if_neg (by omega)).symm; rw [← q9, ← q2e, ← q3e, r7, w6, r6, w5, r5]; rfl)))))) dX5_readOne_82 hlocks
        · refine lv_iconst (v := iZ 0) hx hb dX5_readOne_49 (by decide) ?_
          exact kq_retM hx hb hK hP hS hr (z_nbool (by first | omega | (split <;> omega))) (by unfold r_one; first | exact (if_pos (by omega)).symm | exact (if_neg (by omega)).symm) (by unfold f_one; (first | (refine Eq.trans ?_ (if_pos (by omega)).symm; rfl) | (refine Eq.trans ?_ (if_neg (by omega)).symm; first | (refine Eq.trans ?_ (if_pos (by omega)).symm; exact q2) | (refine Eq.trans ?_ (if_neg (by omega)).symm; first | (refine Eq.trans ?_ (if_pos (by omega)).symm; exact q3) | (refine Eq.trans ?_ (if_neg (by omega)).symm; first | (refine Eq.trans ?_ (if_pos (by omega)).symm; exact q9) | (refine Eq.trans ?_ (if_neg (by omega)).symm; rw [← q9, ← q2e, ← q3e, r7, w6, r6, w5, r5]; rfl)))))) dX5_readOne_50 hlocks
    · refine W.eq (g2 := F0 m 27 ls []) rfl ?_
      refine lv_iconst (v := iZ (-1)) hx hb dX5_readOne_27 (by decide) ?_
      refine lv_goto (tgt := 37) hx hb dX5_readOne_28 (by decide) ?_
      refine lv_istore_n (lv' := [(3, .int (iZ (-1))), (2, .int (iZ pl)), (0, .ref (a 2)), (1, .ref (a to))]) hx hb dX5_readOne_37 rfl hl (by decide) rfl (fun ls hl => ?_)
      refine lv_iload_n hx hb dX5_readOne_38 rfl (lv_at hl 0 rfl) ?_
      refine z_if_lt (x := (-1)) (tgt := 49) hx hb (by omega) dX5_readOne_39 (by decide) (fun c12 => ?_) (fun c12 => ?_)
      · refine lv_iconst (v := iZ 0) hx hb dX5_readOne_49 (by decide) ?_
        exact kq_retM hx hb hK hP hS hr (z_nbool (by first | omega | (split <;> omega))) (by unfold r_one; first | exact (if_pos (by omega)).symm | exact (if_neg (by omega)).symm) (by unfold f_one; (first | (refine Eq.trans ?_ (if_pos (by omega)).symm; rfl) | (refine Eq.trans ?_ (if_neg (by omega)).symm; first | (refine Eq.trans ?_ (if_pos (by omega)).symm; exact q2) | (refine Eq.trans ?_ (if_neg (by omega)).symm; first | (refine Eq.trans ?_ (if_pos (by omega)).symm; exact q3) | (refine Eq.trans ?_ (if_neg (by omega)).symm; first | (refine Eq.trans ?_ (if_pos (by omega)).symm; exact q9) | (refine Eq.trans ?_ (if_neg (by omega)).symm; rw [← q9, ← q2e, ← q3e, r7, w6, r6, w5, r5]; rfl)))))) dX5_readOne_50 hlocks
      · exact absurd c12 (by decide)
  · refine lv_iconst (v := iZ 0) hx hb dX5_readOne_9 (by decide) ?_
    exact kq_retM hx hb hK hP hS hr (z_nbool (by first | omega | (split <;> omega))) (by unfold r_one; first | exact (if_pos (by omega)).symm | exact (if_neg (by omega)).symm) (by unfold f_one; (first | (refine Eq.trans ?_ (if_pos (by omega)).symm; rfl) | (refine Eq.trans ?_ (if_neg (by omega)).symm; first | (refine Eq.trans ?_ (if_pos (by omega)).symm; exact q2) | (refine Eq.trans ?_ (if_neg (by omega)).symm; first | (refine Eq.trans ?_ (if_pos (by omega)).symm; exact q3) | (refine Eq.trans ?_ (if_neg (by omega)).symm; first | (refine Eq.trans ?_ (if_pos (by omega)).symm; exact q9) | (refine Eq.trans ?_ (if_neg (by omega)).symm; rw [← q9, ← q2e, ← q3e, r7, w6, r6, w5, r5]; rfl)))))) dX5_readOne_10 hlocks
set_option maxHeartbeats 4000000 in
set_option maxRecDepth 100000 in
theorem K_X5_readSaying (l : Launch) (D : va_G) (C : cC) (a b : Nat → Nat) (V : Nat → Nat → Int) (to : Nat) (hto : isTo to) (hR : rdI V) (hd : dtI V to) (hDD : va_D (fun _ => True) (cW C a V)) : Met l yX5_readSaying wsX5_readSaying ({ frames := 4, cells := 0, slots := 0, locals := 88 }) (va_Pc [.ref (a 2), .ref (a to)] (cOk D C a b V)) (va_Qi (fun r (_ : Unit) => r = iZ (r_say V to)) (fun _ t => cPo D C a (f_say V to) t) (cA a)) 0 0 (cA a) := by
  refine Met.ofW (cc := cX5_readSaying) (maxL := 5) (ret := (some .boolean)) (by decide) rfl ?_
  intro p e s m args below meth c s₁ B hml hv
  obtain ⟨rfl, hP, hK, hN⟩ := hv
  have hx := B.exec
  have hb := B.bytes
  have hr := B.returns
  have hts := atoms_spec (ws := wsX5_readSaying) B.pre
  have hown : s.vm.findClass RX5 = some m.cls := findClass_of_methodNamed B.named
  have hlocks := B.notSynchronized
  have hin_X6 : ∀ w ∈ wsX60, w ∈ wsX5_readSaying := fun _ w_h => (List.mem_cons_of_mem _ (List.mem_append_left _ (List.mem_append_right _ w_h)))
  have hin_X5 : ∀ w ∈ wsX50, w ∈ wsX5_readSaying := fun _ w_h => (List.mem_cons_of_mem _ (List.mem_append_right _ w_h))
  have hl := lv_entry ([.ref (a 2), .ref (a to)]) (n := 5) (Nat.le_of_ble_eq_true rfl)
  rw [lg_entry_eq]
  generalize (lg_sl ([.ref (a 2), .ref (a to)]) ++ List.replicate (5 - (lg_sl ([.ref (a 2), .ref (a to)])).length) Slot.unset).toArray = ls at hl ⊢
  replace hl : lv_has ls 5 [(0, .ref (a 2)), (1, .ref (a to))] := hl
  have hD : va_D (cA a) (cW C a V) := cD_own hDD
  generalize hHe : s.heap = H at hP ⊢
  have hS : va_S (cA a) s.heap H [] := by rw [hHe]; exact va_S.rf
  generalize hlo : ([] : List Loc) = locs at hS ⊢
  clear hHe hlo
  obtain ⟨⟨r1, r2, r3, r4, r6⟩, r5⟩ := id hR
  have hH : rdH V := hR.1.h
  obtain ⟨d7, d8, d9⟩ := id hd
  have hto9 := hto
  unfold isTo at hto9
  refine lv_aload_n hx hb dX5_readSaying_0 rfl (lv_at hl 1 rfl) ?_
  refine kq_get (i := to) hx hb hts hin_X6 hown hK hP (isTo.l0 hto) (cE_15 (isTo.s0 hto)) rfl 8 (by decide) (hts (.fieldLink RX5 77 "WordFletchers$Told" "sayings" "I") (List.mem_cons_of_mem _ (List.mem_append_left _ (List.mem_append_left _ (List.mem_append_left _ (List.mem_of_getElem? (i := 0) rfl)))))) rfl dX5_readSaying_1 ?_
  refine lv_bipush (v := iZ 6) hx hb dX5_readSaying_4 (by decide) ?_
  refine W.eq (g2 := F0 m 6 ls [.int (iZ 6), .int (iZ (V to 8))]) rfl ?_
  refine z_icmp_lt (x := (V to 8)) (y := 6) (tgt := 11) hx hb (by omega) (by omega) dX5_readSaying_6 (by decide) (fun c1 => ?_) (fun c1 => ?_)
  · refine lv_aload_n hx hb dX5_readSaying_11 rfl (lv_at hl 0 rfl) ?_
    refine kq_cv (i := 2) (As := []) (rest := []) ⟨hx, hb, hml, hown, hts⟩ hK hP hN hD hS (by decide) (cE_2 rfl) rfl (K_X5_step l D C a b V  (by assumption) (hD.weaken (fun _ _ _ _ => trivial))) (cwV 0 hts gX5_readSaying_X5_step rfl rfl rfl (by decide +kernel) ⟨Nat.le_of_ble_eq_true rfl, Nat.le_of_ble_eq_true rfl⟩) rfl rfl hl.1 (Nat.le_of_ble_eq_true rfl) ⟨Nat.le_of_ble_eq_true rfl, Nat.le_of_ble_eq_true rfl⟩ dX5_readSaying_12 (fun H locs hP hD hS => ?_)
    obtain ⟨V2, hV2⟩ : ∃ z : Nat → Nat → Int, z = (f_kst V) := ⟨_, rfl⟩
    rw [← hV2] at hP hD
    have q1 : V2 = f_kst V := hV2
    have hR_V2 : rdI V2 := by rw [hV2]; exact rdI_kst hR.1.h
    refine lv_aload_n hx hb dX5_readSaying_15 rfl (lv_at hl 0 rfl) ?_
    refine lv_iconst (v := iZ 1) hx hb dX5_readSaying_16 (by decide) ?_
    refine lv_bipush (v := iZ 9) hx hb dX5_readSaying_17 (by decide) ?_
    refine kq_cm (i := 2) (As := [.int (iZ 1), .int (iZ 9)]) (rest := []) ⟨hx, hb, hml, hown, hts⟩ hK hP hN hD hS (by decide) (cE_2 rfl) rfl (K_X5_takeNumber l D C a b V2 1 9 (by assumption) (by omega) (by omega) (hD.weaken (fun _ _ _ _ => trivial))) (cwV 2 hts gX5_readSaying_X5_takeNumber rfl rfl rfl (by decide +kernel) ⟨Nat.le_of_ble_eq_true rfl, Nat.le_of_ble_eq_true rfl⟩) rfl rfl hl.1 (Nat.le_of_ble_eq_true rfl) ⟨Nat.le_of_ble_eq_true rfl, Nat.le_of_ble_eq_true rfl⟩ dX5_readSaying_19 (fun H locs hP hD hS => ?_)
    obtain ⟨V3, hV3⟩ : ∃ z : Nat → Nat → Int, z = (f_knum V2 1 9) := ⟨_, rfl⟩
    rw [← hV3] at hP hD
    have q2 : V3 = f_y2 V := by rw [hV3, q1]; rfl
    have hR_V3 : rdI V3 := by rw [hV3]; exact rdI_knum hR_V2 _ _
    refine z_nm (fun we hwe => ?_)
    have q2e : we = y_we V := by rw [hwe, q1]; rfl
    have q2b : we = -1 ∨ (1 ≤ we ∧ we ≤ 9) := by rw [hwe]; exact k_num_bd 1 9 (by decide)
    refine lv_istore_n (lv' := [(2, .int (iZ we)), (0, .ref (a 2)), (1, .ref (a to))]) hx hb dX5_readSaying_22 rfl hl (by decide) rfl (fun ls hl => ?_)
    refine lv_iload_n hx hb dX5_readSaying_23 rfl (lv_at hl 0 rfl) ?_
    refine z_if_ge (x := we) (tgt := 31) hx hb (by omega) dX5_readSaying_24 (by decide) (fun c4 => ?_) (fun c4 => ?_)
    · refine lv_aload_n hx hb dX5_readSaying_31 rfl (lv_at hl 1 rfl) ?_
      refine lv_iconst (v := iZ 0) hx hb dX5_readSaying_32 (by decide) ?_
      refine W.eq (g2 := F0 m 33 ls [.int (iZ 0), .ref (a 2)]) rfl ?_
      refine lv_iconst (v := iZ 3) hx hb dX5_readSaying_33 (by decide) ?_
      refine kq_cm (i := 2) (As := [.int (iZ 0), .int (iZ 3)]) (rest := []) ⟨hx, hb, hml, hown, hts⟩ hK hP hN hD hS (by decide) (cE_2 rfl) rfl (K_X5_takeNumber l D C a b V3 0 3 (by assumption) (by omega) (by omega) (hD.weaken (fun _ _ _ _ => trivial))) (cwV 2 hts gX5_readSaying_X5_takeNumber rfl rfl rfl (by decide +kernel) ⟨Nat.le_of_ble_eq_true rfl, Nat.le_of_ble_eq_true rfl⟩) rfl rfl hl.1 (Nat.le_of_ble_eq_true rfl) ⟨Nat.le_of_ble_eq_true rfl, Nat.le_of_ble_eq_true rfl⟩ dX5_readSaying_34 (fun H locs hP hD hS => ?_)
      obtain ⟨V5, hV5⟩ : ∃ z : Nat → Nat → Int, z = (f_knum V3 0 3) := ⟨_, rfl⟩
      rw [← hV5] at hP hD
      have q3 : V5 = f_y3 V := by rw [hV5, q2]; rfl
      have hR_V5 : rdI V5 := by rw [hV5]; exact rdI_knum hR_V3 _ _
      have e3t : V5 to = V to := by rw [q3]; exact f_y3_o V hto.n2
      have d73 : V5 to 7 = V to 7 := by rw [e3t]
      refine z_nm (fun tw htw => ?_)
      have q3e : tw = y_tw V := by rw [htw, q2]; rfl
      have q3b : tw = -1 ∨ (0 ≤ tw ∧ tw ≤ 3) := by rw [htw]; exact k_num_bd 0 3 (by decide)
      refine lv_istore_n (lv' := [(3, .int (iZ tw)), (2, .int (iZ we)), (0, .ref (a 2)), (1, .ref (a to))]) hx hb dX5_readSaying_37 rfl hl (by decide) rfl (fun ls hl => ?_)
      refine lv_iload_n hx hb dX5_readSaying_38 rfl (lv_at hl 0 rfl) ?_
      refine z_if_ge (x := tw) (tgt := 46) hx hb (by omega) dX5_readSaying_39 (by decide) (fun c6 => ?_) (fun c6 => ?_)
      · refine lv_aload_n hx hb dX5_readSaying_46 rfl (lv_at hl 2 rfl) ?_
        refine lv_iconst (v := iZ 0) hx hb dX5_readSaying_47 (by decide) ?_
        refine lv_aload_n hx hb dX5_readSaying_48 rfl (lv_at hl 3 rfl) ?_
        refine kq_get (i := to) hx hb hts hin_X6 hown hK hP (isTo.l0 hto) (cE_15 (isTo.s0 hto)) rfl 7 (by decide) (hts (.fieldLink RX5 61 "WordFletchers$Told" "people" "I") (List.mem_cons_of_mem _ (List.mem_append_left _ (List.mem_append_left _ (List.mem_append_left _ (List.mem_of_getElem? (i := 1) rfl)))))) rfl dX5_readSaying_49 ?_
        refine lv_iconst (v := iZ 1) hx hb dX5_readSaying_52 (by decide) ?_
        refine z_isub hx hb dX5_readSaying_53 ?_
        refine kq_cm (i := 2) (As := [.int (iZ 0), .int (iZ ((V5 to 7) - 1))]) (rest := []) ⟨hx, hb, hml, hown, hts⟩ hK hP hN hD hS (by decide) (cE_2 rfl) rfl (K_X5_takeNumber l D C a b V5 0 ((V5 to 7) - 1) (by assumption) (by omega) (by omega) (hD.weaken (fun _ _ _ _ => trivial))) (cwV 2 hts gX5_readSaying_X5_takeNumber rfl rfl rfl (by decide +kernel) ⟨Nat.le_of_ble_eq_true rfl, Nat.le_of_ble_eq_true rfl⟩) rfl rfl hl.1 (Nat.le_of_ble_eq_true rfl) ⟨Nat.le_of_ble_eq_true rfl, Nat.le_of_ble_eq_true rfl⟩ dX5_readSaying_54 (fun H locs hP hD hS => ?_)
        obtain ⟨V7, hV7⟩ : ∃ z : Nat → Nat → Int, z = (f_knum V5 0 ((V5 to 7) - 1)) := ⟨_, rfl⟩
        rw [← hV7] at hP hD
        have q4 : V7 = f_y4 V to := by rw [hV7, q3, f_y3_o V hto.n2]; rfl
        have hR_V7 : rdI V7 := by rw [hV7]; exact rdI_knum hR_V5 _ _
        refine z_nm (fun fi hfi => ?_)
        have q4e : fi = y_fi V to := by rw [hfi, q3, f_y3_o V hto.n2]; rfl
        have q4b : fi = -1 ∨ (0 ≤ fi ∧ fi ≤ V to 7 - 1) := by rw [q4e]; exact k_num_bd 0 _ (by decide)
        refine W.eq (g2 := F0 m 57 ls [.int (iZ fi)]) rfl ?_
        refine lv_istore (lv' := [(4, .int (iZ fi)), (3, .int (iZ tw)), (2, .int (iZ we)), (0, .ref (a 2)), (1, .ref (a to))]) hx hb dX5_readSaying_57 hl (by decide) rfl (fun ls hl => ?_)
        refine lv_iload hx hb dX5_readSaying_59 (lv_at hl 0 rfl) ?_
        refine z_if_lt (x := fi) (tgt := 71) hx hb (by omega) dX5_readSaying_61 (by decide) (fun c8 => ?_) (fun c8 => ?_)
        · refine lv_iconst (v := iZ 0) hx hb dX5_readSaying_71 (by decide) ?_
          exact kq_retM hx hb hK hP hS hr (z_nbool (by first | omega | (split <;> omega))) (by unfold r_say; first | exact (if_pos (by omega)).symm | exact (if_neg (by omega)).symm) (by unfold f_say; (first | (refine Eq.trans ?_ (if_pos (by omega)).symm; rfl) | (refine Eq.trans ?_ (if_neg (by omega)).symm; first | (refine Eq.trans ?_ (if_pos (by omega)).symm; exact q2) | (refine Eq.trans ?_ (if_neg (by omega)).symm; first | (refine Eq.trans ?_ (if_pos (by omega)).symm; exact q3) | (refine Eq.trans ?_ (if_neg (by omega)).symm; first | (refine Eq.trans ?_ (if_pos (by omega)).symm; exact q4) | (refine Eq.trans ?_ (if_neg (by omega)).symm; first | (refine Eq.trans ?_ (if_pos (by omega)).symm; exact q9) | (refine Eq.trans ?_ (if_neg (by omega)).symm; rw [← q9, ← q2e, ← q3e, ← q4e, r8, w7, r7, w6, r6, w5, r5]; rfl))))))) dX5_readSaying_72 hlocks
        · refine lv_aload_n hx hb dX5_readSaying_64 rfl (lv_at hl 3 rfl) ?_
          refine kq_cm (i := 2) (As := []) (rest := []) ⟨hx, hb, hml, hown, hts⟩ hK hP hN hD hS (by decide) (cE_2 rfl) rfl (K_X5_takeSemicolon l D C a b V7  (by assumption) (hD.weaken (fun _ _ _ _ => trivial))) (cwV 0 hts gX5_readSaying_X5_takeSemicolon rfl rfl rfl (by decide +kernel) ⟨Nat.le_of_ble_eq_true rfl, Nat.le_of_ble_eq_true rfl⟩) rfl rfl hl.1 (Nat.le_of_ble_eq_true rfl) ⟨Nat.le_of_ble_eq_true rfl, Nat.le_of_ble_eq_true rfl⟩ dX5_readSaying_65 (fun H locs hP hD hS => ?_)
          obtain ⟨V9, hV9⟩ : ∃ z : Nat → Nat → Int, z = (f_ksem V7) := ⟨_, rfl⟩
          rw [← hV9] at hP hD
          have q9 : V9 = f_ksem (f_y4 V to) := by rw [hV9, q4]
          have eto : V9 to = V to := by rw [q9, f_ksem_o _ to hto.n2, f_y4_o V to hto.n2]
          have q9s : V7 2 3 = f_y4 V to 2 3 := by rw [q4]
          have d7m : V9 to 7 = V to 7 := by rw [eto]
          have d8m : V9 to 8 = V to 8 := by rw [eto]
          refine z_ifb_ne (P := V7 2 3 = 3) (tgt := 73) hx hb dX5_readSaying_68 (by decide) (fun c10 => ?_) (fun c10 => ?_)
          · refine lv_aload_n hx hb dX5_readSaying_73 rfl (lv_at hl 4 rfl) ?_
            refine kq_get (i := to) hx hb hts hin_X6 hown hK hP (isTo.l0 hto) (cE_15 (isTo.s0 hto)) rfl 2 (by decide) (hts (.fieldLink RX5 80 "WordFletchers$Told" "weight" "[I") (List.mem_cons_of_mem _ (List.mem_append_left _ (List.mem_append_left _ (List.mem_append_left _ (List.mem_of_getElem? (i := 2) rfl)))))) rfl dX5_readSaying_74 ?_
            refine lv_aload_n hx hb dX5_readSaying_77 rfl (lv_at hl 4 rfl) ?_
            refine kq_get (i := to) hx hb hts hin_X6 hown hK hP (isTo.l0 hto) (cE_15 (isTo.s0 hto)) rfl 8 (by decide) (hts (.fieldLink RX5 77 "WordFletchers$Told" "sayings" "I") (List.mem_cons_of_mem _ (List.mem_append_left _ (List.mem_append_left _ (List.mem_append_left _ (List.mem_of_getElem? (i := 0) rfl)))))) rfl dX5_readSaying_78 ?_
            refine W.eq (g2 := F0 m 81 ls [.int (iZ (V9 to 8)), .ref (a (to + 3))]) rfl ?_
            refine lv_iload_n hx hb dX5_readSaying_81 rfl (lv_at hl 2 rfl) ?_
            refine kq_iast (i := (to + 3)) hx hb hK hP hD hS (isTo.l3 hto) (n := 6) (cE_18 (isTo.s3 hto)) (by decide) (Int.toNat (V9 to 8)) rfl (by omega) dX5_readSaying_82 (fun H locs hP hD hS => ?_)
            obtain ⟨V11, hV11⟩ : ∃ z : Nat → Nat → Int, z = (mU V9 (to + 3) (Int.toNat (V9 to 8)) we) := ⟨_, rfl⟩
            rw [← hV11] at hP hD
            have w5 : V11 to = V9 to := by rw [hV11, mU_or _ _ _ (by omega)]
            have r5 := hV11
            have d75 : V11 to 7 = V9 to 7 := by rw [w5]
            have d85 : V11 to 8 = V9 to 8 := by rw [w5]
            refine lv_aload_n hx hb dX5_readSaying_83 rfl (lv_at hl 4 rfl) ?_
            refine kq_get (i := to) hx hb hts hin_X6 hown hK hP (isTo.l0 hto) (cE_15 (isTo.s0 hto)) rfl 3 (by decide) (hts (.fieldLink RX5 83 "WordFletchers$Told" "twist" "[I") (List.mem_cons_of_mem _ (List.mem_append_left _ (List.mem_append_left _ (List.mem_append_left _ (List.mem_of_getElem? (i := 3) rfl)))))) rfl dX5_readSaying_84 ?_
            refine lv_aload_n hx hb dX5_readSaying_87 rfl (lv_at hl 4 rfl) ?_
            refine kq_get (i := to) hx hb hts hin_X6 hown hK hP (isTo.l0 hto) (cE_15 (isTo.s0 hto)) rfl 8 (by decide) (hts (.fieldLink RX5 77 "WordFletchers$Told" "sayings" "I") (List.mem_cons_of_mem _ (List.mem_append_left _ (List.mem_append_left _ (List.mem_append_left _ (List.mem_of_getElem? (i := 0) rfl)))))) rfl dX5_readSaying_88 ?_
            refine lv_iload_n hx hb dX5_readSaying_91 rfl (lv_at hl 1 rfl) ?_
            refine kq_iast (i := (to + 4)) hx hb hK hP hD hS (isTo.l4 hto) (n := 6) (cE_19 (isTo.s4 hto)) (by decide) (Int.toNat (V11 to 8)) rfl (by omega) dX5_readSaying_92 (fun H locs hP hD hS => ?_)
            obtain ⟨V12, hV12⟩ : ∃ z : Nat → Nat → Int, z = (mU V11 (to + 4) (Int.toNat (V11 to 8)) tw) := ⟨_, rfl⟩
            rw [← hV12] at hP hD
            have w6 : V12 to = V11 to := by rw [hV12, mU_or _ _ _ (by omega)]
            have r6 := hV12
            have d76 : V12 to 7 = V11 to 7 := by rw [w6]
            have d86 : V12 to 8 = V11 to 8 := by rw [w6]
            refine lv_aload_n hx hb dX5_readSaying_93 rfl (lv_at hl 4 rfl) ?_
            refine kq_get (i := to) hx hb hts hin_X6 hown hK hP (isTo.l0 hto) (cE_15 (isTo.s0 hto)) rfl 4 (by decide) (hts (.fieldLink RX5 86 "WordFletchers$Told" "first" "[I") (List.mem_cons_of_mem _ (List.mem_append_left _ (List.mem_append_left _ (List.mem_append_left _ (List.mem_of_getElem? (i := 4) rfl)))))) rfl dX5_readSaying_94 ?_
            refine lv_aload_n hx hb dX5_readSaying_97 rfl (lv_at hl 4 rfl) ?_
            refine kq_get (i := to) hx hb hts hin_X6 hown hK hP (isTo.l0 hto) (cE_15 (isTo.s0 hto)) rfl 8 (by decide) (hts (.fieldLink RX5 77 "WordFletchers$Told" "sayings" "I") (List.mem_cons_of_mem _ (List.mem_append_left _ (List.mem_append_left _ (List.mem_append_left _ (List.mem_of_getElem? (i := 0) rfl)))))) rfl dX5_readSaying_98 ?_
            refine W.eq (g2 := F0 m 101 ls [.int (iZ (V12 to 8)), .ref (a (to + 5))]) rfl ?_
            refine lv_iload hx hb dX5_readSaying_101 (lv_at hl 0 rfl) ?_
            refine kq_iast (i := (to + 5)) hx hb hK hP hD hS (isTo.l5 hto) (n := 6) (cE_20 (isTo.s5 hto)) (by decide) (Int.toNat (V12 to 8)) rfl (by omega) dX5_readSaying_103 (fun H locs hP hD hS => ?_)
            obtain ⟨V13, hV13⟩ : ∃ z : Nat → Nat → Int, z = (mU V12 (to + 5) (Int.toNat (V12 to 8)) fi) := ⟨_, rfl⟩
            rw [← hV13] at hP hD
            have w7 : V13 to = V12 to := by rw [hV13, mU_or _ _ _ (by omega)]
            have r7 := hV13
            have d77 : V13 to 7 = V12 to 7 := by rw [w7]
            have d87 : V13 to 8 = V12 to 8 := by rw [w7]
            refine lv_aload_n hx hb dX5_readSaying_104 rfl (lv_at hl 4 rfl) ?_
            refine lv_dup hx hb dX5_readSaying_105 rfl ?_
            refine kq_get (i := to) hx hb hts hin_X6 hown hK hP (isTo.l0 hto) (cE_15 (isTo.s0 hto)) rfl 8 (by decide) (hts (.fieldLink RX5 77 "WordFletchers$Told" "sayings" "I") (List.mem_cons_of_mem _ (List.mem_append_left _ (List.mem_append_left _ (List.mem_append_left _ (List.mem_of_getElem? (i := 0) rfl)))))) rfl dX5_readSaying_106 ?_
            refine lv_iconst (v := iZ 1) hx hb dX5_readSaying_109 (by decide) ?_
            refine z_iadd hx hb dX5_readSaying_110 ?_
            refine kq_put (ty := .int) (i := to) hx hb hts hin_X6 hown tyX6 tyX6_ok nmX6 hK hP hD hS (isTo.l0 hto) (cE_15 (isTo.s0 hto)) rfl 8 (by decide) (hts (.fieldLink RX5 77 "WordFletchers$Told" "sayings" "I") (List.mem_cons_of_mem _ (List.mem_append_left _ (List.mem_append_left _ (List.mem_append_left _ (List.mem_of_getElem? (i := 0) rfl)))))) rfl (by decide +kernel) rfl rfl (Nat.le_of_ble_eq_true rfl) rfl dX5_readSaying_111 (fun H locs hP hD hS => ?_)
            obtain ⟨V14, hV14⟩ : ∃ z : Nat → Nat → Int, z = (mU V13 to 8 ((V13 to 8) + 1)) := ⟨_, rfl⟩
            rw [← hV14] at hP hD
            have r8 := hV14
            refine lv_iconst (v := iZ 1) hx hb dX5_readSaying_114 (by decide) ?_
            exact kq_retM hx hb hK hP hS hr (z_nbool (by first | omega | (split <;> omega))) (by unfold r_say; first | exact (if_pos (by omega)).symm | exact (if_neg (by omega)).symm) (by unfold f_say; (first | (refine Eq.trans ?_ (if_pos (by omega)).symm; rfl) | (refine Eq.trans ?_ (if_neg (by omega)).symm; first | (refine Eq.trans ?_ (if_pos (by omega)).symm; exact q2) | (refine Eq.trans ?_ (if_neg (by omega)).symm; first | (refine Eq.trans ?_ (if_pos (by omega)).symm; exact q3) | (refine Eq.trans ?_ (if_neg (by omega)).symm; first | (refine Eq.trans ?_ (if_pos (by omega)).symm; exact q4) | (refine Eq.trans ?_ (if_neg (by omega)).symm; first | (refine Eq.trans ?_ (if_pos (by omega)).symm; exact q9) | (refine Eq.trans ?_ (if_neg (by omega)).symm; rw [← q9, ← q2e, ← q3e, ← q4e, r8, w7, r7, w6, r6, w5, r5]; rfl))))))) dX5_readSaying_115 hlocks
          · refine lv_iconst (v := iZ 0) hx hb dX5_readSaying_71 (by decide) ?_
            exact kq_retM hx hb hK hP hS hr (z_nbool (by first | omega | (split <;> omega))) (by unfold r_say; first | exact (if_pos (by omega)).symm | exact (if_neg (by omega)).symm) (by unfold f_say; (first | (refine Eq.trans ?_ (if_pos (by omega)).symm; rfl) | (refine Eq.trans ?_ (if_neg (by omega)).symm; first | (refine Eq.trans ?_ (if_pos (by omega)).symm; exact q2) | (refine Eq.trans ?_ (if_neg (by omega)).symm; first | (refine Eq.trans ?_ (if_pos (by omega)).symm; exact q3) | (refine Eq.trans ?_ (if_neg (by omega)).symm; first | (refine Eq.trans ?_ (if_pos (by omega)).symm; exact q4) | (refine Eq.trans ?_ (if_neg (by omega)).symm; first | (refine Eq.trans ?_ (if_pos (by omega)).symm; exact q9) | (refine Eq.trans ?_ (if_neg (by omega)).symm; rw [← q9, ← q2e, ← q3e, ← q4e, r8, w7, r7, w6, r6, w5, r5]; rfl))))))) dX5_readSaying_72 hlocks
      · refine W.eq (g2 := F0 m 42 ls []) rfl ?_
        refine lv_iconst (v := iZ (-1)) hx hb dX5_readSaying_42 (by decide) ?_
        refine lv_goto (tgt := 57) hx hb dX5_readSaying_43 (by decide) ?_
        refine lv_istore (lv' := [(4, .int (iZ (-1))), (3, .int (iZ tw)), (2, .int (iZ we)), (0, .ref (a 2)), (1, .ref (a to))]) hx hb dX5_readSaying_57 hl (by decide) rfl (fun ls hl => ?_)
        refine lv_iload hx hb dX5_readSaying_59 (lv_at hl 0 rfl) ?_
        refine z_if_lt (x := (-1)) (tgt := 71) hx hb (by omega) dX5_readSaying_61 (by decide) (fun c15 => ?_) (fun c15 => ?_)
        · refine lv_iconst (v := iZ 0) hx hb dX5_readSaying_71 (by decide) ?_
          exact kq_retM hx hb hK hP hS hr (z_nbool (by first | omega | (split <;> omega))) (by unfold r_say; first | exact (if_pos (by omega)).symm | exact (if_neg (by omega)).symm) (by unfold f_say; (first | (refine Eq.trans ?_ (if_pos (by omega)).symm; rfl) | (refine Eq.trans ?_ (if_neg (by omega)).symm; first | (refine Eq.trans ?_ (if_pos (by omega)).symm; exact q2) | (refine Eq.trans ?_ (if_neg (by omega)).symm; first | (refine Eq.trans ?_ (if_pos (by omega)).symm; exact q3) | (refine Eq.trans ?_ (if_neg (by omega)).symm; first | (refine Eq.trans ?_ (if_pos (by omega)).symm; exact q4) | (refine Eq.trans ?_ (if_neg (by omega)).symm; first | (refine Eq.trans ?_ (if_pos (by omega)).symm; exact q9) | (refine Eq.trans ?_ (if_neg (by omega)).symm; rw [← q9, ← q2e, ← q3e, ← q4e, r8, w7, r7, w6, r6, w5, r5]; rfl))))))) dX5_readSaying_72 hlocks
        · exact absurd c15 (by decide)
    · refine lv_iconst (v := iZ (-1)) hx hb dX5_readSaying_27 (by decide) ?_
      refine lv_goto (tgt := 37) hx hb dX5_readSaying_28 (by decide) ?_
      refine lv_istore_n (lv' := [(3, .int (iZ (-1))), (2, .int (iZ we)), (0, .ref (a 2)), (1, .ref (a to))]) hx hb dX5_readSaying_37 rfl hl (by decide) rfl (fun ls hl => ?_)
      refine lv_iload_n hx hb dX5_readSaying_38 rfl (lv_at hl 0 rfl) ?_
      refine z_if_ge (x := (-1)) (tgt := 46) hx hb (by omega) dX5_readSaying_39 (by decide) (fun c16 => ?_) (fun c16 => ?_)
      · exact absurd c16 (by decide)
      · refine W.eq (g2 := F0 m 42 ls []) rfl ?_
        refine lv_iconst (v := iZ (-1)) hx hb dX5_readSaying_42 (by decide) ?_
        refine lv_goto (tgt := 57) hx hb dX5_readSaying_43 (by decide) ?_
        refine lv_istore (lv' := [(4, .int (iZ (-1))), (3, .int (iZ (-1))), (2, .int (iZ we)), (0, .ref (a 2)), (1, .ref (a to))]) hx hb dX5_readSaying_57 hl (by decide) rfl (fun ls hl => ?_)
        refine lv_iload hx hb dX5_readSaying_59 (lv_at hl 0 rfl) ?_
        refine z_if_lt (x := (-1)) (tgt := 71) hx hb (by omega) dX5_readSaying_61 (by decide) (fun c17 => ?_) (fun c17 => ?_)
        · refine lv_iconst (v := iZ 0) hx hb dX5_readSaying_71 (by decide) ?_
          exact kq_retM hx hb hK hP hS hr (z_nbool (by first | omega | (split <;> omega))) (by unfold r_say; first | exact (if_pos (by omega)).symm | exact (if_neg (by omega)).symm) (by unfold f_say; (first | (refine Eq.trans ?_ (if_pos (by omega)).symm; rfl) | (refine Eq.trans ?_ (if_neg (by omega)).symm; first | (refine Eq.trans ?_ (if_pos (by omega)).symm; exact q2) | (refine Eq.trans ?_ (if_neg (by omega)).symm; first | (refine Eq.trans ?_ (if_pos (by omega)).symm; exact q3) | (refine Eq.trans ?_ (if_neg (by omega)).symm; first | (refine Eq.trans ?_ (if_pos (by omega)).symm; exact q4) | (refine Eq.trans ?_ (if_neg (by omega)).symm; first | (refine Eq.trans ?_ (if_pos (by omega)).symm; exact q9) | (refine Eq.trans ?_ (if_neg (by omega)).symm; rw [← q9, ← q2e, ← q3e, ← q4e, r8, w7, r7, w6, r6, w5, r5]; rfl))))))) dX5_readSaying_72 hlocks
        · exact absurd c17 (by decide)
  · refine lv_iconst (v := iZ 0) hx hb dX5_readSaying_9 (by decide) ?_
    exact kq_retM hx hb hK hP hS hr (z_nbool (by first | omega | (split <;> omega))) (by unfold r_say; first | exact (if_pos (by omega)).symm | exact (if_neg (by omega)).symm) (by unfold f_say; (first | (refine Eq.trans ?_ (if_pos (by omega)).symm; rfl) | (refine Eq.trans ?_ (if_neg (by omega)).symm; first | (refine Eq.trans ?_ (if_pos (by omega)).symm; exact q2) | (refine Eq.trans ?_ (if_neg (by omega)).symm; first | (refine Eq.trans ?_ (if_pos (by omega)).symm; exact q3) | (refine Eq.trans ?_ (if_neg (by omega)).symm; first | (refine Eq.trans ?_ (if_pos (by omega)).symm; exact q4) | (refine Eq.trans ?_ (if_neg (by omega)).symm; first | (refine Eq.trans ?_ (if_pos (by omega)).symm; exact q9) | (refine Eq.trans ?_ (if_neg (by omega)).symm; rw [← q9, ← q2e, ← q3e, ← q4e, r8, w7, r7, w6, r6, w5, r5]; rfl))))))) dX5_readSaying_10 hlocks
set_option maxHeartbeats 4000000 in
set_option maxRecDepth 100000 in
theorem K_X5_readFeathers (l : Launch) (D : va_G) (C : cC) (a b : Nat → Nat) (V : Nat → Nat → Int) (to : Nat) (hto : isTo to) (hR : rdI V) (hd : dtI V to) (hDD : va_D (fun _ => True) (cW C a V)) : Met l yX5_readFeathers wsX5_readFeathers ({ frames := 4, cells := 0, slots := 0, locals := 88 }) (va_Pc [.ref (a 2), .ref (a to)] (cOk D C a b V)) (va_Qi (fun r (_ : Unit) => r = iZ (r_fea V)) (fun _ t => cPo D C a (f_fea V to) t) (cA a)) 0 0 (cA a) := by
  refine Met.ofW (cc := cX5_readFeathers) (maxL := 4) (ret := (some .boolean)) (by decide) rfl ?_
  intro p e s m args below meth c s₁ B hml hv
  obtain ⟨rfl, hP, hK, hN⟩ := hv
  have hx := B.exec
  have hb := B.bytes
  have hr := B.returns
  have hts := atoms_spec (ws := wsX5_readFeathers) B.pre
  have hown : s.vm.findClass RX5 = some m.cls := findClass_of_methodNamed B.named
  have hlocks := B.notSynchronized
  have hin_X6 : ∀ w ∈ wsX60, w ∈ wsX5_readFeathers := fun _ w_h => (List.mem_cons_of_mem _ (List.mem_append_left _ (List.mem_append_right _ w_h)))
  have hin_X5 : ∀ w ∈ wsX50, w ∈ wsX5_readFeathers := fun _ w_h => (List.mem_cons_of_mem _ (List.mem_append_right _ w_h))
  have hl := lv_entry ([.ref (a 2), .ref (a to)]) (n := 4) (Nat.le_of_ble_eq_true rfl)
  rw [lg_entry_eq]
  generalize (lg_sl ([.ref (a 2), .ref (a to)]) ++ List.replicate (4 - (lg_sl ([.ref (a 2), .ref (a to)])).length) Slot.unset).toArray = ls at hl ⊢
  replace hl : lv_has ls 4 [(0, .ref (a 2)), (1, .ref (a to))] := hl
  have hD : va_D (cA a) (cW C a V) := cD_own hDD
  generalize hHe : s.heap = H at hP ⊢
  have hS : va_S (cA a) s.heap H [] := by rw [hHe]; exact va_S.rf
  generalize hlo : ([] : List Loc) = locs at hS ⊢
  clear hHe hlo
  obtain ⟨⟨r1, r2, r3, r4, r6⟩, r5⟩ := id hR
  have hH : rdH V := hR.1.h
  obtain ⟨d7, d8, d9⟩ := id hd
  have hto9 := hto
  unfold isTo at hto9
  refine lv_aload_n hx hb dX5_readFeathers_0 rfl (lv_at hl 0 rfl) ?_
  refine kq_cv (i := 2) (As := []) (rest := []) ⟨hx, hb, hml, hown, hts⟩ hK hP hN hD hS (by decide) (cE_2 rfl) rfl (K_X5_step l D C a b V  (by assumption) (hD.weaken (fun _ _ _ _ => trivial))) (cwV 0 hts gX5_readFeathers_X5_step rfl rfl rfl (by decide +kernel) ⟨Nat.le_of_ble_eq_true rfl, Nat.le_of_ble_eq_true rfl⟩) rfl rfl hl.1 (Nat.le_of_ble_eq_true rfl) ⟨Nat.le_of_ble_eq_true rfl, Nat.le_of_ble_eq_true rfl⟩ dX5_readFeathers_1 (fun H locs hP hD hS => ?_)
  obtain ⟨V1, hV1⟩ : ∃ z : Nat → Nat → Int, z = (f_kst V) := ⟨_, rfl⟩
  rw [← hV1] at hP hD
  have q1 : V1 = f_kst V := hV1
  have hR_V1 : rdI V1 := by rw [hV1]; exact rdI_kst hR.1.h
  refine lv_aload_n hx hb dX5_readFeathers_4 rfl (lv_at hl 0 rfl) ?_
  refine W.eq (g2 := F0 m 5 ls [.ref (a 2)]) rfl ?_
  refine lv_iconst (v := iZ 0) hx hb dX5_readFeathers_5 (by decide) ?_
  refine lv_iconst (v := iZ 3) hx hb dX5_readFeathers_6 (by decide) ?_
  refine kq_cm (i := 2) (As := [.int (iZ 0), .int (iZ 3)]) (rest := []) ⟨hx, hb, hml, hown, hts⟩ hK hP hN hD hS (by decide) (cE_2 rfl) rfl (K_X5_takeNumber l D C a b V1 0 3 (by assumption) (by omega) (by omega) (hD.weaken (fun _ _ _ _ => trivial))) (cwV 2 hts gX5_readFeathers_X5_takeNumber rfl rfl rfl (by decide +kernel) ⟨Nat.le_of_ble_eq_true rfl, Nat.le_of_ble_eq_true rfl⟩) rfl rfl hl.1 (Nat.le_of_ble_eq_true rfl) ⟨Nat.le_of_ble_eq_true rfl, Nat.le_of_ble_eq_true rfl⟩ dX5_readFeathers_7 (fun H locs hP hD hS => ?_)
  obtain ⟨V2, hV2⟩ : ∃ z : Nat → Nat → Int, z = (f_knum V1 0 3) := ⟨_, rfl⟩
  rw [← hV2] at hP hD
  have q2 : V2 = f_e2 V := by rw [hV2, q1]; rfl
  have hR_V2 : rdI V2 := by rw [hV2]; exact rdI_knum hR_V1 _ _
  refine z_nm (fun kd hkd => ?_)
  have q2e : kd = e_kd V := by rw [hkd, q1]; rfl
  have q2b : kd = -1 ∨ (0 ≤ kd ∧ kd ≤ 3) := by rw [hkd]; exact k_num_bd 0 3 (by decide)
  refine lv_istore_n (lv' := [(2, .int (iZ kd)), (0, .ref (a 2)), (1, .ref (a to))]) hx hb dX5_readFeathers_10 rfl hl (by decide) rfl (fun ls hl => ?_)
  refine lv_iload_n hx hb dX5_readFeathers_11 rfl (lv_at hl 0 rfl) ?_
  refine z_if_ge (x := kd) (tgt := 19) hx hb (by omega) dX5_readFeathers_12 (by decide) (fun c3 => ?_) (fun c3 => ?_)
  · refine lv_aload_n hx hb dX5_readFeathers_19 rfl (lv_at hl 1 rfl) ?_
    refine lv_iconst (v := iZ 0) hx hb dX5_readFeathers_20 (by decide) ?_
    refine lv_bipush (v := iZ 20) hx hb dX5_readFeathers_21 (by decide) ?_
    refine kq_cm (i := 2) (As := [.int (iZ 0), .int (iZ 20)]) (rest := []) ⟨hx, hb, hml, hown, hts⟩ hK hP hN hD hS (by decide) (cE_2 rfl) rfl (K_X5_takeNumber l D C a b V2 0 20 (by assumption) (by omega) (by omega) (hD.weaken (fun _ _ _ _ => trivial))) (cwV 2 hts gX5_readFeathers_X5_takeNumber rfl rfl rfl (by decide +kernel) ⟨Nat.le_of_ble_eq_true rfl, Nat.le_of_ble_eq_true rfl⟩) rfl rfl hl.1 (Nat.le_of_ble_eq_true rfl) ⟨Nat.le_of_ble_eq_true rfl, Nat.le_of_ble_eq_true rfl⟩ dX5_readFeathers_23 (fun H locs hP hD hS => ?_)
    obtain ⟨V4, hV4⟩ : ∃ z : Nat → Nat → Int, z = (f_knum V2 0 20) := ⟨_, rfl⟩
    rw [← hV4] at hP hD
    have q3 : V4 = f_e3 V := by rw [hV4, q2]; rfl
    have hR_V4 : rdI V4 := by rw [hV4]; exact rdI_knum hR_V2 _ _
    refine z_nm (fun nn hnn => ?_)
    have q3e : nn = e_nn V := by rw [hnn, q2]; rfl
    have q3b : nn = -1 ∨ (0 ≤ nn ∧ nn ≤ 20) := by rw [hnn]; exact k_num_bd 0 20 (by decide)
    refine lv_istore_n (lv' := [(3, .int (iZ nn)), (2, .int (iZ kd)), (0, .ref (a 2)), (1, .ref (a to))]) hx hb dX5_readFeathers_26 rfl hl (by decide) rfl (fun ls hl => ?_)
    refine lv_iload_n hx hb dX5_readFeathers_27 rfl (lv_at hl 0 rfl) ?_
    refine W.eq (g2 := F0 m 28 ls [.int (iZ nn)]) rfl ?_
    refine z_if_lt (x := nn) (tgt := 38) hx hb (by omega) dX5_readFeathers_28 (by decide) (fun c5 => ?_) (fun c5 => ?_)
    · refine lv_iconst (v := iZ 0) hx hb dX5_readFeathers_38 (by decide) ?_
      exact kq_retM hx hb hK hP hS hr (z_nbool (by first | omega | (split <;> omega))) (by unfold r_fea; first | exact (if_pos (by omega)).symm | exact (if_neg (by omega)).symm) (by unfold f_fea; (first | (refine Eq.trans ?_ (if_pos (by omega)).symm; exact q2) | (refine Eq.trans ?_ (if_neg (by omega)).symm; first | (refine Eq.trans ?_ (if_pos (by omega)).symm; exact q3) | (refine Eq.trans ?_ (if_neg (by omega)).symm; first | (refine Eq.trans ?_ (if_pos (by omega)).symm; exact q9) | (refine Eq.trans ?_ (if_neg (by omega)).symm; rw [← q9, ← q2e, ← q3e]; exact r5))))) dX5_readFeathers_39 hlocks
    · refine lv_aload_n hx hb dX5_readFeathers_31 rfl (lv_at hl 2 rfl) ?_
      refine kq_cm (i := 2) (As := []) (rest := []) ⟨hx, hb, hml, hown, hts⟩ hK hP hN hD hS (by decide) (cE_2 rfl) rfl (K_X5_takeSemicolon l D C a b V4  (by assumption) (hD.weaken (fun _ _ _ _ => trivial))) (cwV 0 hts gX5_readFeathers_X5_takeSemicolon rfl rfl rfl (by decide +kernel) ⟨Nat.le_of_ble_eq_true rfl, Nat.le_of_ble_eq_true rfl⟩) rfl rfl hl.1 (Nat.le_of_ble_eq_true rfl) ⟨Nat.le_of_ble_eq_true rfl, Nat.le_of_ble_eq_true rfl⟩ dX5_readFeathers_32 (fun H locs hP hD hS => ?_)
      obtain ⟨V6, hV6⟩ : ∃ z : Nat → Nat → Int, z = (f_ksem V4) := ⟨_, rfl⟩
      rw [← hV6] at hP hD
      have q9 : V6 = f_ksem (f_e3 V) := by rw [hV6, q3]
      have eto : V6 to = V to := by rw [q9, f_ksem_o _ to hto.n2, f_e3_o V hto.n2]
      have q9s : V4 2 3 = f_e3 V 2 3 := by rw [q3]
      have d7m : V6 to 7 = V to 7 := by rw [eto]
      have d8m : V6 to 8 = V to 8 := by rw [eto]
      refine z_ifb_ne (P := V4 2 3 = 3) (tgt := 40) hx hb dX5_readFeathers_35 (by decide) (fun c7 => ?_) (fun c7 => ?_)
      · refine lv_aload_n hx hb dX5_readFeathers_40 rfl (lv_at hl 3 rfl) ?_
        refine kq_get (i := to) hx hb hts hin_X6 hown hK hP (isTo.l0 hto) (cE_15 (isTo.s0 hto)) rfl 6 (by decide) (hts (.fieldLink RX5 95 "WordFletchers$Told" "feathers" "[I") (List.mem_cons_of_mem _ (List.mem_append_left _ (List.mem_append_left _ (List.mem_append_left _ (List.mem_of_getElem? (i := 0) rfl)))))) rfl dX5_readFeathers_41 ?_
        refine lv_iload_n hx hb dX5_readFeathers_44 rfl (lv_at hl 1 rfl) ?_
        refine lv_iload_n hx hb dX5_readFeathers_45 rfl (lv_at hl 0 rfl) ?_
        refine kq_iast (i := (to + 7)) hx hb hK hP hD hS (isTo.l7 hto) (n := 4) (cE_22 (isTo.s7 hto)) (by decide) (Int.toNat kd) rfl (by omega) dX5_readFeathers_46 (fun H locs hP hD hS => ?_)
        obtain ⟨V8, hV8⟩ : ∃ z : Nat → Nat → Int, z = (mU V6 (to + 7) (Int.toNat kd) nn) := ⟨_, rfl⟩
        rw [← hV8] at hP hD
        have r5 := hV8
        refine lv_iconst (v := iZ 1) hx hb dX5_readFeathers_47 (by decide) ?_
        refine W.eq (g2 := F0 m 48 ls [.int (iZ 1)]) rfl ?_
        exact kq_retM hx hb hK hP hS hr (z_nbool (by first | omega | (split <;> omega))) (by unfold r_fea; first | exact (if_pos (by omega)).symm | exact (if_neg (by omega)).symm) (by unfold f_fea; (first | (refine Eq.trans ?_ (if_pos (by omega)).symm; exact q2) | (refine Eq.trans ?_ (if_neg (by omega)).symm; first | (refine Eq.trans ?_ (if_pos (by omega)).symm; exact q3) | (refine Eq.trans ?_ (if_neg (by omega)).symm; first | (refine Eq.trans ?_ (if_pos (by omega)).symm; exact q9) | (refine Eq.trans ?_ (if_neg (by omega)).symm; rw [← q9, ← q2e, ← q3e]; exact r5))))) dX5_readFeathers_48 hlocks
      · refine lv_iconst (v := iZ 0) hx hb dX5_readFeathers_38 (by decide) ?_
        exact kq_retM hx hb hK hP hS hr (z_nbool (by first | omega | (split <;> omega))) (by unfold r_fea; first | exact (if_pos (by omega)).symm | exact (if_neg (by omega)).symm) (by unfold f_fea; (first | (refine Eq.trans ?_ (if_pos (by omega)).symm; exact q2) | (refine Eq.trans ?_ (if_neg (by omega)).symm; first | (refine Eq.trans ?_ (if_pos (by omega)).symm; exact q3) | (refine Eq.trans ?_ (if_neg (by omega)).symm; first | (refine Eq.trans ?_ (if_pos (by omega)).symm; exact q9) | (refine Eq.trans ?_ (if_neg (by omega)).symm; rw [← q9, ← q2e, ← q3e]; exact r5))))) dX5_readFeathers_39 hlocks
  · refine lv_iconst (v := iZ (-1)) hx hb dX5_readFeathers_15 (by decide) ?_
    refine lv_goto (tgt := 26) hx hb dX5_readFeathers_16 (by decide) ?_
    refine lv_istore_n (lv' := [(3, .int (iZ (-1))), (2, .int (iZ kd)), (0, .ref (a 2)), (1, .ref (a to))]) hx hb dX5_readFeathers_26 rfl hl (by decide) rfl (fun ls hl => ?_)
    refine lv_iload_n hx hb dX5_readFeathers_27 rfl (lv_at hl 0 rfl) ?_
    refine z_if_lt (x := (-1)) (tgt := 38) hx hb (by omega) dX5_readFeathers_28 (by decide) (fun c9 => ?_) (fun c9 => ?_)
    · refine lv_iconst (v := iZ 0) hx hb dX5_readFeathers_38 (by decide) ?_
      exact kq_retM hx hb hK hP hS hr (z_nbool (by first | omega | (split <;> omega))) (by unfold r_fea; first | exact (if_pos (by omega)).symm | exact (if_neg (by omega)).symm) (by unfold f_fea; (first | (refine Eq.trans ?_ (if_pos (by omega)).symm; exact q2) | (refine Eq.trans ?_ (if_neg (by omega)).symm; first | (refine Eq.trans ?_ (if_pos (by omega)).symm; exact q3) | (refine Eq.trans ?_ (if_neg (by omega)).symm; first | (refine Eq.trans ?_ (if_pos (by omega)).symm; exact q9) | (refine Eq.trans ?_ (if_neg (by omega)).symm; rw [← q9, ← q2e, ← q3e]; exact r5))))) dX5_readFeathers_39 hlocks
    · exact absurd c9 (by decide)
set_option maxHeartbeats 4000000 in
set_option maxRecDepth 100000 in
theorem K_X5_readWinds (l : Launch) (D : va_G) (C : cC) (a b : Nat → Nat) (V : Nat → Nat → Int) (to : Nat) (hto : isTo to) (hR : rdI V) (hd : dtI V to) (hDD : va_D (fun _ => True) (cW C a V)) : Met l yX5_readWinds wsX5_readWinds ({ frames := 4, cells := 0, slots := 0, locals := 88 }) (va_Pc [.ref (a 2), .ref (a to)] (cOk D C a b V)) (va_Qi (fun r (_ : Unit) => r = iZ ((x_win V to).2)) (fun _ t => cPo D C a ((x_win V to).1) t) (cA a)) 0 0 (cA a) := by
  refine Met.ofW (cc := cX5_readWinds) (maxL := 4) (ret := (some .boolean)) (by decide) rfl ?_
  intro p e s m args below meth c s₁ B hml hv
  obtain ⟨rfl, hP, hK, hN⟩ := hv
  have hx := B.exec
  have hb := B.bytes
  have hr := B.returns
  have hts := atoms_spec (ws := wsX5_readWinds) B.pre
  have hown : s.vm.findClass RX5 = some m.cls := findClass_of_methodNamed B.named
  have hlocks := B.notSynchronized
  have hin_X6 : ∀ w ∈ wsX60, w ∈ wsX5_readWinds := fun _ w_h => (List.mem_cons_of_mem _ (List.mem_append_left _ (List.mem_append_right _ w_h)))
  have hin_X5 : ∀ w ∈ wsX50, w ∈ wsX5_readWinds := fun _ w_h => (List.mem_cons_of_mem _ (List.mem_append_right _ w_h))
  have hl := lv_entry ([.ref (a 2), .ref (a to)]) (n := 4) (Nat.le_of_ble_eq_true rfl)
  rw [lg_entry_eq]
  generalize (lg_sl ([.ref (a 2), .ref (a to)]) ++ List.replicate (4 - (lg_sl ([.ref (a 2), .ref (a to)])).length) Slot.unset).toArray = ls at hl ⊢
  replace hl : lv_has ls 4 [(0, .ref (a 2)), (1, .ref (a to))] := hl
  have hD : va_D (cA a) (cW C a V) := cD_own hDD
  generalize hHe : s.heap = H at hP ⊢
  have hS : va_S (cA a) s.heap H [] := by rw [hHe]; exact va_S.rf
  generalize hlo : ([] : List Loc) = locs at hS ⊢
  clear hHe hlo
  obtain ⟨⟨r1, r2, r3, r4, r6⟩, r5⟩ := id hR
  have hH : rdH V := hR.1.h
  obtain ⟨d7, d8, d9⟩ := id hd
  have hto9 := hto
  unfold isTo at hto9
  refine lv_aload_n hx hb dX5_readWinds_0 rfl (lv_at hl 1 rfl) ?_
  refine kq_get (i := to) hx hb hts hin_X6 hown hK hP (isTo.l0 hto) (cE_15 (isTo.s0 hto)) rfl 9 (by decide) (hts (.fieldLink RX5 89 "WordFletchers$Told" "windsTold" "I") (List.mem_cons_of_mem _ (List.mem_append_left _ (List.mem_append_left _ (List.mem_append_left _ (List.mem_of_getElem? (i := 0) rfl)))))) rfl dX5_readWinds_1 ?_
  refine W.eq (g2 := F0 m 4 ls [.int (iZ (V to 9))]) rfl ?_
  refine z_if_le (x := (V to 9)) (tgt := 9) hx hb (by omega) dX5_readWinds_4 (by decide) (fun c1 => ?_) (fun c1 => ?_)
  · refine lv_aload_n hx hb dX5_readWinds_9 rfl (lv_at hl 0 rfl) ?_
    refine kq_cv (i := 2) (As := []) (rest := []) ⟨hx, hb, hml, hown, hts⟩ hK hP hN hD hS (by decide) (cE_2 rfl) rfl (K_X5_step l D C a b V  (by assumption) (hD.weaken (fun _ _ _ _ => trivial))) (cwV 0 hts gX5_readWinds_X5_step rfl rfl rfl (by decide +kernel) ⟨Nat.le_of_ble_eq_true rfl, Nat.le_of_ble_eq_true rfl⟩) rfl rfl hl.1 (Nat.le_of_ble_eq_true rfl) ⟨Nat.le_of_ble_eq_true rfl, Nat.le_of_ble_eq_true rfl⟩ dX5_readWinds_10 (fun H locs hP hD hS => ?_)
    obtain ⟨V2, hV2⟩ : ∃ z : Nat → Nat → Int, z = (f_kst V) := ⟨_, rfl⟩
    rw [← hV2] at hP hD
    have q1 : V2 = f_kst V := hV2
    have hR_V2 : rdI V2 := by rw [hV2]; exact rdI_kst hR.1.h
    refine lv_iconst (v := iZ 0) hx hb dX5_readWinds_13 (by decide) ?_
    refine lv_istore_n (lv' := [(2, .int (iZ 0)), (0, .ref (a 2)), (1, .ref (a to))]) hx hb dX5_readWinds_14 rfl hl (by decide) rfl (fun ls hl => ?_)
    replace hl : lv_has ls 4 [(2, .int (iZ (0 : Int))), (0, .ref (a 2)), (1, .ref (a to))] := lv_sub hl [0, 1, 2] rfl
    replace hP := And.intro hP hS
    clear hS
    revert ls
    revert hP
    revert H locs
    refine z_loopH (σ := Int × (Nat → Nat → Int)) (fun x9 => (0 ≤ x9.1 ∧ x9.1 ≤ 6) ∧ (x_win V to = f_wl to (Int.toNat (6 - x9.1)) x9.1 x9.2) ∧ (rdI x9.2)) (fun x9 H9 locs9 => va_P D vwCl (cW C a (x9.2)) H9 ∧ va_S (cA a) s.heap H9 locs9) (fun x9 => [(2, .int (iZ (x9.1))), (0, .ref (a 2)), (1, .ref (a to))]) 4 (fun x9 => (6 - x9.1).toNat) ((0 : Int), V2) ⟨(by show 0 ≤ (0 : Int) ∧ (0 : Int) ≤ 6; omega), (by show x_win V to = f_wl to (Int.toNat (6 - (0 : Int))) (0 : Int) V2; rw [q1]; exact if_neg (by omega)), (by show rdI V2; assumption)⟩ ?_
    rintro ⟨jj, K⟩ hI9 ih15 H locs hPS ls hl
    have hP : va_P D vwCl (cW C a K) H := hPS.1
    have hS : va_S (cA a) s.heap H locs := hPS.2
    clear hPS
    have hD : va_D (cA a) (cW C a K) := cD_re hD
    obtain ⟨i1, i2, i3⟩ := hI9
    replace i1 : 0 ≤ jj ∧ jj ≤ 6 := i1
    replace i2 : x_win V to = f_wl to (Int.toNat (6 - jj)) jj K := i2
    replace i3 : rdI K := i3
    replace hl : lv_has ls 4 [(2, .int (iZ jj)), (0, .ref (a 2)), (1, .ref (a to))] := hl
    have hRK : rdI K := i3
    have i39 := i3.1.2.2.2.1
    refine lv_iload_n hx hb dX5_readWinds_15 rfl (lv_at hl 0 rfl) ?_
    refine lv_bipush (v := iZ 6) hx hb dX5_readWinds_16 (by decide) ?_
    refine z_icmp_ge (x := jj) (y := 6) (tgt := 69) hx hb (by omega) (by omega) dX5_readWinds_18 (by decide) (fun c3 => ?_) (fun c3 => ?_)
    · refine lv_aload_n hx hb dX5_readWinds_69 rfl (lv_at hl 1 rfl) ?_
      refine kq_cm (i := 2) (As := []) (rest := []) ⟨hx, hb, hml, hown, hts⟩ hK hP hN hD hS (by decide) (cE_2 rfl) rfl (K_X5_takeSemicolon l D C a b K  (by assumption) (hD.weaken (fun _ _ _ _ => trivial))) (cwV 0 hts gX5_readWinds_X5_takeSemicolon rfl rfl rfl (by decide +kernel) ⟨Nat.le_of_ble_eq_true rfl, Nat.le_of_ble_eq_true rfl⟩) rfl rfl hl.1 (Nat.le_of_ble_eq_true rfl) ⟨Nat.le_of_ble_eq_true rfl, Nat.le_of_ble_eq_true rfl⟩ dX5_readWinds_70 (fun H locs hP hD hS => ?_)
      obtain ⟨V4, hV4⟩ : ∃ z : Nat → Nat → Int, z = (f_ksem K) := ⟨_, rfl⟩
      rw [← hV4] at hP hD
      have q9 : V4 = f_ksem K := hV4
      exact kq_retM hx hb hK hP hS hr (z_nbool (by first | omega | (split <;> omega))) (by first | (exact z0.2.symm) | (rw [i2, show jj = 6 by omega]; rfl) | (rw [i2, f_wl_step to (by omega)]; first | (refine Eq.trans ?_ (congrArg Prod.snd (if_pos (by omega))).symm; first | rfl | (refine Eq.trans ?_ (congrArg Prod.snd (if_pos (by omega))).symm; rfl)) | (refine Eq.trans ?_ (congrArg Prod.snd (if_neg (by omega))).symm; first | rfl | (refine Eq.trans ?_ (congrArg Prod.snd (if_pos (by omega))).symm; rfl)))) (by first | (exact z0.1.symm) | (rw [i2, show jj = 6 by omega]; exact q9) | (rw [i2, f_wl_step to (by omega)]; first | (refine Eq.trans ?_ (congrArg Prod.fst (if_pos (by omega))).symm; first | exact q9 | (refine Eq.trans ?_ (congrArg Prod.fst (if_pos (by omega))).symm; exact q2)) | (refine Eq.trans ?_ (congrArg Prod.fst (if_neg (by omega))).symm; first | exact q9 | (refine Eq.trans ?_ (congrArg Prod.fst (if_pos (by omega))).symm; exact q2)))) dX5_readWinds_73 hlocks
    · refine lv_iload_n hx hb dX5_readWinds_21 rfl (lv_at hl 0 rfl) ?_
      refine W.eq (g2 := F0 m 22 ls [.int (iZ jj)]) rfl ?_
      refine z_if_eq (x := jj) (tgt := 33) hx hb (by omega) dX5_readWinds_22 (by decide) (fun c5 => ?_) (fun c5 => ?_)
      · refine lv_aload_n hx hb dX5_readWinds_33 rfl (lv_at hl 1 rfl) ?_
        refine lv_iconst (v := iZ 0) hx hb dX5_readWinds_34 (by decide) ?_
        refine lv_bipush (v := iZ 8) hx hb dX5_readWinds_35 (by decide) ?_
        refine kq_cm (i := 2) (As := [.int (iZ 0), .int (iZ 8)]) (rest := []) ⟨hx, hb, hml, hown, hts⟩ hK hP hN hD hS (by decide) (cE_2 rfl) rfl (K_X5_takeNumber l D C a b K 0 8 (by assumption) (by omega) (by omega) (hD.weaken (fun _ _ _ _ => trivial))) (cwV 2 hts gX5_readWinds_X5_takeNumber rfl rfl rfl (by decide +kernel) ⟨Nat.le_of_ble_eq_true rfl, Nat.le_of_ble_eq_true rfl⟩) rfl rfl hl.1 (Nat.le_of_ble_eq_true rfl) ⟨Nat.le_of_ble_eq_true rfl, Nat.le_of_ble_eq_true rfl⟩ dX5_readWinds_37 (fun H locs hP hD hS => ?_)
        obtain ⟨V6, hV6⟩ : ∃ z : Nat → Nat → Int, z = (f_knum K 0 8) := ⟨_, rfl⟩
        rw [← hV6] at hP hD
        have q2 : V6 = f_knum K 0 8 := hV6
        have hR_V6 : rdI V6 := by rw [hV6]; exact rdI_knum hRK _ _
        have eto : V6 to = K to := by rw [q2]; exact f_knum_o _ _ _ _ hto.n2
        refine z_nm (fun nn hnn => ?_)
        have nb : nn = -1 ∨ (0 ≤ nn ∧ nn ≤ 8) := by rw [hnn]; exact k_num_bd 0 8 (by decide)
        refine lv_istore_n (lv' := [(3, .int (iZ nn)), (2, .int (iZ jj)), (0, .ref (a 2)), (1, .ref (a to))]) hx hb dX5_readWinds_40 rfl hl (by decide) rfl (fun ls hl => ?_)
        refine lv_iload_n hx hb dX5_readWinds_41 rfl (lv_at hl 0 rfl) ?_
        refine z_if_ge (x := nn) (tgt := 47) hx hb (by omega) dX5_readWinds_42 (by decide) (fun c7 => ?_) (fun c7 => ?_)
        · refine lv_aload_n hx hb dX5_readWinds_47 rfl (lv_at hl 3 rfl) ?_
          refine kq_get (i := to) hx hb hts hin_X6 hown hK hP (isTo.l0 hto) (cE_15 (isTo.s0 hto)) rfl 5 (by decide) (hts (.fieldLink RX5 92 "WordFletchers$Told" "winds" "[I") (List.mem_cons_of_mem _ (List.mem_append_left _ (List.mem_append_left _ (List.mem_append_left _ (List.mem_of_getElem? (i := 2) rfl)))))) rfl dX5_readWinds_48 ?_
          refine lv_iload_n hx hb dX5_readWinds_51 rfl (lv_at hl 1 rfl) ?_
          refine lv_iload_n hx hb dX5_readWinds_52 rfl (lv_at hl 0 rfl) ?_
          refine W.eq (g2 := F0 m 53 ls [.int (iZ nn), .int (iZ jj), .ref (a (to + 6))]) rfl ?_
          refine lv_iconst (v := iZ 4) hx hb dX5_readWinds_53 (by decide) ?_
          refine z_isub hx hb dX5_readWinds_54 ?_
          refine kq_iast (i := (to + 6)) hx hb hK hP hD hS (isTo.l6 hto) (n := 6) (cE_21 (isTo.s6 hto)) (by decide) (Int.toNat jj) rfl (by omega) dX5_readWinds_55 (fun H locs hP hD hS => ?_)
          obtain ⟨V8, hV8⟩ : ∃ z : Nat → Nat → Int, z = (mU V6 (to + 6) (Int.toNat jj) (nn - 4)) := ⟨_, rfl⟩
          rw [← hV8] at hP hD
          have q3 : V8 = mU V6 (to + 6) (Int.toNat jj) (nn - 4) := hV8
          have hR_V8 : rdI V8 := rdI.w6 hto hR_V6 q3
          refine lv_aload_n hx hb dX5_readWinds_56 rfl (lv_at hl 3 rfl) ?_
          refine lv_iload_n hx hb dX5_readWinds_57 rfl (lv_at hl 1 rfl) ?_
          refine lv_iconst (v := iZ 1) hx hb dX5_readWinds_58 (by decide) ?_
          refine z_iadd hx hb dX5_readWinds_59 ?_
          refine kq_put (ty := .int) (i := to) hx hb hts hin_X6 hown tyX6 tyX6_ok nmX6 hK hP hD hS (isTo.l0 hto) (cE_15 (isTo.s0 hto)) rfl 9 (by decide) (hts (.fieldLink RX5 89 "WordFletchers$Told" "windsTold" "I") (List.mem_cons_of_mem _ (List.mem_append_left _ (List.mem_append_left _ (List.mem_append_left _ (List.mem_of_getElem? (i := 0) rfl)))))) rfl (by decide +kernel) rfl rfl (Nat.le_of_ble_eq_true rfl) rfl dX5_readWinds_60 (fun H locs hP hD hS => ?_)
          obtain ⟨V9, hV9⟩ : ∃ z : Nat → Nat → Int, z = (mU V8 to 9 (jj + 1)) := ⟨_, rfl⟩
          rw [← hV9] at hP hD
          have q4 : V9 = f_w1 K to jj := by rw [hV9, q3, q2, hnn]; rfl
          have hR_V9 : rdI V9 := rdI.w9 hto hR_V8 hV9
          refine lv_iinc (v := iZ (jj + 1)) (lv' := [(2, .int (iZ (jj + 1))), (3, .int (iZ nn)), (0, .ref (a 2)), (1, .ref (a to))]) hx hb dX5_readWinds_63 hl (k := 1) rfl (iZ_add _ _) (by decide) rfl (fun ls hl => ?_)
          refine lv_goto (tgt := 15) hx hb dX5_readWinds_66 (by decide) ?_
          exact ih15 ((jj + 1), V9) ⟨(by show 0 ≤ (jj + 1) ∧ (jj + 1) ≤ 6; omega), (by show x_win V to = f_wl to (Int.toNat (6 - (jj + 1))) (jj + 1) V9; rw [i2, f_wl_step to (by omega)]; refine Eq.trans (if_pos (by omega)) ?_; refine Eq.trans (if_neg (by omega)) ?_; rw [← q4]), (by show rdI V9; assumption)⟩ (by show (6 - (jj + 1)).toNat < (6 - jj).toNat; omega) H locs ⟨hP, hS⟩ ls (lv_sub hl [0, 2, 3] rfl)
        · refine lv_iconst (v := iZ 0) hx hb dX5_readWinds_45 (by decide) ?_
          exact kq_retM hx hb hK hP hS hr (z_nbool (by first | omega | (split <;> omega))) (by first | (exact z0.2.symm) | (rw [i2, show jj = 6 by omega]; rfl) | (rw [i2, f_wl_step to (by omega)]; first | (refine Eq.trans ?_ (congrArg Prod.snd (if_pos (by omega))).symm; first | rfl | (refine Eq.trans ?_ (congrArg Prod.snd (if_pos (by omega))).symm; rfl)) | (refine Eq.trans ?_ (congrArg Prod.snd (if_neg (by omega))).symm; first | rfl | (refine Eq.trans ?_ (congrArg Prod.snd (if_pos (by omega))).symm; rfl)))) (by first | (exact z0.1.symm) | (rw [i2, show jj = 6 by omega]; exact q9) | (rw [i2, f_wl_step to (by omega)]; first | (refine Eq.trans ?_ (congrArg Prod.fst (if_pos (by omega))).symm; first | exact q9 | (refine Eq.trans ?_ (congrArg Prod.fst (if_pos (by omega))).symm; exact q2)) | (refine Eq.trans ?_ (congrArg Prod.fst (if_neg (by omega))).symm; first | exact q9 | (refine Eq.trans ?_ (congrArg Prod.fst (if_pos (by omega))).symm; exact q2)))) dX5_readWinds_46 hlocks
      · refine W.eq (g2 := F0 m 25 ls []) rfl ?_
        refine lv_aload_n hx hb dX5_readWinds_25 rfl (lv_at hl 1 rfl) ?_
        refine kq_get (i := 2) hx hb hts hin_X5 hown hK hP (by decide) (cE_2 rfl) rfl 3 (by decide) (hts (.fieldLink RX5 36 "WordFletchers$TextReader" "sort" "I") (List.mem_cons_of_mem _ (List.mem_append_left _ (List.mem_append_left _ (List.mem_append_left _ (List.mem_of_getElem? (i := 1) rfl)))))) rfl dX5_readWinds_26 ?_
        refine lv_iconst (v := iZ 3) hx hb dX5_readWinds_29 (by decide) ?_
        refine z_icmp_eq (x := (K 2 3)) (y := 3) (tgt := 69) hx hb (by omega) (by omega) dX5_readWinds_30 (by decide) (fun c10 => ?_) (fun c10 => ?_)
        · refine lv_aload_n hx hb dX5_readWinds_69 rfl (lv_at hl 1 rfl) ?_
          refine kq_cm (i := 2) (As := []) (rest := []) ⟨hx, hb, hml, hown, hts⟩ hK hP hN hD hS (by decide) (cE_2 rfl) rfl (K_X5_takeSemicolon l D C a b K  (by assumption) (hD.weaken (fun _ _ _ _ => trivial))) (cwV 0 hts gX5_readWinds_X5_takeSemicolon rfl rfl rfl (by decide +kernel) ⟨Nat.le_of_ble_eq_true rfl, Nat.le_of_ble_eq_true rfl⟩) rfl rfl hl.1 (Nat.le_of_ble_eq_true rfl) ⟨Nat.le_of_ble_eq_true rfl, Nat.le_of_ble_eq_true rfl⟩ dX5_readWinds_70 (fun H locs hP hD hS => ?_)
          obtain ⟨V11, hV11⟩ : ∃ z : Nat → Nat → Int, z = (f_ksem K) := ⟨_, rfl⟩
          rw [← hV11] at hP hD
          have q9 : V11 = f_ksem K := hV11
          exact kq_retM hx hb hK hP hS hr (z_nbool (by first | omega | (split <;> omega))) (by first | (exact z0.2.symm) | (rw [i2, show jj = 6 by omega]; rfl) | (rw [i2, f_wl_step to (by omega)]; first | (refine Eq.trans ?_ (congrArg Prod.snd (if_pos (by omega))).symm; first | rfl | (refine Eq.trans ?_ (congrArg Prod.snd (if_pos (by omega))).symm; rfl)) | (refine Eq.trans ?_ (congrArg Prod.snd (if_neg (by omega))).symm; first | rfl | (refine Eq.trans ?_ (congrArg Prod.snd (if_pos (by omega))).symm; rfl)))) (by first | (exact z0.1.symm) | (rw [i2, show jj = 6 by omega]; exact q9) | (rw [i2, f_wl_step to (by omega)]; first | (refine Eq.trans ?_ (congrArg Prod.fst (if_pos (by omega))).symm; first | exact q9 | (refine Eq.trans ?_ (congrArg Prod.fst (if_pos (by omega))).symm; exact q2)) | (refine Eq.trans ?_ (congrArg Prod.fst (if_neg (by omega))).symm; first | exact q9 | (refine Eq.trans ?_ (congrArg Prod.fst (if_pos (by omega))).symm; exact q2)))) dX5_readWinds_73 hlocks
        · refine lv_aload_n hx hb dX5_readWinds_33 rfl (lv_at hl 1 rfl) ?_
          refine lv_iconst (v := iZ 0) hx hb dX5_readWinds_34 (by decide) ?_
          refine lv_bipush (v := iZ 8) hx hb dX5_readWinds_35 (by decide) ?_
          refine kq_cm (i := 2) (As := [.int (iZ 0), .int (iZ 8)]) (rest := []) ⟨hx, hb, hml, hown, hts⟩ hK hP hN hD hS (by decide) (cE_2 rfl) rfl (K_X5_takeNumber l D C a b K 0 8 (by assumption) (by omega) (by omega) (hD.weaken (fun _ _ _ _ => trivial))) (cwV 2 hts gX5_readWinds_X5_takeNumber rfl rfl rfl (by decide +kernel) ⟨Nat.le_of_ble_eq_true rfl, Nat.le_of_ble_eq_true rfl⟩) rfl rfl hl.1 (Nat.le_of_ble_eq_true rfl) ⟨Nat.le_of_ble_eq_true rfl, Nat.le_of_ble_eq_true rfl⟩ dX5_readWinds_37 (fun H locs hP hD hS => ?_)
          obtain ⟨V12, hV12⟩ : ∃ z : Nat → Nat → Int, z = (f_knum K 0 8) := ⟨_, rfl⟩
          rw [← hV12] at hP hD
          have q2 : V12 = f_knum K 0 8 := hV12
          have hR_V12 : rdI V12 := by rw [hV12]; exact rdI_knum hRK _ _
          have eto : V12 to = K to := by rw [q2]; exact f_knum_o _ _ _ _ hto.n2
          refine z_nm (fun nn hnn => ?_)
          have nb : nn = -1 ∨ (0 ≤ nn ∧ nn ≤ 8) := by rw [hnn]; exact k_num_bd 0 8 (by decide)
          refine lv_istore_n (lv' := [(3, .int (iZ nn)), (2, .int (iZ jj)), (0, .ref (a 2)), (1, .ref (a to))]) hx hb dX5_readWinds_40 rfl hl (by decide) rfl (fun ls hl => ?_)
          refine W.eq (g2 := F0 m 41 ls []) rfl ?_
          refine lv_iload_n hx hb dX5_readWinds_41 rfl (lv_at hl 0 rfl) ?_
          refine z_if_ge (x := nn) (tgt := 47) hx hb (by omega) dX5_readWinds_42 (by decide) (fun c13 => ?_) (fun c13 => ?_)
          · refine lv_aload_n hx hb dX5_readWinds_47 rfl (lv_at hl 3 rfl) ?_
            refine kq_get (i := to) hx hb hts hin_X6 hown hK hP (isTo.l0 hto) (cE_15 (isTo.s0 hto)) rfl 5 (by decide) (hts (.fieldLink RX5 92 "WordFletchers$Told" "winds" "[I") (List.mem_cons_of_mem _ (List.mem_append_left _ (List.mem_append_left _ (List.mem_append_left _ (List.mem_of_getElem? (i := 2) rfl)))))) rfl dX5_readWinds_48 ?_
            refine lv_iload_n hx hb dX5_readWinds_51 rfl (lv_at hl 1 rfl) ?_
            refine lv_iload_n hx hb dX5_readWinds_52 rfl (lv_at hl 0 rfl) ?_
            refine lv_iconst (v := iZ 4) hx hb dX5_readWinds_53 (by decide) ?_
            refine z_isub hx hb dX5_readWinds_54 ?_
            refine kq_iast (i := (to + 6)) hx hb hK hP hD hS (isTo.l6 hto) (n := 6) (cE_21 (isTo.s6 hto)) (by decide) (Int.toNat jj) rfl (by omega) dX5_readWinds_55 (fun H locs hP hD hS => ?_)
            obtain ⟨V14, hV14⟩ : ∃ z : Nat → Nat → Int, z = (mU V12 (to + 6) (Int.toNat jj) (nn - 4)) := ⟨_, rfl⟩
            rw [← hV14] at hP hD
            have q3 : V14 = mU V12 (to + 6) (Int.toNat jj) (nn - 4) := hV14
            have hR_V14 : rdI V14 := rdI.w6 hto hR_V12 q3
            refine lv_aload_n hx hb dX5_readWinds_56 rfl (lv_at hl 3 rfl) ?_
            refine lv_iload_n hx hb dX5_readWinds_57 rfl (lv_at hl 1 rfl) ?_
            refine lv_iconst (v := iZ 1) hx hb dX5_readWinds_58 (by decide) ?_
            refine W.eq (g2 := F0 m 59 ls [.int (iZ 1), .int (iZ jj), .ref (a to)]) rfl ?_
            refine z_iadd hx hb dX5_readWinds_59 ?_
            refine kq_put (ty := .int) (i := to) hx hb hts hin_X6 hown tyX6 tyX6_ok nmX6 hK hP hD hS (isTo.l0 hto) (cE_15 (isTo.s0 hto)) rfl 9 (by decide) (hts (.fieldLink RX5 89 "WordFletchers$Told" "windsTold" "I") (List.mem_cons_of_mem _ (List.mem_append_left _ (List.mem_append_left _ (List.mem_append_left _ (List.mem_of_getElem? (i := 0) rfl)))))) rfl (by decide +kernel) rfl rfl (Nat.le_of_ble_eq_true rfl) rfl dX5_readWinds_60 (fun H locs hP hD hS => ?_)
            obtain ⟨V15, hV15⟩ : ∃ z : Nat → Nat → Int, z = (mU V14 to 9 (jj + 1)) := ⟨_, rfl⟩
            rw [← hV15] at hP hD
            have q4 : V15 = f_w1 K to jj := by rw [hV15, q3, q2, hnn]; rfl
            have hR_V15 : rdI V15 := rdI.w9 hto hR_V14 hV15
            refine lv_iinc (v := iZ (jj + 1)) (lv' := [(2, .int (iZ (jj + 1))), (3, .int (iZ nn)), (0, .ref (a 2)), (1, .ref (a to))]) hx hb dX5_readWinds_63 hl (k := 1) rfl (iZ_add _ _) (by decide) rfl (fun ls hl => ?_)
            refine lv_goto (tgt := 15) hx hb dX5_readWinds_66 (by decide) ?_
            exact ih15 ((jj + 1), V15) ⟨(by show 0 ≤ (jj + 1) ∧ (jj + 1) ≤ 6; omega), (by show x_win V to = f_wl to (Int.toNat (6 - (jj + 1))) (jj + 1) V15; rw [i2, f_wl_step to (by omega)]; refine Eq.trans (if_pos (by omega)) ?_; refine Eq.trans (if_neg (by omega)) ?_; rw [← q4]), (by show rdI V15; assumption)⟩ (by show (6 - (jj + 1)).toNat < (6 - jj).toNat; omega) H locs ⟨hP, hS⟩ ls (lv_sub hl [0, 2, 3] rfl)
          · refine lv_iconst (v := iZ 0) hx hb dX5_readWinds_45 (by decide) ?_
            exact kq_retM hx hb hK hP hS hr (z_nbool (by first | omega | (split <;> omega))) (by first | (exact z0.2.symm) | (rw [i2, show jj = 6 by omega]; rfl) | (rw [i2, f_wl_step to (by omega)]; first | (refine Eq.trans ?_ (congrArg Prod.snd (if_pos (by omega))).symm; first | rfl | (refine Eq.trans ?_ (congrArg Prod.snd (if_pos (by omega))).symm; rfl)) | (refine Eq.trans ?_ (congrArg Prod.snd (if_neg (by omega))).symm; first | rfl | (refine Eq.trans ?_ (congrArg Prod.snd (if_pos (by omega))).symm; rfl)))) (by first | (exact z0.1.symm) | (rw [i2, show jj = 6 by omega]; exact q9) | (rw [i2, f_wl_step to (by omega)]; first | (refine Eq.trans ?_ (congrArg Prod.fst (if_pos (by omega))).symm; first | exact q9 | (refine Eq.trans ?_ (congrArg Prod.fst (if_pos (by omega))).symm; exact q2)) | (refine Eq.trans ?_ (congrArg Prod.fst (if_neg (by omega))).symm; first | exact q9 | (refine Eq.trans ?_ (congrArg Prod.fst (if_pos (by omega))).symm; exact q2)))) dX5_readWinds_46 hlocks
  · have z0 : (x_win V to).1 = V ∧ (x_win V to).2 = 0 := by unfold x_win; rw [if_pos (by omega)]; exact ⟨rfl, rfl⟩
    refine lv_iconst (v := iZ 0) hx hb dX5_readWinds_7 (by decide) ?_
    exact kq_retM hx hb hK hP hS hr (z_nbool (by first | omega | (split <;> omega))) (by first | (exact z0.2.symm) | (rw [i2, show jj = 6 by omega]; rfl) | (rw [i2, f_wl_step to (by omega)]; first | (refine Eq.trans ?_ (congrArg Prod.snd (if_pos (by omega))).symm; first | rfl | (refine Eq.trans ?_ (congrArg Prod.snd (if_pos (by omega))).symm; rfl)) | (refine Eq.trans ?_ (congrArg Prod.snd (if_neg (by omega))).symm; first | rfl | (refine Eq.trans ?_ (congrArg Prod.snd (if_pos (by omega))).symm; rfl)))) (by first | (exact z0.1.symm) | (rw [i2, show jj = 6 by omega]; exact q9) | (rw [i2, f_wl_step to (by omega)]; first | (refine Eq.trans ?_ (congrArg Prod.fst (if_pos (by omega))).symm; first | exact q9 | (refine Eq.trans ?_ (congrArg Prod.fst (if_pos (by omega))).symm; exact q2)) | (refine Eq.trans ?_ (congrArg Prod.fst (if_neg (by omega))).symm; first | exact q9 | (refine Eq.trans ?_ (congrArg Prod.fst (if_pos (by omega))).symm; exact q2)))) dX5_readWinds_8 hlocks
set_option maxHeartbeats 4000000 in
set_option maxRecDepth 100000 in
theorem K_X5_readItem (l : Launch) (D : va_G) (C : cC) (a b : Nat → Nat) (V : Nat → Nat → Int) (to : Nat) (hto : isTo to) (hR : rdI V) (hd : dtI V to) (hDD : va_D (fun _ => True) (cW C a V)) : Met l yX5_readItem wsX5_readItem ({ frames := 5, cells := 0, slots := 0, locals := 112 }) (va_Pc [.ref (a 2), .ref (a to)] (cOk D C a b V)) (va_Qi (fun r (_ : Unit) => r = iZ ((x_itm V to).2)) (fun _ t => cPo D C a ((x_itm V to).1) t) (cA a)) 0 0 (cA a) := by
  refine Met.ofW (cc := cX5_readItem) (maxL := 2) (ret := (some .boolean)) (by decide) rfl ?_
  intro p e s m args below meth c s₁ B hml hv
  obtain ⟨rfl, hP, hK, hN⟩ := hv
  have hx := B.exec
  have hb := B.bytes
  have hr := B.returns
  have hts := atoms_spec (ws := wsX5_readItem) B.pre
  have hown : s.vm.findClass RX5 = some m.cls := findClass_of_methodNamed B.named
  have hlocks := B.notSynchronized
  have hin_X5 : ∀ w ∈ wsX50, w ∈ wsX5_readItem := fun _ w_h => (List.mem_cons_of_mem _ (List.mem_append_left _ (List.mem_append_right _ w_h)))
  have hin_X6 : ∀ w ∈ wsX60, w ∈ wsX5_readItem := fun _ w_h => (List.mem_cons_of_mem _ (List.mem_append_right _ w_h))
  have hl := lv_entry ([.ref (a 2), .ref (a to)]) (n := 2) (Nat.le_of_ble_eq_true rfl)
  rw [lg_entry_eq]
  generalize (lg_sl ([.ref (a 2), .ref (a to)]) ++ List.replicate (2 - (lg_sl ([.ref (a 2), .ref (a to)])).length) Slot.unset).toArray = ls at hl ⊢
  replace hl : lv_has ls 2 [(0, .ref (a 2)), (1, .ref (a to))] := hl
  have hD : va_D (cA a) (cW C a V) := cD_own hDD
  generalize hHe : s.heap = H at hP ⊢
  have hS : va_S (cA a) s.heap H [] := by rw [hHe]; exact va_S.rf
  generalize hlo : ([] : List Loc) = locs at hS ⊢
  clear hHe hlo
  obtain ⟨⟨r1, r2, r3, r4, r6⟩, r5⟩ := id hR
  have hH : rdH V := hR.1.h
  obtain ⟨d7, d8, d9⟩ := id hd
  have hto9 := hto
  unfold isTo at hto9
  refine lv_aload_n hx hb dX5_readItem_0 rfl (lv_at hl 0 rfl) ?_
  refine kq_get (i := 2) hx hb hts hin_X5 hown hK hP (by decide) (cE_2 rfl) rfl 3 (by decide) (hts (.fieldLink RX5 36 "WordFletchers$TextReader" "sort" "I") (List.mem_cons_of_mem _ (List.mem_append_left _ (List.mem_append_left _ (List.mem_append_left _ (List.mem_of_getElem? (i := 0) rfl)))))) rfl dX5_readItem_1 ?_
  refine lv_iconst (v := iZ 1) hx hb dX5_readItem_4 (by decide) ?_
  refine z_icmp_eq (x := (V 2 3)) (y := 1) (tgt := 10) hx hb (by omega) (by omega) dX5_readItem_5 (by decide) (fun c1 => ?_) (fun c1 => ?_)
  · refine W.eq (g2 := F0 m 10 ls []) rfl ?_
    refine lv_aload_n hx hb dX5_readItem_10 rfl (lv_at hl 0 rfl) ?_
    refine kq_get (i := 2) hx hb hts hin_X5 hown hK hP (by decide) (cE_2 rfl) rfl 5 (by decide) (hts (.fieldLink RX5 46 "WordFletchers$TextReader" "value" "I") (List.mem_cons_of_mem _ (List.mem_append_left _ (List.mem_append_left _ (List.mem_append_left _ (List.mem_of_getElem? (i := 1) rfl)))))) rfl dX5_readItem_11 ?_
    by_cases c2 : (V 2 5) = 102
    · refine lv_lookup (off := 60) (tgt := 74) hx hb dX5_readItem_14 (by decide) (by rw [iZ_toInt (by omega), c2]; rfl) (by decide) ?_
      refine lv_aload_n hx hb dX5_readItem_74 rfl (lv_at hl 0 rfl) ?_
      refine lv_aload_n hx hb dX5_readItem_75 rfl (lv_at hl 1 rfl) ?_
      refine kq_cm (i := 2) (As := [.ref (a to)]) (rest := []) ⟨hx, hb, hml, hown, hts⟩ hK hP hN hD hS (by decide) (cE_2 rfl) rfl (K_X5_readFeathers l D C a b V to hto (by assumption) (by assumption) (hD.weaken (fun _ _ _ _ => trivial))) (cwV 1 hts gX5_readItem_X5_readFeathers rfl rfl rfl (by decide +kernel) ⟨Nat.le_of_ble_eq_true rfl, Nat.le_of_ble_eq_true rfl⟩) rfl rfl hl.1 (Nat.le_of_ble_eq_true rfl) ⟨Nat.le_of_ble_eq_true rfl, Nat.le_of_ble_eq_true rfl⟩ dX5_readItem_76 (fun H locs hP hD hS => ?_)
      obtain ⟨V3, hV3⟩ : ∃ z : Nat → Nat → Int, z = (f_fea V to) := ⟨_, rfl⟩
      rw [← hV3] at hP hD
      have hrb := r_fea_b V
      exact kq_retM hx hb hK hP hS hr (z_nbool (by first | omega | (split <;> omega))) (by unfold x_itm; first | (refine Eq.trans ?_ (congrArg Prod.snd (if_pos (by omega))).symm; rfl) | (refine Eq.trans ?_ (congrArg Prod.snd (if_neg (by omega))).symm; first | (refine Eq.trans ?_ (congrArg Prod.snd (if_pos (by omega))).symm; rfl) | (refine Eq.trans ?_ (congrArg Prod.snd (if_neg (by omega))).symm; first | (refine Eq.trans ?_ (congrArg Prod.snd (if_pos (by omega))).symm; rfl) | (refine Eq.trans ?_ (congrArg Prod.snd (if_neg (by omega))).symm; first | (refine Eq.trans ?_ (congrArg Prod.snd (if_pos (by omega))).symm; rfl) | (refine Eq.trans ?_ (congrArg Prod.snd (if_neg (by omega))).symm; first | (refine Eq.trans ?_ (congrArg Prod.snd (if_pos (by omega))).symm; rfl) | (refine Eq.trans ?_ (congrArg Prod.snd (if_neg (by omega))).symm; rfl)))))) (by unfold x_itm; first | (refine Eq.trans ?_ (congrArg Prod.fst (if_pos (by omega))).symm; first | assumption | rfl) | (refine Eq.trans ?_ (congrArg Prod.fst (if_neg (by omega))).symm; first | (refine Eq.trans ?_ (congrArg Prod.fst (if_pos (by omega))).symm; first | assumption | rfl) | (refine Eq.trans ?_ (congrArg Prod.fst (if_neg (by omega))).symm; first | (refine Eq.trans ?_ (congrArg Prod.fst (if_pos (by omega))).symm; first | assumption | rfl) | (refine Eq.trans ?_ (congrArg Prod.fst (if_neg (by omega))).symm; first | (refine Eq.trans ?_ (congrArg Prod.fst (if_pos (by omega))).symm; first | assumption | rfl) | (refine Eq.trans ?_ (congrArg Prod.fst (if_neg (by omega))).symm; first | (refine Eq.trans ?_ (congrArg Prod.fst (if_pos (by omega))).symm; first | assumption | rfl) | (refine Eq.trans ?_ (congrArg Prod.fst (if_neg (by omega))).symm; first | assumption | rfl)))))) dX5_readItem_79 hlocks
    by_cases c4 : (V 2 5) = 112
    · refine lv_lookup (off := 42) (tgt := 56) hx hb dX5_readItem_14 (by decide) (by rw [iZ_toInt (by omega), c4]; rfl) (by decide) ?_
      refine lv_aload_n hx hb dX5_readItem_56 rfl (lv_at hl 0 rfl) ?_
      refine lv_aload_n hx hb dX5_readItem_57 rfl (lv_at hl 1 rfl) ?_
      refine kq_cm (i := 2) (As := [.ref (a to)]) (rest := []) ⟨hx, hb, hml, hown, hts⟩ hK hP hN hD hS (by decide) (cE_2 rfl) rfl (K_X5_readOne l D C a b V to hto (by assumption) (by assumption) (hD.weaken (fun _ _ _ _ => trivial))) (cwV 1 hts gX5_readItem_X5_readOne rfl rfl rfl (by decide +kernel) ⟨Nat.le_of_ble_eq_true rfl, Nat.le_of_ble_eq_true rfl⟩) rfl rfl hl.1 (Nat.le_of_ble_eq_true rfl) ⟨Nat.le_of_ble_eq_true rfl, Nat.le_of_ble_eq_true rfl⟩ dX5_readItem_58 (fun H locs hP hD hS => ?_)
      obtain ⟨V5, hV5⟩ : ∃ z : Nat → Nat → Int, z = (f_one V to) := ⟨_, rfl⟩
      rw [← hV5] at hP hD
      have hrb := r_one_b V to
      exact kq_retM hx hb hK hP hS hr (z_nbool (by first | omega | (split <;> omega))) (by unfold x_itm; first | (refine Eq.trans ?_ (congrArg Prod.snd (if_pos (by omega))).symm; rfl) | (refine Eq.trans ?_ (congrArg Prod.snd (if_neg (by omega))).symm; first | (refine Eq.trans ?_ (congrArg Prod.snd (if_pos (by omega))).symm; rfl) | (refine Eq.trans ?_ (congrArg Prod.snd (if_neg (by omega))).symm; first | (refine Eq.trans ?_ (congrArg Prod.snd (if_pos (by omega))).symm; rfl) | (refine Eq.trans ?_ (congrArg Prod.snd (if_neg (by omega))).symm; first | (refine Eq.trans ?_ (congrArg Prod.snd (if_pos (by omega))).symm; rfl) | (refine Eq.trans ?_ (congrArg Prod.snd (if_neg (by omega))).symm; first | (refine Eq.trans ?_ (congrArg Prod.snd (if_pos (by omega))).symm; rfl) | (refine Eq.trans ?_ (congrArg Prod.snd (if_neg (by omega))).symm; rfl)))))) (by unfold x_itm; first | (refine Eq.trans ?_ (congrArg Prod.fst (if_pos (by omega))).symm; first | assumption | rfl) | (refine Eq.trans ?_ (congrArg Prod.fst (if_neg (by omega))).symm; first | (refine Eq.trans ?_ (congrArg Prod.fst (if_pos (by omega))).symm; first | assumption | rfl) | (refine Eq.trans ?_ (congrArg Prod.fst (if_neg (by omega))).symm; first | (refine Eq.trans ?_ (congrArg Prod.fst (if_pos (by omega))).symm; first | assumption | rfl) | (refine Eq.trans ?_ (congrArg Prod.fst (if_neg (by omega))).symm; first | (refine Eq.trans ?_ (congrArg Prod.fst (if_pos (by omega))).symm; first | assumption | rfl) | (refine Eq.trans ?_ (congrArg Prod.fst (if_neg (by omega))).symm; first | (refine Eq.trans ?_ (congrArg Prod.fst (if_pos (by omega))).symm; first | assumption | rfl) | (refine Eq.trans ?_ (congrArg Prod.fst (if_neg (by omega))).symm; first | assumption | rfl)))))) dX5_readItem_61 hlocks
    by_cases c6 : (V 2 5) = 115
    · refine lv_lookup (off := 48) (tgt := 62) hx hb dX5_readItem_14 (by decide) (by rw [iZ_toInt (by omega), c6]; rfl) (by decide) ?_
      refine lv_aload_n hx hb dX5_readItem_62 rfl (lv_at hl 0 rfl) ?_
      refine W.eq (g2 := F0 m 63 ls [.ref (a 2)]) rfl ?_
      refine lv_aload_n hx hb dX5_readItem_63 rfl (lv_at hl 1 rfl) ?_
      refine kq_cm (i := 2) (As := [.ref (a to)]) (rest := []) ⟨hx, hb, hml, hown, hts⟩ hK hP hN hD hS (by decide) (cE_2 rfl) rfl (K_X5_readSaying l D C a b V to hto (by assumption) (by assumption) (hD.weaken (fun _ _ _ _ => trivial))) (cwV 1 hts gX5_readItem_X5_readSaying rfl rfl rfl (by decide +kernel) ⟨Nat.le_of_ble_eq_true rfl, Nat.le_of_ble_eq_true rfl⟩) rfl rfl hl.1 (Nat.le_of_ble_eq_true rfl) ⟨Nat.le_of_ble_eq_true rfl, Nat.le_of_ble_eq_true rfl⟩ dX5_readItem_64 (fun H locs hP hD hS => ?_)
      obtain ⟨V7, hV7⟩ : ∃ z : Nat → Nat → Int, z = (f_say V to) := ⟨_, rfl⟩
      rw [← hV7] at hP hD
      have hrb := r_say_b V to
      exact kq_retM hx hb hK hP hS hr (z_nbool (by first | omega | (split <;> omega))) (by unfold x_itm; first | (refine Eq.trans ?_ (congrArg Prod.snd (if_pos (by omega))).symm; rfl) | (refine Eq.trans ?_ (congrArg Prod.snd (if_neg (by omega))).symm; first | (refine Eq.trans ?_ (congrArg Prod.snd (if_pos (by omega))).symm; rfl) | (refine Eq.trans ?_ (congrArg Prod.snd (if_neg (by omega))).symm; first | (refine Eq.trans ?_ (congrArg Prod.snd (if_pos (by omega))).symm; rfl) | (refine Eq.trans ?_ (congrArg Prod.snd (if_neg (by omega))).symm; first | (refine Eq.trans ?_ (congrArg Prod.snd (if_pos (by omega))).symm; rfl) | (refine Eq.trans ?_ (congrArg Prod.snd (if_neg (by omega))).symm; first | (refine Eq.trans ?_ (congrArg Prod.snd (if_pos (by omega))).symm; rfl) | (refine Eq.trans ?_ (congrArg Prod.snd (if_neg (by omega))).symm; rfl)))))) (by unfold x_itm; first | (refine Eq.trans ?_ (congrArg Prod.fst (if_pos (by omega))).symm; first | assumption | rfl) | (refine Eq.trans ?_ (congrArg Prod.fst (if_neg (by omega))).symm; first | (refine Eq.trans ?_ (congrArg Prod.fst (if_pos (by omega))).symm; first | assumption | rfl) | (refine Eq.trans ?_ (congrArg Prod.fst (if_neg (by omega))).symm; first | (refine Eq.trans ?_ (congrArg Prod.fst (if_pos (by omega))).symm; first | assumption | rfl) | (refine Eq.trans ?_ (congrArg Prod.fst (if_neg (by omega))).symm; first | (refine Eq.trans ?_ (congrArg Prod.fst (if_pos (by omega))).symm; first | assumption | rfl) | (refine Eq.trans ?_ (congrArg Prod.fst (if_neg (by omega))).symm; first | (refine Eq.trans ?_ (congrArg Prod.fst (if_pos (by omega))).symm; first | assumption | rfl) | (refine Eq.trans ?_ (congrArg Prod.fst (if_neg (by omega))).symm; first | assumption | rfl)))))) dX5_readItem_67 hlocks
    by_cases c8 : (V 2 5) = 119
    · refine lv_lookup (off := 54) (tgt := 68) hx hb dX5_readItem_14 (by decide) (by rw [iZ_toInt (by omega), c8]; rfl) (by decide) ?_
      refine lv_aload_n hx hb dX5_readItem_68 rfl (lv_at hl 0 rfl) ?_
      refine lv_aload_n hx hb dX5_readItem_69 rfl (lv_at hl 1 rfl) ?_
      refine kq_cm (i := 2) (As := [.ref (a to)]) (rest := []) ⟨hx, hb, hml, hown, hts⟩ hK hP hN hD hS (by decide) (cE_2 rfl) rfl (K_X5_readWinds l D C a b V to hto (by assumption) (by assumption) (hD.weaken (fun _ _ _ _ => trivial))) (cwV 1 hts gX5_readItem_X5_readWinds rfl rfl rfl (by decide +kernel) ⟨Nat.le_of_ble_eq_true rfl, Nat.le_of_ble_eq_true rfl⟩) rfl rfl hl.1 (Nat.le_of_ble_eq_true rfl) ⟨Nat.le_of_ble_eq_true rfl, Nat.le_of_ble_eq_true rfl⟩ dX5_readItem_70 (fun H locs hP hD hS => ?_)
      obtain ⟨V9, hV9⟩ : ∃ z : Nat → Nat → Int, z = ((x_win V to).1) := ⟨_, rfl⟩
      rw [← hV9] at hP hD
      have hrb := x_win_b V to
      exact kq_retM hx hb hK hP hS hr (z_nbool (by first | omega | (split <;> omega))) (by unfold x_itm; first | (refine Eq.trans ?_ (congrArg Prod.snd (if_pos (by omega))).symm; rfl) | (refine Eq.trans ?_ (congrArg Prod.snd (if_neg (by omega))).symm; first | (refine Eq.trans ?_ (congrArg Prod.snd (if_pos (by omega))).symm; rfl) | (refine Eq.trans ?_ (congrArg Prod.snd (if_neg (by omega))).symm; first | (refine Eq.trans ?_ (congrArg Prod.snd (if_pos (by omega))).symm; rfl) | (refine Eq.trans ?_ (congrArg Prod.snd (if_neg (by omega))).symm; first | (refine Eq.trans ?_ (congrArg Prod.snd (if_pos (by omega))).symm; rfl) | (refine Eq.trans ?_ (congrArg Prod.snd (if_neg (by omega))).symm; first | (refine Eq.trans ?_ (congrArg Prod.snd (if_pos (by omega))).symm; rfl) | (refine Eq.trans ?_ (congrArg Prod.snd (if_neg (by omega))).symm; rfl)))))) (by unfold x_itm; first | (refine Eq.trans ?_ (congrArg Prod.fst (if_pos (by omega))).symm; first | assumption | rfl) | (refine Eq.trans ?_ (congrArg Prod.fst (if_neg (by omega))).symm; first | (refine Eq.trans ?_ (congrArg Prod.fst (if_pos (by omega))).symm; first | assumption | rfl) | (refine Eq.trans ?_ (congrArg Prod.fst (if_neg (by omega))).symm; first | (refine Eq.trans ?_ (congrArg Prod.fst (if_pos (by omega))).symm; first | assumption | rfl) | (refine Eq.trans ?_ (congrArg Prod.fst (if_neg (by omega))).symm; first | (refine Eq.trans ?_ (congrArg Prod.fst (if_pos (by omega))).symm; first | assumption | rfl) | (refine Eq.trans ?_ (congrArg Prod.fst (if_neg (by omega))).symm; first | (refine Eq.trans ?_ (congrArg Prod.fst (if_pos (by omega))).symm; first | assumption | rfl) | (refine Eq.trans ?_ (congrArg Prod.fst (if_neg (by omega))).symm; first | assumption | rfl)))))) dX5_readItem_73 hlocks
    refine lv_lookup (off := 66) (tgt := 80) hx hb dX5_readItem_14 (by decide) (by rw [iZ_toInt (by omega)]; first | (simp [Op.lookupswitch.offset, Ne.symm c2, Ne.symm c4, Ne.symm c6, Ne.symm c8, c2, c4, c6, c8]; done) | (simp [Op.lookupswitch.offset, Ne.symm c2, Ne.symm c4, Ne.symm c6, Ne.symm c8, c2, c4, c6, c8]; rfl)) (by decide) ?_
    refine lv_iconst (v := iZ 0) hx hb dX5_readItem_80 (by decide) ?_
    exact kq_retM hx hb hK hP hS hr (z_nbool (by first | omega | (split <;> omega))) (by unfold x_itm; first | (refine Eq.trans ?_ (congrArg Prod.snd (if_pos (by omega))).symm; rfl) | (refine Eq.trans ?_ (congrArg Prod.snd (if_neg (by omega))).symm; first | (refine Eq.trans ?_ (congrArg Prod.snd (if_pos (by omega))).symm; rfl) | (refine Eq.trans ?_ (congrArg Prod.snd (if_neg (by omega))).symm; first | (refine Eq.trans ?_ (congrArg Prod.snd (if_pos (by omega))).symm; rfl) | (refine Eq.trans ?_ (congrArg Prod.snd (if_neg (by omega))).symm; first | (refine Eq.trans ?_ (congrArg Prod.snd (if_pos (by omega))).symm; rfl) | (refine Eq.trans ?_ (congrArg Prod.snd (if_neg (by omega))).symm; first | (refine Eq.trans ?_ (congrArg Prod.snd (if_pos (by omega))).symm; rfl) | (refine Eq.trans ?_ (congrArg Prod.snd (if_neg (by omega))).symm; rfl)))))) (by unfold x_itm; first | (refine Eq.trans ?_ (congrArg Prod.fst (if_pos (by omega))).symm; first | assumption | rfl) | (refine Eq.trans ?_ (congrArg Prod.fst (if_neg (by omega))).symm; first | (refine Eq.trans ?_ (congrArg Prod.fst (if_pos (by omega))).symm; first | assumption | rfl) | (refine Eq.trans ?_ (congrArg Prod.fst (if_neg (by omega))).symm; first | (refine Eq.trans ?_ (congrArg Prod.fst (if_pos (by omega))).symm; first | assumption | rfl) | (refine Eq.trans ?_ (congrArg Prod.fst (if_neg (by omega))).symm; first | (refine Eq.trans ?_ (congrArg Prod.fst (if_pos (by omega))).symm; first | assumption | rfl) | (refine Eq.trans ?_ (congrArg Prod.fst (if_neg (by omega))).symm; first | (refine Eq.trans ?_ (congrArg Prod.fst (if_pos (by omega))).symm; first | assumption | rfl) | (refine Eq.trans ?_ (congrArg Prod.fst (if_neg (by omega))).symm; first | assumption | rfl)))))) dX5_readItem_81 hlocks
  · refine lv_iconst (v := iZ 0) hx hb dX5_readItem_8 (by decide) ?_
    exact kq_retM hx hb hK hP hS hr (z_nbool (by first | omega | (split <;> omega))) (by unfold x_itm; first | (refine Eq.trans ?_ (congrArg Prod.snd (if_pos (by omega))).symm; rfl) | (refine Eq.trans ?_ (congrArg Prod.snd (if_neg (by omega))).symm; first | (refine Eq.trans ?_ (congrArg Prod.snd (if_pos (by omega))).symm; rfl) | (refine Eq.trans ?_ (congrArg Prod.snd (if_neg (by omega))).symm; first | (refine Eq.trans ?_ (congrArg Prod.snd (if_pos (by omega))).symm; rfl) | (refine Eq.trans ?_ (congrArg Prod.snd (if_neg (by omega))).symm; first | (refine Eq.trans ?_ (congrArg Prod.snd (if_pos (by omega))).symm; rfl) | (refine Eq.trans ?_ (congrArg Prod.snd (if_neg (by omega))).symm; first | (refine Eq.trans ?_ (congrArg Prod.snd (if_pos (by omega))).symm; rfl) | (refine Eq.trans ?_ (congrArg Prod.snd (if_neg (by omega))).symm; rfl)))))) (by unfold x_itm; first | (refine Eq.trans ?_ (congrArg Prod.fst (if_pos (by omega))).symm; first | assumption | rfl) | (refine Eq.trans ?_ (congrArg Prod.fst (if_neg (by omega))).symm; first | (refine Eq.trans ?_ (congrArg Prod.fst (if_pos (by omega))).symm; first | assumption | rfl) | (refine Eq.trans ?_ (congrArg Prod.fst (if_neg (by omega))).symm; first | (refine Eq.trans ?_ (congrArg Prod.fst (if_pos (by omega))).symm; first | assumption | rfl) | (refine Eq.trans ?_ (congrArg Prod.fst (if_neg (by omega))).symm; first | (refine Eq.trans ?_ (congrArg Prod.fst (if_pos (by omega))).symm; first | assumption | rfl) | (refine Eq.trans ?_ (congrArg Prod.fst (if_neg (by omega))).symm; first | (refine Eq.trans ?_ (congrArg Prod.fst (if_pos (by omega))).symm; first | assumption | rfl) | (refine Eq.trans ?_ (congrArg Prod.fst (if_neg (by omega))).symm; first | assumption | rfl)))))) dX5_readItem_9 hlocks
