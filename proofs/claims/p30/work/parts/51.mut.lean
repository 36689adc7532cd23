set_option maxHeartbeats 4000000 in
set_option maxRecDepth 100000 in
theorem C_type (l : Launch) (D : va_G) (C : mC) (h : Nat) (a : Nat → Nat) (M : Nat → Nat → Int) (cc : Int) (hI : mI M) (h1 : -2147483648 ≤ cc ∧ cc < 2147483648) (hN : va_D (fun _ => True) (mW C h a M)) : Met l yX8_type wsX8_type ({ frames := 1, cells := 0, slots := 0, locals := 22 }) (va_Pc [.ref h, .int (iZ cc)] (mOk D C h a M)) (va_Qi (fun r (_ : Unit) => r = iZ (s_type M cc)) (fun _ t => mOk D C h a (f_type M cc) t) (mA h a)) 0 0 (mA h a) := by
  refine Met.ofW (cc := cX8_type) (maxL := 2) (ret := (some .int)) (by decide) rfl ?_
  intro p e s m args below meth c s₁ B hml hv
  obtain ⟨rfl, hP, hK⟩ := hv
  have hx := B.exec
  have hb := B.bytes
  have hr := B.returns
  have hts := atoms_spec (ws := wsX8_type) B.pre
  have hown : s.vm.findClass RX8 = some m.cls := findClass_of_methodNamed B.named
  have hlocks := B.notSynchronized
  have hin : ∀ w ∈ wsX80, w ∈ wsX8_type := fun _ w_h => (List.mem_cons_of_mem _ (List.mem_append_right _ w_h))
  have hl := lv_entry ([.ref h, .int (iZ cc)]) (n := 2) (Nat.le_of_ble_eq_true rfl)
  rw [lg_entry_eq]
  generalize (lg_sl ([.ref h, .int (iZ cc)]) ++ List.replicate (2 - (lg_sl ([.ref h, .int (iZ cc)])).length) Slot.unset).toArray = ls at hl ⊢
  replace hl : lv_has ls 2 [(0, .ref h), (1, .int (iZ cc))] := hl
  have hD : va_D (mA h a) (mW C h a M) := mD_own hN
  have hA : ∀ q, mA h a q → mA h a q := fun _ h9 => h9
  generalize hHe : s.heap = H at hP ⊢
  have hS : va_S (mA h a) s.heap H [] := by rw [hHe]; exact va_S.rf
  generalize hlo : ([] : List Loc) = locs at hS ⊢
  clear hHe hlo
  have hnw := mI_now hI
  refine lv_iload_n hx hb dX8_type_0 rfl (lv_at hl 1 rfl) ?_
  refine lv_iconst (v := iZ 0) hx hb dX8_type_1 (by decide) ?_
  refine lv_sipush (v := iZ 255) hx hb dX8_type_2 (by decide) ?_
  refine mq_cs (As := [.int (iZ cc), .int (iZ 0), .int (iZ 255)]) (rest := []) ⟨hx, hb, hml, hown, hts⟩ (C_in l cc 0 255 (by omega) (by omega) (by omega)) (va_cwS 3 hts gX8_type_X8_in rfl rfl rfl (by decide +kernel) ⟨Nat.le_of_ble_eq_true rfl, Nat.le_of_ble_eq_true rfl⟩) rfl rfl hl.1 (Nat.le_of_ble_eq_true rfl) ⟨Nat.le_of_ble_eq_true rfl, Nat.le_of_ble_eq_true rfl⟩ dX8_type_5 ?_
  refine z_ifb_ne (P := (0 ≤ cc ∧ cc ≤ 255)) (tgt := 13) hx hb dX8_type_8 (by decide) (fun c1 => ?_) (fun c1 => ?_)
  · refine lv_aload_n hx hb dX8_type_13 rfl (lv_at hl 0 rfl) ?_
    refine mq_get hx hb hts hin hown hK hP 1 (by decide) (hts (.fieldLink RX8 76 "WordFletchersModel" "typed" "I") (List.mem_cons_of_mem _ (List.mem_append_left _ (List.mem_of_getElem? (i := 0) rfl)))) rfl dX8_type_14 ?_
    refine lv_bipush (v := iZ 120) hx hb dX8_type_17 (by decide) ?_
    refine z_icmp_ne (x := (M 1 0)) (y := 120) (tgt := 25) hx hb (by omega) (by omega) dX8_type_19 (by decide) (fun c2 => ?_) (fun c2 => ?_)
    · refine W.eq (g2 := F0 m 25 ls []) rfl ?_
      refine lv_aload_n hx hb dX8_type_25 rfl (lv_at hl 0 rfl) ?_
      refine mq_get hx hb hts hin hown hK hP 0 (by decide) (hts (.fieldLink RX8 7 "WordFletchersModel" "text" "[B") (List.mem_cons_of_mem _ (List.mem_append_left _ (List.mem_of_getElem? (i := 1) rfl)))) rfl dX8_type_26 ?_
      refine lv_aload_n hx hb dX8_type_29 rfl (lv_at hl 0 rfl) ?_
      refine mq_get hx hb hts hin hown hK hP 1 (by decide) (hts (.fieldLink RX8 76 "WordFletchersModel" "typed" "I") (List.mem_cons_of_mem _ (List.mem_append_left _ (List.mem_of_getElem? (i := 0) rfl)))) rfl dX8_type_30 ?_
      refine lv_iload_n hx hb dX8_type_33 rfl (lv_at hl 1 rfl) ?_
      refine z_i2b hx hb (by omega) dX8_type_34 ?_
      refine mq_bast hx hb hK hP hD hS 0 1 (n := 120) rfl (fun k9 => mS_0 C h a _ k9 _) (by decide) (Int.toNat (M 1 0)) rfl (by omega) (iZ_nb (by (try unfold zsb); (try split); all_goals omega)) dX8_type_35 (fun H locs hP hD hS => ?_)
      obtain ⟨M3, hM3⟩ : ∃ z : Nat → Nat → Int, z = (mU M 0 (Int.toNat (M 1 0)) (zsb cc)) := ⟨_, rfl⟩
      rw [← hM3] at hP hD
      refine lv_aload_n hx hb dX8_type_36 rfl (lv_at hl 0 rfl) ?_
      refine lv_dup hx hb dX8_type_37 rfl ?_
      refine mq_get hx hb hts hin hown hK hP 1 (by decide) (hts (.fieldLink RX8 76 "WordFletchersModel" "typed" "I") (List.mem_cons_of_mem _ (List.mem_append_left _ (List.mem_of_getElem? (i := 0) rfl)))) rfl dX8_type_38 ?_
      refine lv_iconst (v := iZ 1) hx hb dX8_type_41 (by decide) ?_
      refine z_iadd hx hb dX8_type_42 ?_
      refine W.eq (g2 := F0 m 43 ls [.int (iZ ((M3 1 0) + 1)), .ref h]) rfl ?_
      refine mq_put (ty := .int) hx hb hts hin hown hK hP hD hS 1 (by decide) (hts (.fieldLink RX8 76 "WordFletchersModel" "typed" "I") (List.mem_cons_of_mem _ (List.mem_append_left _ (List.mem_of_getElem? (i := 0) rfl)))) rfl (by decide +kernel) rfl rfl (mS_1 C h a _ _) dX8_type_43 (fun H locs hP hD hS => ?_)
      obtain ⟨M4, hM4⟩ : ∃ z : Nat → Nat → Int, z = (mU M3 1 0 ((M3 1 0) + 1)) := ⟨_, rfl⟩
      rw [← hM4] at hP hD
      refine lv_aload_n hx hb dX8_type_46 rfl (lv_at hl 0 rfl) ?_
      refine mq_get hx hb hts hin hown hK hP 1 (by decide) (hts (.fieldLink RX8 76 "WordFletchersModel" "typed" "I") (List.mem_cons_of_mem _ (List.mem_append_left _ (List.mem_of_getElem? (i := 0) rfl)))) rfl dX8_type_47 ?_
      exact mq_retM hx hb hK hP hS hr rfl (by subst_vars; unfold s_type; first | rfl | omega | (rw [if_pos (by omega)] <;> (first | rfl | omega | (rw [if_pos (by omega)] <;> (first | rfl | omega)) | (rw [if_neg (by omega)] <;> (first | rfl | omega)))) | (rw [if_neg (by omega)] <;> (first | rfl | omega | (rw [if_pos (by omega)] <;> (first | rfl | omega)) | (rw [if_neg (by omega)] <;> (first | rfl | omega))))) (by subst_vars; unfold f_type; first | rfl | omega | (rw [if_pos (by omega)] <;> (first | rfl | omega | (rw [if_pos (by omega)] <;> (first | rfl | omega)) | (rw [if_neg (by omega)] <;> (first | rfl | omega)))) | (rw [if_neg (by omega)] <;> (first | rfl | omega | (rw [if_pos (by omega)] <;> (first | rfl | omega)) | (rw [if_neg (by omega)] <;> (first | rfl | omega))))) dX8_type_50 hlocks
    · refine lv_bipush (v := iZ (-3)) hx hb dX8_type_22 (by decide) ?_
      exact mq_retM hx hb hK hP hS hr rfl (by subst_vars; unfold s_type; first | rfl | omega | (rw [if_pos (by omega)] <;> (first | rfl | omega | (rw [if_pos (by omega)] <;> (first | rfl | omega)) | (rw [if_neg (by omega)] <;> (first | rfl | omega)))) | (rw [if_neg (by omega)] <;> (first | rfl | omega | (rw [if_pos (by omega)] <;> (first | rfl | omega)) | (rw [if_neg (by omega)] <;> (first | rfl | omega))))) (by subst_vars; unfold f_type; first | rfl | omega | (rw [if_pos (by omega)] <;> (first | rfl | omega | (rw [if_pos (by omega)] <;> (first | rfl | omega)) | (rw [if_neg (by omega)] <;> (first | rfl | omega)))) | (rw [if_neg (by omega)] <;> (first | rfl | omega | (rw [if_pos (by omega)] <;> (first | rfl | omega)) | (rw [if_neg (by omega)] <;> (first | rfl | omega))))) dX8_type_24 hlocks
  · refine lv_iconst (v := iZ (-1)) hx hb dX8_type_11 (by decide) ?_
    exact mq_retM hx hb hK hP hS hr rfl (by subst_vars; unfold s_type; first | rfl | omega | (rw [if_pos (by omega)] <;> (first | rfl | omega | (rw [if_pos (by omega)] <;> (first | rfl | omega)) | (rw [if_neg (by omega)] <;> (first | rfl | omega)))) | (rw [if_neg (by omega)] <;> (first | rfl | omega | (rw [if_pos (by omega)] <;> (first | rfl | omega)) | (rw [if_neg (by omega)] <;> (first | rfl | omega))))) (by subst_vars; unfold f_type; first | rfl | omega | (rw [if_pos (by omega)] <;> (first | rfl | omega | (rw [if_pos (by omega)] <;> (first | rfl | omega)) | (rw [if_neg (by omega)] <;> (first | rfl | omega)))) | (rw [if_neg (by omega)] <;> (first | rfl | omega | (rw [if_pos (by omega)] <;> (first | rfl | omega)) | (rw [if_neg (by omega)] <;> (first | rfl | omega))))) dX8_type_12 hlocks
set_option maxHeartbeats 4000000 in
set_option maxRecDepth 100000 in
theorem C_clear (l : Launch) (D : va_G) (C : mC) (h : Nat) (a : Nat → Nat) (M : Nat → Nat → Int) (hN : va_D (fun _ => True) (mW C h a M)) : Met l yX8_clear wsX8_clear ({ frames := 0, cells := 0, slots := 0, locals := 0 }) (va_Pc [.ref h] (mOk D C h a M)) (va_Qi (fun r (_ : Unit) => r = iZ (M 1 0)) (fun _ t => mOk D C h a (mU M 1 0 0) t) (mA h a)) 0 0 (mA h a) := by
  refine Met.ofW (cc := cX8_clear) (maxL := 2) (ret := (some .int)) (by decide) rfl ?_
  intro p e s m args below meth c s₁ B hml hv
  obtain ⟨rfl, hP, hK⟩ := hv
  have hx := B.exec
  have hb := B.bytes
  have hr := B.returns
  have hts := atoms_spec (ws := wsX8_clear) B.pre
  have hown : s.vm.findClass RX8 = some m.cls := findClass_of_methodNamed B.named
  have hlocks := B.notSynchronized
  have hin : ∀ w ∈ wsX80, w ∈ wsX8_clear := fun _ w_h => (List.mem_cons_of_mem _ (List.mem_append_right _ w_h))
  have hl := lv_entry ([.ref h]) (n := 2) (Nat.le_of_ble_eq_true rfl)
  rw [lg_entry_eq]
  generalize (lg_sl ([.ref h]) ++ List.replicate (2 - (lg_sl ([.ref h])).length) Slot.unset).toArray = ls at hl ⊢
  replace hl : lv_has ls 2 [(0, .ref h)] := hl
  have hD : va_D (mA h a) (mW C h a M) := mD_own hN
  have hA : ∀ q, mA h a q → mA h a q := fun _ h9 => h9
  generalize hHe : s.heap = H at hP ⊢
  have hS : va_S (mA h a) s.heap H [] := by rw [hHe]; exact va_S.rf
  generalize hlo : ([] : List Loc) = locs at hS ⊢
  clear hHe hlo
  refine lv_aload_n hx hb dX8_clear_0 rfl (lv_at hl 0 rfl) ?_
  refine mq_get hx hb hts hin hown hK hP 1 (by decide) (hts (.fieldLink RX8 76 "WordFletchersModel" "typed" "I") (List.mem_cons_of_mem _ (List.mem_append_left _ (List.mem_of_getElem? (i := 0) rfl)))) rfl dX8_clear_1 ?_
  refine lv_istore_n (lv' := [(1, .int (iZ (M 1 0))), (0, .ref h)]) hx hb dX8_clear_4 rfl hl (by decide) rfl (fun ls hl => ?_)
  refine lv_aload_n hx hb dX8_clear_5 rfl (lv_at hl 1 rfl) ?_
  refine W.eq (g2 := F0 m 6 ls [.ref h]) rfl ?_
  refine lv_iconst (v := iZ 0) hx hb dX8_clear_6 (by decide) ?_
  refine mq_put (ty := .int) hx hb hts hin hown hK hP hD hS 1 (by decide) (hts (.fieldLink RX8 76 "WordFletchersModel" "typed" "I") (List.mem_cons_of_mem _ (List.mem_append_left _ (List.mem_of_getElem? (i := 0) rfl)))) rfl (by decide +kernel) rfl rfl (mS_1 C h a _ _) dX8_clear_7 (fun H locs hP hD hS => ?_)
  obtain ⟨M1, hM1⟩ : ∃ z : Nat → Nat → Int, z = (mU M 1 0 0) := ⟨_, rfl⟩
  rw [← hM1] at hP hD
  refine lv_iload_n hx hb dX8_clear_10 rfl (lv_at hl 0 rfl) ?_
  exact mq_retM hx hb hK hP hS hr rfl rfl (by subst_vars; rfl) dX8_clear_11 hlocks
set_option maxHeartbeats 4000000 in
set_option maxRecDepth 100000 in
theorem C_know (l : Launch) (D : va_G) (C : mC) (h : Nat) (a : Nat → Nat) (M : Nat → Nat → Int) (hI : mI M) (hN : va_D (fun _ => True) (mW C h a M)) : Met l yX8_know wsX8_know ({ frames := 0, cells := 0, slots := 0, locals := 0 }) (va_Pc [.ref h] (mOk D C h a M)) (va_Qv (fun (_ : Unit) => True) (fun _ t => mOk D C h a (f_know M) t) (mA h a)) 0 0 (mA h a) := by
  refine Met.ofW (cc := cX8_know) (maxL := 2) (ret := none) (by decide) rfl ?_
  intro p e s m args below meth c s₁ B hml hv
  obtain ⟨rfl, hP, hK⟩ := hv
  have hx := B.exec
  have hb := B.bytes
  have hr := B.returns
  have hts := atoms_spec (ws := wsX8_know) B.pre
  have hown : s.vm.findClass RX8 = some m.cls := findClass_of_methodNamed B.named
  have hlocks := B.notSynchronized
  have hin : ∀ w ∈ wsX80, w ∈ wsX8_know := fun _ w_h => (List.mem_cons_of_mem _ (List.mem_append_right _ w_h))
  have hl := lv_entry ([.ref h]) (n := 2) (Nat.le_of_ble_eq_true rfl)
  rw [lg_entry_eq]
  generalize (lg_sl ([.ref h]) ++ List.replicate (2 - (lg_sl ([.ref h])).length) Slot.unset).toArray = ls at hl ⊢
  replace hl : lv_has ls 2 [(0, .ref h)] := hl
  have hD : va_D (mA h a) (mW C h a M) := mD_own hN
  have hA : ∀ q, mA h a q → mA h a q := fun _ h9 => h9
  generalize hHe : s.heap = H at hP ⊢
  have hS : va_S (mA h a) s.heap H [] := by rw [hHe]; exact va_S.rf
  generalize hlo : ([] : List Loc) = locs at hS ⊢
  clear hHe hlo
  have hnw := mI_now hI
  refine lv_aload_n hx hb dX8_know_0 rfl (lv_at hl 0 rfl) ?_
  refine mq_get hx hb hts hin hown hK hP 20 (by decide) (hts (.fieldLink RX8 47 "WordFletchersModel" "known" "[I") (List.mem_cons_of_mem _ (List.mem_append_left _ (List.mem_of_getElem? (i := 0) rfl)))) rfl dX8_know_1 ?_
  refine lv_iconst (v := iZ 0) hx hb dX8_know_4 (by decide) ?_
  refine mq_iald hx hb hK hP 20 13 (n := 3) rfl (by decide) 0 rfl (by omega) dX8_know_5 ?_
  refine lv_bipush (v := iZ 10) hx hb dX8_know_6 (by decide) ?_
  refine z_icmp_ne (x := (M 20 0)) (y := 10) (tgt := 51) hx hb (by omega) (by omega) dX8_know_8 (by decide) (fun c1 => ?_) (fun c1 => ?_)
  · refine lv_iconst (v := iZ 0) hx hb dX8_know_51 (by decide) ?_
    refine W.eq (g2 := F0 m 52 ls [.int (iZ 0)]) rfl ?_
    refine lv_istore_n (lv' := [(1, .int (iZ 0)), (0, .ref h)]) hx hb dX8_know_52 rfl hl (by decide) rfl (fun ls hl => ?_)
    replace hl : lv_has ls 2 [(1, .int (iZ (0 : Int))), (0, .ref h)] := lv_sub hl [0, 1] rfl
    replace hP := And.intro hP hS
    clear hS
    revert ls
    revert hP
    revert H locs
    refine z_loopH (σ := (Nat → Nat → Int) × Int) (fun x9 => (0 ≤ x9.2 ∧ x9.2 ≤ 29) ∧ (x9.1 = f_blk M 21 19 (29 * (M 20 0).toNat) (0) (Int.toNat x9.2))) (fun x9 H9 locs9 => va_P D vwCl (mW C h a (x9.1)) H9 ∧ va_S (mA h a) s.heap H9 locs9) (fun x9 => [(1, .int (iZ (x9.2))), (0, .ref h)]) 2 (fun x9 => (29 - x9.2).toNat) (M, (0 : Int)) ⟨(by show 0 ≤ (0 : Int) ∧ (0 : Int) ≤ 29; omega), (by show M = f_blk M 21 19 (29 * (M 20 0).toNat) (0) (Int.toNat (0 : Int)); exact (f_blk_0 _ _ _ _ _).symm)⟩ ?_
    rintro ⟨Mb, kk2⟩ hI9 ih53 H locs hPS ls hl
    have hP : va_P D vwCl (mW C h a Mb) H := hPS.1
    have hS : va_S (mA h a) s.heap H locs := hPS.2
    clear hPS
    have hD : va_D (mA h a) (mW C h a Mb) := mD_re hD
    obtain ⟨kba, kbb⟩ := hI9
    replace kba : 0 ≤ kk2 ∧ kk2 ≤ 29 := kba
    replace kbb : Mb = f_blk M 21 19 (29 * (M 20 0).toNat) (0) (Int.toNat kk2) := kbb
    replace hl : lv_has ls 2 [(1, .int (iZ kk2)), (0, .ref h)] := hl
    have e5 : Mb 20 0 = M 20 0 := by rw [kbb]; rfl
    refine lv_iload_n hx hb dX8_know_53 rfl (lv_at hl 0 rfl) ?_
    refine lv_bipush (v := iZ 29) hx hb dX8_know_54 (by decide) ?_
    refine z_icmp_ge (x := kk2) (y := 29) (tgt := 87) hx hb (by omega) (by omega) dX8_know_56 (by decide) (fun c6 => ?_) (fun c6 => ?_)
    · refine lv_aload_n hx hb dX8_know_87 rfl (lv_at hl 1 rfl) ?_
      refine mq_get hx hb hts hin hown hK hP 20 (by decide) (hts (.fieldLink RX8 47 "WordFletchersModel" "known" "[I") (List.mem_cons_of_mem _ (List.mem_append_left _ (List.mem_of_getElem? (i := 0) rfl)))) rfl dX8_know_88 ?_
      refine lv_iconst (v := iZ 0) hx hb dX8_know_91 (by decide) ?_
      refine W.eq (g2 := F0 m 92 ls [.int (iZ 0), .ref (a 20)]) rfl ?_
      refine lv_dup2_11 hx hb dX8_know_92 rfl rfl ?_
      refine mq_iald hx hb hK hP 20 13 (n := 3) rfl (by decide) 0 rfl (by omega) dX8_know_93 ?_
      refine lv_iconst (v := iZ 1) hx hb dX8_know_94 (by decide) ?_
      refine z_iadd hx hb dX8_know_95 ?_
      refine mq_iast hx hb hK hP hD hS 20 13 (n := 3) rfl (fun k9 => mS_20 C h a _ k9 _) (by decide) 0 rfl (by omega) dX8_know_96 (fun H locs hP hD hS => ?_)
      obtain ⟨M8, hM8⟩ : ∃ z : Nat → Nat → Int, z = (mU Mb 20 0 ((Mb 20 0) + 1)) := ⟨_, rfl⟩
      rw [← hM8] at hP hD
      exact mq_retV hx hb hK hP hS hr (by have q : kk2 = 29 := (by omega); subst q; unfold f_know; first | (have e : f_kn1 M = M := (if_neg (by omega)); rw [e]; subst_vars; rfl) | (have q2 : kk = 261 := (by omega); subst q2; have e : f_kn1 M = mU (f_blk M 21 21 0 29 261) 20 0 (f_blk M 21 21 0 29 261 20 0 - 1) := if_pos (by omega); rw [e]; subst_vars; rfl)) dX8_know_97 hlocks
    · refine lv_aload_n hx hb dX8_know_59 rfl (lv_at hl 1 rfl) ?_
      refine mq_get hx hb hts hin hown hK hP 21 (by decide) (hts (.fieldLink RX8 50 "WordFletchersModel" "before" "[I") (List.mem_cons_of_mem _ (List.mem_append_left _ (List.mem_of_getElem? (i := 1) rfl)))) rfl dX8_know_60 ?_
      refine lv_bipush (v := iZ 29) hx hb dX8_know_63 (by decide) ?_
      refine lv_aload_n hx hb dX8_know_65 rfl (lv_at hl 1 rfl) ?_
      refine mq_get hx hb hts hin hown hK hP 20 (by decide) (hts (.fieldLink RX8 47 "WordFletchersModel" "known" "[I") (List.mem_cons_of_mem _ (List.mem_append_left _ (List.mem_of_getElem? (i := 0) rfl)))) rfl dX8_know_66 ?_
      refine lv_iconst (v := iZ 0) hx hb dX8_know_69 (by decide) ?_
      refine W.eq (g2 := F0 m 70 ls [.int (iZ 0), .ref (a 20), .int (iZ 29), .ref (a 21)]) rfl ?_
      refine mq_iald hx hb hK hP 20 13 (n := 3) rfl (by decide) 0 rfl (by omega) dX8_know_70 ?_
      refine z_imul hx hb dX8_know_71 ?_
      refine lv_iload_n hx hb dX8_know_72 rfl (lv_at hl 0 rfl) ?_
      refine z_iadd hx hb dX8_know_73 ?_
      refine lv_aload_n hx hb dX8_know_74 rfl (lv_at hl 1 rfl) ?_
      refine mq_get hx hb hts hin hown hK hP 19 (by decide) (hts (.fieldLink RX8 44 "WordFletchersModel" "now" "[I") (List.mem_cons_of_mem _ (List.mem_append_left _ (List.mem_of_getElem? (i := 2) rfl)))) rfl dX8_know_75 ?_
      refine lv_iload_n hx hb dX8_know_78 rfl (lv_at hl 0 rfl) ?_
      refine mq_iald hx hb hK hP 19 12 (n := 29) rfl (by decide) (Int.toNat kk2) rfl (by omega) dX8_know_79 ?_
      refine mq_iast hx hb hK hP hD hS 21 14 (n := 870) rfl (fun k9 => mS_21 C h a _ k9 _) (by decide) (Int.toNat ((29 * (Mb 20 0)) + kk2)) rfl (by omega) dX8_know_80 (fun H locs hP hD hS => ?_)
      obtain ⟨M9, hM9⟩ : ∃ z : Nat → Nat → Int, z = (mU Mb 21 (Int.toNat ((29 * (Mb 20 0)) + kk2)) (Mb 19 (Int.toNat kk2))) := ⟨_, rfl⟩
      rw [← hM9] at hP hD
      refine lv_iinc (v := iZ (kk2 + 1)) (lv' := [(1, .int (iZ (kk2 + 1))), (0, .ref h)]) hx hb dX8_know_81 hl (k := 0) rfl (iZ_add _ _) (by decide) rfl (fun ls hl => ?_)
      refine lv_goto (tgt := 53) hx hb dX8_know_84 (by decide) ?_
      exact ih53 (M9, (kk2 + 1)) ⟨(by show 0 ≤ (kk2 + 1) ∧ (kk2 + 1) ≤ 29; omega), (by show M9 = f_blk M 21 19 (29 * (M 20 0).toNat) (0) (Int.toNat (kk2 + 1)); rw [f_blk_step _ _ _ _ _ (by omega), ← kbb]; have q9 : Int.toNat (29 * Mb 20 0 + kk2) = (29 * (M 20 0).toNat) + Int.toNat kk2 := (by omega); have q7 : Int.toNat (kk2) = (0) + Int.toNat kk2 := (by omega); have q8 : Mb 19 (Int.toNat (kk2)) = M 19 ((0) + Int.toNat kk2) := (by have r9 := f_blk_rd (M := M) (F := 21) (G := 19) (d := 29 * (M 20 0).toNat) (s := 0) (k := Int.toNat kk2) (i := Int.toNat kk2) (by omega); rw [← kbb] at r9; exact (congrArg (Mb 19) q7).trans r9); rw [← q9, ← q8]; assumption)⟩ (by show (29 - (kk2 + 1)).toNat < (29 - kk2).toNat; omega) H locs ⟨hP, hS⟩ ls (lv_sub hl [0, 1] rfl)
  · refine lv_iconst (v := iZ 0) hx hb dX8_know_11 (by decide) ?_
    refine W.eq (g2 := F0 m 12 ls [.int (iZ 0)]) rfl ?_
    refine lv_istore_n (lv' := [(1, .int (iZ 0)), (0, .ref h)]) hx hb dX8_know_12 rfl hl (by decide) rfl (fun ls hl => ?_)
    replace hl : lv_has ls 2 [(1, .int (iZ (0 : Int))), (0, .ref h)] := lv_sub hl [0, 1] rfl
    replace hP := And.intro hP hS
    clear hS
    revert ls
    revert hP
    revert H locs
    refine z_loopH (σ := (Nat → Nat → Int) × Int) (fun x9 => (0 ≤ x9.2 ∧ x9.2 ≤ 261) ∧ (x9.1 = f_blk M 21 21 (0) (29) (Int.toNat x9.2))) (fun x9 H9 locs9 => va_P D vwCl (mW C h a (x9.1)) H9 ∧ va_S (mA h a) s.heap H9 locs9) (fun x9 => [(1, .int (iZ (x9.2))), (0, .ref h)]) 2 (fun x9 => (261 - x9.2).toNat) (M, (0 : Int)) ⟨(by show 0 ≤ (0 : Int) ∧ (0 : Int) ≤ 261; omega), (by show M = f_blk M 21 21 (0) (29) (Int.toNat (0 : Int)); exact (f_blk_0 _ _ _ _ _).symm)⟩ ?_
    rintro ⟨Ma, kk⟩ hI9 ih13 H locs hPS ls hl
    have hP : va_P D vwCl (mW C h a Ma) H := hPS.1
    have hS : va_S (mA h a) s.heap H locs := hPS.2
    clear hPS
    have hD : va_D (mA h a) (mW C h a Ma) := mD_re hD
    obtain ⟨kaa, kab⟩ := hI9
    replace kaa : 0 ≤ kk ∧ kk ≤ 261 := kaa
    replace kab : Ma = f_blk M 21 21 (0) (29) (Int.toNat kk) := kab
    replace hl : lv_has ls 2 [(1, .int (iZ kk)), (0, .ref h)] := hl
    refine lv_iload_n hx hb dX8_know_13 rfl (lv_at hl 0 rfl) ?_
    refine lv_sipush (v := iZ 261) hx hb dX8_know_14 (by decide) ?_
    refine z_icmp_ge (x := kk) (y := 261) (tgt := 41) hx hb (by omega) (by omega) dX8_know_17 (by decide) (fun c10 => ?_) (fun c10 => ?_)
    · refine lv_aload_n hx hb dX8_know_41 rfl (lv_at hl 1 rfl) ?_
      refine mq_get hx hb hts hin hown hK hP 20 (by decide) (hts (.fieldLink RX8 47 "WordFletchersModel" "known" "[I") (List.mem_cons_of_mem _ (List.mem_append_left _ (List.mem_of_getElem? (i := 0) rfl)))) rfl dX8_know_42 ?_
      refine lv_iconst (v := iZ 0) hx hb dX8_know_45 (by decide) ?_
      refine lv_dup2_11 hx hb dX8_know_46 rfl rfl ?_
      refine mq_iald hx hb hK hP 20 13 (n := 3) rfl (by decide) 0 rfl (by omega) dX8_know_47 ?_
      refine lv_iconst (v := iZ 1) hx hb dX8_know_48 (by decide) ?_
      refine z_isub hx hb dX8_know_49 ?_
      refine mq_iast hx hb hK hP hD hS 20 13 (n := 3) rfl (fun k9 => mS_20 C h a _ k9 _) (by decide) 0 rfl (by omega) dX8_know_50 (fun H locs hP hD hS => ?_)
      obtain ⟨M12, hM12⟩ : ∃ z : Nat → Nat → Int, z = (mU Ma 20 0 ((Ma 20 0) - 1)) := ⟨_, rfl⟩
      rw [← hM12] at hP hD
      have e4 : M12 20 0 = 9 := by rw [hM12]; show Ma 20 0 - 1 = 9; rw [kab]; show M 20 0 - 1 = 9; omega
      refine W.eq (g2 := F0 m 51 ls []) rfl ?_
      refine lv_iconst (v := iZ 0) hx hb dX8_know_51 (by decide) ?_
      refine lv_istore_n (lv' := [(1, .int (iZ 0)), (0, .ref h)]) hx hb dX8_know_52 rfl hl (by decide) rfl (fun ls hl => ?_)
      replace hl : lv_has ls 2 [(1, .int (iZ (0 : Int))), (0, .ref h)] := lv_sub hl [0, 1] rfl
      replace hP := And.intro hP hS
      clear hS
      revert ls
      revert hP
      revert H locs
      refine z_loopH (σ := (Nat → Nat → Int) × Int) (fun x9 => (0 ≤ x9.2 ∧ x9.2 ≤ 29) ∧ (x9.1 = f_blk M12 21 19 (29 * (M12 20 0).toNat) (0) (Int.toNat x9.2))) (fun x9 H9 locs9 => va_P D vwCl (mW C h a (x9.1)) H9 ∧ va_S (mA h a) s.heap H9 locs9) (fun x9 => [(1, .int (iZ (x9.2))), (0, .ref h)]) 2 (fun x9 => (29 - x9.2).toNat) (M12, (0 : Int)) ⟨(by show 0 ≤ (0 : Int) ∧ (0 : Int) ≤ 29; omega), (by show M12 = f_blk M12 21 19 (29 * (M12 20 0).toNat) (0) (Int.toNat (0 : Int)); exact (f_blk_0 _ _ _ _ _).symm)⟩ ?_
      rintro ⟨Mb, kk2⟩ hI9 ih53 H locs hPS ls hl
      have hP : va_P D vwCl (mW C h a Mb) H := hPS.1
      have hS : va_S (mA h a) s.heap H locs := hPS.2
      clear hPS
      have hD : va_D (mA h a) (mW C h a Mb) := mD_re hD
      obtain ⟨kba, kbb⟩ := hI9
      replace kba : 0 ≤ kk2 ∧ kk2 ≤ 29 := kba
      replace kbb : Mb = f_blk M12 21 19 (29 * (M12 20 0).toNat) (0) (Int.toNat kk2) := kbb
      replace hl : lv_has ls 2 [(1, .int (iZ kk2)), (0, .ref h)] := hl
      have e5 : Mb 20 0 = M12 20 0 := by rw [kbb]; rfl
      refine lv_iload_n hx hb dX8_know_53 rfl (lv_at hl 0 rfl) ?_
      refine lv_bipush (v := iZ 29) hx hb dX8_know_54 (by decide) ?_
      refine z_icmp_ge (x := kk2) (y := 29) (tgt := 87) hx hb (by omega) (by omega) dX8_know_56 (by decide) (fun c13 => ?_) (fun c13 => ?_)
      · refine lv_aload_n hx hb dX8_know_87 rfl (lv_at hl 1 rfl) ?_
        refine mq_get hx hb hts hin hown hK hP 20 (by decide) (hts (.fieldLink RX8 47 "WordFletchersModel" "known" "[I") (List.mem_cons_of_mem _ (List.mem_append_left _ (List.mem_of_getElem? (i := 0) rfl)))) rfl dX8_know_88 ?_
        refine W.eq (g2 := F0 m 91 ls [.ref (a 20)]) rfl ?_
        refine lv_iconst (v := iZ 0) hx hb dX8_know_91 (by decide) ?_
        refine lv_dup2_11 hx hb dX8_know_92 rfl rfl ?_
        refine mq_iald hx hb hK hP 20 13 (n := 3) rfl (by decide) 0 rfl (by omega) dX8_know_93 ?_
        refine lv_iconst (v := iZ 1) hx hb dX8_know_94 (by decide) ?_
        refine z_iadd hx hb dX8_know_95 ?_
        refine mq_iast hx hb hK hP hD hS 20 13 (n := 3) rfl (fun k9 => mS_20 C h a _ k9 _) (by decide) 0 rfl (by omega) dX8_know_96 (fun H locs hP hD hS => ?_)
        obtain ⟨M15, hM15⟩ : ∃ z : Nat → Nat → Int, z = (mU Mb 20 0 ((Mb 20 0) + 1)) := ⟨_, rfl⟩
        rw [← hM15] at hP hD
        exact mq_retV hx hb hK hP hS hr (by have q : kk2 = 29 := (by omega); subst q; unfold f_know; first | (have e : f_kn1 M = M := (if_neg (by omega)); rw [e]; subst_vars; rfl) | (have q2 : kk = 261 := (by omega); subst q2; have e : f_kn1 M = mU (f_blk M 21 21 0 29 261) 20 0 (f_blk M 21 21 0 29 261 20 0 - 1) := if_pos (by omega); rw [e]; subst_vars; rfl)) dX8_know_97 hlocks
      · refine lv_aload_n hx hb dX8_know_59 rfl (lv_at hl 1 rfl) ?_
        refine mq_get hx hb hts hin hown hK hP 21 (by decide) (hts (.fieldLink RX8 50 "WordFletchersModel" "before" "[I") (List.mem_cons_of_mem _ (List.mem_append_left _ (List.mem_of_getElem? (i := 1) rfl)))) rfl dX8_know_60 ?_
        refine lv_bipush (v := iZ 29) hx hb dX8_know_63 (by decide) ?_
        refine lv_aload_n hx hb dX8_know_65 rfl (lv_at hl 1 rfl) ?_
        refine mq_get hx hb hts hin hown hK hP 20 (by decide) (hts (.fieldLink RX8 47 "WordFletchersModel" "known" "[I") (List.mem_cons_of_mem _ (List.mem_append_left _ (List.mem_of_getElem? (i := 0) rfl)))) rfl dX8_know_66 ?_
        refine W.eq (g2 := F0 m 69 ls [.ref (a 20), .int (iZ 29), .ref (a 21)]) rfl ?_
        refine lv_iconst (v := iZ 0) hx hb dX8_know_69 (by decide) ?_
        refine mq_iald hx hb hK hP 20 13 (n := 3) rfl (by decide) 0 rfl (by omega) dX8_know_70 ?_
        refine z_imul hx hb dX8_know_71 ?_
        refine lv_iload_n hx hb dX8_know_72 rfl (lv_at hl 0 rfl) ?_
        refine z_iadd hx hb dX8_know_73 ?_
        refine lv_aload_n hx hb dX8_know_74 rfl (lv_at hl 1 rfl) ?_
        refine mq_get hx hb hts hin hown hK hP 19 (by decide) (hts (.fieldLink RX8 44 "WordFletchersModel" "now" "[I") (List.mem_cons_of_mem _ (List.mem_append_left _ (List.mem_of_getElem? (i := 2) rfl)))) rfl dX8_know_75 ?_
        refine lv_iload_n hx hb dX8_know_78 rfl (lv_at hl 0 rfl) ?_
        refine mq_iald hx hb hK hP 19 12 (n := 29) rfl (by decide) (Int.toNat kk2) rfl (by omega) dX8_know_79 ?_
        refine mq_iast hx hb hK hP hD hS 21 14 (n := 870) rfl (fun k9 => mS_21 C h a _ k9 _) (by decide) (Int.toNat ((29 * (Mb 20 0)) + kk2)) rfl (by omega) dX8_know_80 (fun H locs hP hD hS => ?_)
        obtain ⟨M16, hM16⟩ : ∃ z : Nat → Nat → Int, z = (mU Mb 21 (Int.toNat ((29 * (Mb 20 0)) + kk2)) (Mb 19 (Int.toNat kk2))) := ⟨_, rfl⟩
        rw [← hM16] at hP hD
        refine lv_iinc (v := iZ (kk2 + 1)) (lv' := [(1, .int (iZ (kk2 + 1))), (0, .ref h)]) hx hb dX8_know_81 hl (k := 0) rfl (iZ_add _ _) (by decide) rfl (fun ls hl => ?_)
        refine lv_goto (tgt := 53) hx hb dX8_know_84 (by decide) ?_
        exact ih53 (M16, (kk2 + 1)) ⟨(by show 0 ≤ (kk2 + 1) ∧ (kk2 + 1) ≤ 29; omega), (by show M16 = f_blk M12 21 19 (29 * (M12 20 0).toNat) (0) (Int.toNat (kk2 + 1)); rw [f_blk_step _ _ _ _ _ (by omega), ← kbb]; have q9 : Int.toNat (29 * Mb 20 0 + kk2) = (29 * (M12 20 0).toNat) + Int.toNat kk2 := (by omega); have q7 : Int.toNat (kk2) = (0) + Int.toNat kk2 := (by omega); have q8 : Mb 19 (Int.toNat (kk2)) = M12 19 ((0) + Int.toNat kk2) := (by have r9 := f_blk_rd (M := M12) (F := 21) (G := 19) (d := 29 * (M12 20 0).toNat) (s := 0) (k := Int.toNat kk2) (i := Int.toNat kk2) (by omega); rw [← kbb] at r9; exact (congrArg (Mb 19) q7).trans r9); rw [← q9, ← q8]; assumption)⟩ (by show (29 - (kk2 + 1)).toNat < (29 - kk2).toNat; omega) H locs ⟨hP, hS⟩ ls (lv_sub hl [0, 1] rfl)
    · refine W.eq (g2 := F0 m 20 ls []) rfl ?_
      refine lv_aload_n hx hb dX8_know_20 rfl (lv_at hl 1 rfl) ?_
      refine mq_get hx hb hts hin hown hK hP 21 (by decide) (hts (.fieldLink RX8 50 "WordFletchersModel" "before" "[I") (List.mem_cons_of_mem _ (List.mem_append_left _ (List.mem_of_getElem? (i := 1) rfl)))) rfl dX8_know_21 ?_
      refine lv_iload_n hx hb dX8_know_24 rfl (lv_at hl 0 rfl) ?_
      refine lv_aload_n hx hb dX8_know_25 rfl (lv_at hl 1 rfl) ?_
      refine mq_get hx hb hts hin hown hK hP 21 (by decide) (hts (.fieldLink RX8 50 "WordFletchersModel" "before" "[I") (List.mem_cons_of_mem _ (List.mem_append_left _ (List.mem_of_getElem? (i := 1) rfl)))) rfl dX8_know_26 ?_
      refine lv_bipush (v := iZ 29) hx hb dX8_know_29 (by decide) ?_
      refine lv_iload_n hx hb dX8_know_31 rfl (lv_at hl 0 rfl) ?_
      refine z_iadd hx hb dX8_know_32 ?_
      refine mq_iald hx hb hK hP 21 14 (n := 870) rfl (by decide) (Int.toNat (29 + kk)) rfl (by omega) dX8_know_33 ?_
      refine mq_iast hx hb hK hP hD hS 21 14 (n := 870) rfl (fun k9 => mS_21 C h a _ k9 _) (by decide) (Int.toNat kk) rfl (by omega) dX8_know_34 (fun H locs hP hD hS => ?_)
      obtain ⟨M17, hM17⟩ : ∃ z : Nat → Nat → Int, z = (mU Ma 21 (Int.toNat kk) (Ma 21 (Int.toNat (29 + kk)))) := ⟨_, rfl⟩
      rw [← hM17] at hP hD
      refine lv_iinc (v := iZ (kk + 1)) (lv' := [(1, .int (iZ (kk + 1))), (0, .ref h)]) hx hb dX8_know_35 hl (k := 0) rfl (iZ_add _ _) (by decide) rfl (fun ls hl => ?_)
      refine lv_goto (tgt := 13) hx hb dX8_know_38 (by decide) ?_
      exact ih13 (M17, (kk + 1)) ⟨(by show 0 ≤ (kk + 1) ∧ (kk + 1) ≤ 261; omega), (by show M17 = f_blk M 21 21 (0) (29) (Int.toNat (kk + 1)); rw [f_blk_step _ _ _ _ _ (by omega), ← kab]; have q9 : Int.toNat (kk) = (0) + Int.toNat kk := (by omega); have q7 : Int.toNat (29 + kk) = (29) + Int.toNat kk := (by omega); have q8 : Ma 21 (Int.toNat (29 + kk)) = M 21 ((29) + Int.toNat kk) := (by have r9 := f_blk_rd (M := M) (F := 21) (G := 21) (d := 0) (s := 29) (k := Int.toNat kk) (i := Int.toNat kk) (by omega); rw [← kab] at r9; exact (congrArg (Ma 21) q7).trans r9); rw [← q9, ← q8]; assumption)⟩ (by show (261 - (kk + 1)).toNat < (261 - kk).toNat; omega) H locs ⟨hP, hS⟩ ls (lv_sub hl [0, 1] rfl)
set_option maxHeartbeats 4000000 in
set_option maxRecDepth 100000 in
theorem C_takeUp (l : Launch) (D : va_G) (C : mC) (h : Nat) (a : Nat → Nat) (M : Nat → Nat → Int) (ii : Int) (h1 : 0 ≤ ii ∧ ii ≤ 7) (hN : va_D (fun _ => True) (mW C h a M)) : Met l yX8_takeUp wsX8_takeUp ({ frames := 0, cells := 0, slots := 0, locals := 0 }) (va_Pc [.ref h, .int (iZ ii)] (mOk D C h a M)) (va_Qv (fun (_ : Unit) => True) (fun _ t => mOk D C h a (f_take M ii) t) (mA h a)) 0 0 (mA h a) := by
  refine Met.ofW (cc := cX8_takeUp) (maxL := 3) (ret := none) (by decide) rfl ?_
  intro p e s m args below meth c s₁ B hml hv
  obtain ⟨rfl, hP, hK⟩ := hv
  have hx := B.exec
  have hb := B.bytes
  have hr := B.returns
  have hts := atoms_spec (ws := wsX8_takeUp) B.pre
  have hown : s.vm.findClass RX8 = some m.cls := findClass_of_methodNamed B.named
  have hlocks := B.notSynchronized
  have hin : ∀ w ∈ wsX80, w ∈ wsX8_takeUp := fun _ w_h => (List.mem_cons_of_mem _ (List.mem_append_right _ w_h))
  have hl := lv_entry ([.ref h, .int (iZ ii)]) (n := 3) (Nat.le_of_ble_eq_true rfl)
  rw [lg_entry_eq]
  generalize (lg_sl ([.ref h, .int (iZ ii)]) ++ List.replicate (3 - (lg_sl ([.ref h, .int (iZ ii)])).length) Slot.unset).toArray = ls at hl ⊢
  replace hl : lv_has ls 3 [(0, .ref h), (1, .int (iZ ii))] := hl
  have hD : va_D (mA h a) (mW C h a M) := mD_own hN
  have hA : ∀ q, mA h a q → mA h a q := fun _ h9 => h9
  generalize hHe : s.heap = H at hP ⊢
  have hS : va_S (mA h a) s.heap H [] := by rw [hHe]; exact va_S.rf
  generalize hlo : ([] : List Loc) = locs at hS ⊢
  clear hHe hlo
  refine W.eq (g2 := F0 m 0 ls []) rfl ?_
  refine lv_iload_n hx hb dX8_takeUp_0 rfl (lv_at hl 1 rfl) ?_
  refine lv_istore_n (lv' := [(2, .int (iZ ii)), (0, .ref h), (1, .int (iZ ii))]) hx hb dX8_takeUp_1 rfl hl (by decide) rfl (fun ls hl => ?_)
  replace hl : lv_has ls 3 [(2, .int (iZ ii)), (0, .ref h)] := lv_sub hl [0, 1] rfl
  replace hP := And.intro hP hS
  clear hS
  revert ls
  revert hP
  revert H locs
  refine z_loopH (σ := (Nat → Nat → Int) × Int) (fun x9 => (ii ≤ x9.2 ∧ x9.2 ≤ 7) ∧ (x9.1 = f_tk M (Int.toNat ii) (Int.toNat x9.2))) (fun x9 H9 locs9 => va_P D vwCl (mW C h a (x9.1)) H9 ∧ va_S (mA h a) s.heap H9 locs9) (fun x9 => [(2, .int (iZ (x9.2))), (0, .ref h)]) 3 (fun x9 => (7 - x9.2).toNat) (M, ii) ⟨(by show ii ≤ ii ∧ ii ≤ 7; omega), (by show M = f_tk M (Int.toNat ii) (Int.toNat ii); funext f9 j9; unfold f_tk; rw [if_neg (by omega), if_neg (by omega)])⟩ ?_
  rintro ⟨Ma, kk⟩ hI9 ih2 H locs hPS ls hl
  have hP : va_P D vwCl (mW C h a Ma) H := hPS.1
  have hS : va_S (mA h a) s.heap H locs := hPS.2
  clear hPS
  have hD : va_D (mA h a) (mW C h a Ma) := mD_re hD
  obtain ⟨i1, i2⟩ := hI9
  replace i1 : ii ≤ kk ∧ kk ≤ 7 := i1
  replace i2 : Ma = f_tk M (Int.toNat ii) (Int.toNat kk) := i2
  replace hl : lv_has ls 3 [(2, .int (iZ kk)), (0, .ref h)] := hl
  refine lv_iload_n hx hb dX8_takeUp_2 rfl (lv_at hl 0 rfl) ?_
  refine lv_iconst (v := iZ 1) hx hb dX8_takeUp_3 (by decide) ?_
  refine z_iadd hx hb dX8_takeUp_4 ?_
  refine lv_bipush (v := iZ 8) hx hb dX8_takeUp_5 (by decide) ?_
  refine z_icmp_ge (x := (kk + 1)) (y := 8) (tgt := 56) hx hb (by omega) (by omega) dX8_takeUp_7 (by decide) (fun c1 => ?_) (fun c1 => ?_)
  · refine lv_aload_n hx hb dX8_takeUp_56 rfl (lv_at hl 1 rfl) ?_
    refine mq_get hx hb hts hin hown hK hP 19 (by decide) (hts (.fieldLink RX8 44 "WordFletchersModel" "now" "[I") (List.mem_cons_of_mem _ (List.mem_append_left _ (List.mem_of_getElem? (i := 0) rfl)))) rfl dX8_takeUp_57 ?_
    refine lv_bipush (v := iZ 20) hx hb dX8_takeUp_60 (by decide) ?_
    refine lv_iconst (v := iZ 0) hx hb dX8_takeUp_62 (by decide) ?_
    refine mq_iast hx hb hK hP hD hS 19 12 (n := 29) rfl (fun k9 => mS_19 C h a _ k9 _) (by decide) 20 rfl (by omega) dX8_takeUp_63 (fun H locs hP hD hS => ?_)
    obtain ⟨M4, hM4⟩ : ∃ z : Nat → Nat → Int, z = (mU Ma 19 20 0) := ⟨_, rfl⟩
    rw [← hM4] at hP hD
    refine lv_aload_n hx hb dX8_takeUp_64 rfl (lv_at hl 1 rfl) ?_
    refine mq_get hx hb hts hin hown hK hP 19 (by decide) (hts (.fieldLink RX8 44 "WordFletchersModel" "now" "[I") (List.mem_cons_of_mem _ (List.mem_append_left _ (List.mem_of_getElem? (i := 0) rfl)))) rfl dX8_takeUp_65 ?_
    refine lv_bipush (v := iZ 28) hx hb dX8_takeUp_68 (by decide) ?_
    refine lv_iconst (v := iZ 0) hx hb dX8_takeUp_70 (by decide) ?_
    refine mq_iast hx hb hK hP hD hS 19 12 (n := 29) rfl (fun k9 => mS_19 C h a _ k9 _) (by decide) 28 rfl (by omega) dX8_takeUp_71 (fun H locs hP hD hS => ?_)
    obtain ⟨M5, hM5⟩ : ∃ z : Nat → Nat → Int, z = (mU M4 19 28 0) := ⟨_, rfl⟩
    rw [← hM5] at hP hD
    refine lv_aload_n hx hb dX8_takeUp_72 rfl (lv_at hl 1 rfl) ?_
    refine W.eq (g2 := F0 m 73 ls [.ref h]) rfl ?_
    refine mq_get hx hb hts hin hown hK hP 19 (by decide) (hts (.fieldLink RX8 44 "WordFletchersModel" "now" "[I") (List.mem_cons_of_mem _ (List.mem_append_left _ (List.mem_of_getElem? (i := 0) rfl)))) rfl dX8_takeUp_73 ?_
    refine lv_bipush (v := iZ 12) hx hb dX8_takeUp_76 (by decide) ?_
    refine lv_dup2_11 hx hb dX8_takeUp_78 rfl rfl ?_
    refine mq_iald hx hb hK hP 19 12 (n := 29) rfl (by decide) 12 rfl (by omega) dX8_takeUp_79 ?_
    refine lv_iconst (v := iZ 1) hx hb dX8_takeUp_80 (by decide) ?_
    refine z_isub hx hb dX8_takeUp_81 ?_
    refine mq_iast hx hb hK hP hD hS 19 12 (n := 29) rfl (fun k9 => mS_19 C h a _ k9 _) (by decide) 12 rfl (by omega) dX8_takeUp_82 (fun H locs hP hD hS => ?_)
    obtain ⟨M6, hM6⟩ : ∃ z : Nat → Nat → Int, z = (mU M5 19 12 ((M5 19 12) - 1)) := ⟨_, rfl⟩
    rw [← hM6] at hP hD
    exact mq_retV hx hb hK hP hS hr (by have q : kk = 7 := (by omega); subst q; subst_vars; rfl) dX8_takeUp_83 hlocks
  · refine lv_aload_n hx hb dX8_takeUp_10 rfl (lv_at hl 1 rfl) ?_
    refine mq_get hx hb hts hin hown hK hP 19 (by decide) (hts (.fieldLink RX8 44 "WordFletchersModel" "now" "[I") (List.mem_cons_of_mem _ (List.mem_append_left _ (List.mem_of_getElem? (i := 0) rfl)))) rfl dX8_takeUp_11 ?_
    refine lv_bipush (v := iZ 13) hx hb dX8_takeUp_14 (by decide) ?_
    refine lv_iload_n hx hb dX8_takeUp_16 rfl (lv_at hl 0 rfl) ?_
    refine W.eq (g2 := F0 m 17 ls [.int (iZ kk), .int (iZ 13), .ref (a 19)]) rfl ?_
    refine z_iadd hx hb dX8_takeUp_17 ?_
    refine lv_aload_n hx hb dX8_takeUp_18 rfl (lv_at hl 1 rfl) ?_
    refine mq_get hx hb hts hin hown hK hP 19 (by decide) (hts (.fieldLink RX8 44 "WordFletchersModel" "now" "[I") (List.mem_cons_of_mem _ (List.mem_append_left _ (List.mem_of_getElem? (i := 0) rfl)))) rfl dX8_takeUp_19 ?_
    refine lv_bipush (v := iZ 13) hx hb dX8_takeUp_22 (by decide) ?_
    refine lv_iload_n hx hb dX8_takeUp_24 rfl (lv_at hl 0 rfl) ?_
    refine z_iadd hx hb dX8_takeUp_25 ?_
    refine lv_iconst (v := iZ 1) hx hb dX8_takeUp_26 (by decide) ?_
    refine z_iadd hx hb dX8_takeUp_27 ?_
    refine mq_iald hx hb hK hP 19 12 (n := 29) rfl (by decide) (Int.toNat ((13 + kk) + 1)) rfl (by omega) dX8_takeUp_28 ?_
    refine mq_iast hx hb hK hP hD hS 19 12 (n := 29) rfl (fun k9 => mS_19 C h a _ k9 _) (by decide) (Int.toNat (13 + kk)) rfl (by omega) dX8_takeUp_29 (fun H locs hP hD hS => ?_)
    obtain ⟨M7, hM7⟩ : ∃ z : Nat → Nat → Int, z = (mU Ma 19 (Int.toNat (13 + kk)) (Ma 19 (Int.toNat ((13 + kk) + 1)))) := ⟨_, rfl⟩
    rw [← hM7] at hP hD
    refine lv_aload_n hx hb dX8_takeUp_30 rfl (lv_at hl 1 rfl) ?_
    refine mq_get hx hb hts hin hown hK hP 19 (by decide) (hts (.fieldLink RX8 44 "WordFletchersModel" "now" "[I") (List.mem_cons_of_mem _ (List.mem_append_left _ (List.mem_of_getElem? (i := 0) rfl)))) rfl dX8_takeUp_31 ?_
    refine W.eq (g2 := F0 m 34 ls [.ref (a 19)]) rfl ?_
    refine lv_bipush (v := iZ 21) hx hb dX8_takeUp_34 (by decide) ?_
    refine lv_iload_n hx hb dX8_takeUp_36 rfl (lv_at hl 0 rfl) ?_
    refine z_iadd hx hb dX8_takeUp_37 ?_
    refine lv_aload_n hx hb dX8_takeUp_38 rfl (lv_at hl 1 rfl) ?_
    refine mq_get hx hb hts hin hown hK hP 19 (by decide) (hts (.fieldLink RX8 44 "WordFletchersModel" "now" "[I") (List.mem_cons_of_mem _ (List.mem_append_left _ (List.mem_of_getElem? (i := 0) rfl)))) rfl dX8_takeUp_39 ?_
    refine lv_bipush (v := iZ 21) hx hb dX8_takeUp_42 (by decide) ?_
    refine lv_iload_n hx hb dX8_takeUp_44 rfl (lv_at hl 0 rfl) ?_
    refine z_iadd hx hb dX8_takeUp_45 ?_
    refine lv_iconst (v := iZ 1) hx hb dX8_takeUp_46 (by decide) ?_
    refine z_iadd hx hb dX8_takeUp_47 ?_
    refine mq_iald hx hb hK hP 19 12 (n := 29) rfl (by decide) (Int.toNat ((21 + kk) + 1)) rfl (by omega) dX8_takeUp_48 ?_
    refine mq_iast hx hb hK hP hD hS 19 12 (n := 29) rfl (fun k9 => mS_19 C h a _ k9 _) (by decide) (Int.toNat (21 + kk)) rfl (by omega) dX8_takeUp_49 (fun H locs hP hD hS => ?_)
    obtain ⟨M8, hM8⟩ : ∃ z : Nat → Nat → Int, z = (mU M7 19 (Int.toNat (21 + kk)) (M7 19 (Int.toNat ((21 + kk) + 1)))) := ⟨_, rfl⟩
    rw [← hM8] at hP hD
    refine W.eq (g2 := F0 m 50 ls []) rfl ?_
    refine lv_iinc (v := iZ (kk + 1)) (lv' := [(2, .int (iZ (kk + 1))), (0, .ref h)]) hx hb dX8_takeUp_50 hl (k := 0) rfl (iZ_add _ _) (by decide) rfl (fun ls hl => ?_)
    refine lv_goto (tgt := 2) hx hb dX8_takeUp_53 (by decide) ?_
    exact ih2 (M8, (kk + 1)) ⟨(by show ii ≤ (kk + 1) ∧ (kk + 1) ≤ 7; omega), (by show M8 = f_tk M (Int.toNat ii) (Int.toNat (kk + 1)); rw [← f_tk_step _ _ (by omega) (by omega) (by omega), ← i2]; subst_vars; rfl)⟩ (by show (7 - (kk + 1)).toNat < (7 - kk).toNat; omega) H locs ⟨hP, hS⟩ ls (lv_sub hl [0, 1] rfl)
set_option maxHeartbeats 4000000 in
set_option maxRecDepth 100000 in
theorem C_hours (l : Launch) (D : va_G) (C : mC) (h : Nat) (a : Nat → Nat) (M : Nat → Nat → Int) (nn : Int) (hI : mI M) (h1 : -2147483648 ≤ nn ∧ nn < 2147483648) (hN : va_D (fun _ => True) (mW C h a M)) : Met l yX8_hours wsX8_hours ({ frames := 1, cells := 0, slots := 0, locals := 22 }) (va_Pc [.ref h, .int (iZ nn)] (mOk D C h a M)) (va_Qi (fun r (_ : Unit) => r = iZ (s_hours M nn)) (fun _ t => mOk D C h a (f_hours M nn) t) (mA h a)) 0 0 (mA h a) := by
  refine Met.ofW (cc := cX8_hours) (maxL := 2) (ret := (some .int)) (by decide) rfl ?_
  intro p e s m args below meth c s₁ B hml hv
  obtain ⟨rfl, hP, hK⟩ := hv
  have hx := B.exec
  have hb := B.bytes
  have hr := B.returns
  have hts := atoms_spec (ws := wsX8_hours) B.pre
  have hown : s.vm.findClass RX8 = some m.cls := findClass_of_methodNamed B.named
  have hlocks := B.notSynchronized
  have hin : ∀ w ∈ wsX80, w ∈ wsX8_hours := fun _ w_h => (List.mem_cons_of_mem _ (List.mem_append_right _ w_h))
  have hl := lv_entry ([.ref h, .int (iZ nn)]) (n := 2) (Nat.le_of_ble_eq_true rfl)
  rw [lg_entry_eq]
  generalize (lg_sl ([.ref h, .int (iZ nn)]) ++ List.replicate (2 - (lg_sl ([.ref h, .int (iZ nn)])).length) Slot.unset).toArray = ls at hl ⊢
  replace hl : lv_has ls 2 [(0, .ref h), (1, .int (iZ nn))] := hl
  have hD : va_D (mA h a) (mW C h a M) := mD_own hN
  have hA : ∀ q, mA h a q → mA h a q := fun _ h9 => h9
  generalize hHe : s.heap = H at hP ⊢
  have hS : va_S (mA h a) s.heap H [] := by rw [hHe]; exact va_S.rf
  generalize hlo : ([] : List Loc) = locs at hS ⊢
  clear hHe hlo
  have hnw := mI_now hI
  refine lv_iload_n hx hb dX8_hours_0 rfl (lv_at hl 1 rfl) ?_
  refine lv_iconst (v := iZ 1) hx hb dX8_hours_1 (by decide) ?_
  refine lv_bipush (v := iZ 9) hx hb dX8_hours_2 (by decide) ?_
  refine mq_cs (As := [.int (iZ nn), .int (iZ 1), .int (iZ 9)]) (rest := []) ⟨hx, hb, hml, hown, hts⟩ (C_in l nn 1 9 (by omega) (by omega) (by omega)) (va_cwS 3 hts gX8_hours_X8_in rfl rfl rfl (by decide +kernel) ⟨Nat.le_of_ble_eq_true rfl, Nat.le_of_ble_eq_true rfl⟩) rfl rfl hl.1 (Nat.le_of_ble_eq_true rfl) ⟨Nat.le_of_ble_eq_true rfl, Nat.le_of_ble_eq_true rfl⟩ dX8_hours_4 ?_
  refine z_ifb_ne (P := (1 ≤ nn ∧ nn ≤ 9)) (tgt := 12) hx hb dX8_hours_7 (by decide) (fun c1 => ?_) (fun c1 => ?_)
  · refine lv_aload_n hx hb dX8_hours_12 rfl (lv_at hl 0 rfl) ?_
    refine mq_get hx hb hts hin hown hK hP 19 (by decide) (hts (.fieldLink RX8 44 "WordFletchersModel" "now" "[I") (List.mem_cons_of_mem _ (List.mem_append_left _ (List.mem_of_getElem? (i := 0) rfl)))) rfl dX8_hours_13 ?_
    refine lv_iconst (v := iZ 0) hx hb dX8_hours_16 (by decide) ?_
    refine mq_iald hx hb hK hP 19 12 (n := 29) rfl (by decide) 0 rfl (by omega) dX8_hours_17 ?_
    refine lv_iload_n hx hb dX8_hours_18 rfl (lv_at hl 1 rfl) ?_
    refine W.eq (g2 := F0 m 19 ls [.int (iZ nn), .int (iZ (M 19 0))]) rfl ?_
    refine z_iadd hx hb dX8_hours_19 ?_
    refine lv_sipush (v := iZ 999) hx hb dX8_hours_20 (by decide) ?_
    refine z_icmp_le (x := ((M 19 0) + nn)) (y := 999) (tgt := 29) hx hb (by omega) (by omega) dX8_hours_23 (by decide) (fun c2 => ?_) (fun c2 => ?_)
    · refine lv_aload_n hx hb dX8_hours_29 rfl (lv_at hl 0 rfl) ?_
      refine mq_cv (As := []) (rest := []) ⟨hx, hb, hml, hown, hts⟩ hK hP hD hS hA (C_know l D C h a M  hI (hD.weaken (fun _ _ _ _ => trivial))) (cwV 0 hts gX8_hours_X8_know rfl rfl rfl (by decide +kernel) ⟨Nat.le_of_ble_eq_true rfl, Nat.le_of_ble_eq_true rfl⟩) rfl rfl hl.1 (Nat.le_of_ble_eq_true rfl) ⟨Nat.le_of_ble_eq_true rfl, Nat.le_of_ble_eq_true rfl⟩ dX8_hours_30 (fun H locs hP hD hS => ?_)
      obtain ⟨M3, hM3⟩ : ∃ z : Nat → Nat → Int, z = (f_know M) := ⟨_, rfl⟩
      rw [← hM3] at hP hD
      have e1 : M3 19 = M 19 := by rw [hM3]; exact f_know_o M (by decide) (by decide)
      have e2 := congrFun e1 0
      have e3 := congrFun e1 1
      refine lv_aload_n hx hb dX8_hours_33 rfl (lv_at hl 0 rfl) ?_
      refine mq_get hx hb hts hin hown hK hP 19 (by decide) (hts (.fieldLink RX8 44 "WordFletchersModel" "now" "[I") (List.mem_cons_of_mem _ (List.mem_append_left _ (List.mem_of_getElem? (i := 0) rfl)))) rfl dX8_hours_34 ?_
      refine lv_iconst (v := iZ 0) hx hb dX8_hours_37 (by decide) ?_
      refine lv_dup2_11 hx hb dX8_hours_38 rfl rfl ?_
      refine mq_iald hx hb hK hP 19 12 (n := 29) rfl (by decide) 0 rfl (by omega) dX8_hours_39 ?_
      refine lv_iload_n hx hb dX8_hours_40 rfl (lv_at hl 1 rfl) ?_
      refine z_iadd hx hb dX8_hours_41 ?_
      refine W.eq (g2 := F0 m 42 ls [.int (iZ ((M3 19 0) + nn)), .int (iZ 0), .ref (a 19)]) rfl ?_
      refine mq_iast hx hb hK hP hD hS 19 12 (n := 29) rfl (fun k9 => mS_19 C h a _ k9 _) (by decide) 0 rfl (by omega) dX8_hours_42 (fun H locs hP hD hS => ?_)
      obtain ⟨M4, hM4⟩ : ∃ z : Nat → Nat → Int, z = (mU M3 19 0 ((M3 19 0) + nn)) := ⟨_, rfl⟩
      rw [← hM4] at hP hD
      refine lv_aload_n hx hb dX8_hours_43 rfl (lv_at hl 0 rfl) ?_
      refine mq_get hx hb hts hin hown hK hP 19 (by decide) (hts (.fieldLink RX8 44 "WordFletchersModel" "now" "[I") (List.mem_cons_of_mem _ (List.mem_append_left _ (List.mem_of_getElem? (i := 0) rfl)))) rfl dX8_hours_44 ?_
      refine lv_iconst (v := iZ 0) hx hb dX8_hours_47 (by decide) ?_
      refine mq_iald hx hb hK hP 19 12 (n := 29) rfl (by decide) 0 rfl (by omega) dX8_hours_48 ?_
      exact mq_retM hx hb hK hP hS hr rfl (by subst_vars; unfold s_hours; first | omega | (rw [if_neg (by omega), if_neg (by omega)]; exact congrArg (fun z => z + nn) e2) | omega) (by subst_vars; unfold f_hours; first | rfl | omega | (rw [if_pos (by omega)] <;> (first | rfl | omega | (rw [if_pos (by omega)] <;> (first | rfl | omega)) | (rw [if_neg (by omega)] <;> (first | rfl | omega)))) | (rw [if_neg (by omega)] <;> (first | rfl | omega | (rw [if_pos (by omega)] <;> (first | rfl | omega)) | (rw [if_neg (by omega)] <;> (first | rfl | omega))))) dX8_hours_49 hlocks
    · refine lv_bipush (v := iZ (-2)) hx hb dX8_hours_26 (by decide) ?_
      exact mq_retM hx hb hK hP hS hr rfl (by subst_vars; unfold s_hours; first | omega | (rw [if_neg (by omega), if_neg (by omega)]; exact congrArg (fun z => z + nn) e2) | omega) (by subst_vars; unfold f_hours; first | rfl | omega | (rw [if_pos (by omega)] <;> (first | rfl | omega | (rw [if_pos (by omega)] <;> (first | rfl | omega)) | (rw [if_neg (by omega)] <;> (first | rfl | omega)))) | (rw [if_neg (by omega)] <;> (first | rfl | omega | (rw [if_pos (by omega)] <;> (first | rfl | omega)) | (rw [if_neg (by omega)] <;> (first | rfl | omega))))) dX8_hours_28 hlocks
  · refine lv_iconst (v := iZ (-1)) hx hb dX8_hours_10 (by decide) ?_
    exact mq_retM hx hb hK hP hS hr rfl (by subst_vars; unfold s_hours; first | omega | (rw [if_neg (by omega), if_neg (by omega)]; exact congrArg (fun z => z + nn) e2) | omega) (by subst_vars; unfold f_hours; first | rfl | omega | (rw [if_pos (by omega)] <;> (first | rfl | omega | (rw [if_pos (by omega)] <;> (first | rfl | omega)) | (rw [if_neg (by omega)] <;> (first | rfl | omega)))) | (rw [if_neg (by omega)] <;> (first | rfl | omega | (rw [if_pos (by omega)] <;> (first | rfl | omega)) | (rw [if_neg (by omega)] <;> (first | rfl | omega))))) dX8_hours_11 hlocks
set_option maxHeartbeats 4000000 in
set_option maxRecDepth 100000 in
theorem C_damps (l : Launch) (D : va_G) (C : mC) (h : Nat) (a : Nat → Nat) (M : Nat → Nat → Int) (nn : Int) (hI : mI M) (h1 : -2147483648 ≤ nn ∧ nn < 2147483648) (hN : va_D (fun _ => True) (mW C h a M)) : Met l yX8_damps wsX8_damps ({ frames := 1, cells := 0, slots := 0, locals := 22 }) (va_Pc [.ref h, .int (iZ nn)] (mOk D C h a M)) (va_Qi (fun r (_ : Unit) => r = iZ (s_damps M nn)) (fun _ t => mOk D C h a (f_damps M nn) t) (mA h a)) 0 0 (mA h a) := by
  refine Met.ofW (cc := cX8_damps) (maxL := 3) (ret := (some .int)) (by decide) rfl ?_
  intro p e s m args below meth c s₁ B hml hv
  obtain ⟨rfl, hP, hK⟩ := hv
  have hx := B.exec
  have hb := B.bytes
  have hr := B.returns
  have hts := atoms_spec (ws := wsX8_damps) B.pre
  have hown : s.vm.findClass RX8 = some m.cls := findClass_of_methodNamed B.named
  have hlocks := B.notSynchronized
  have hin : ∀ w ∈ wsX80, w ∈ wsX8_damps := fun _ w_h => (List.mem_cons_of_mem _ (List.mem_append_right _ w_h))
  have hl := lv_entry ([.ref h, .int (iZ nn)]) (n := 3) (Nat.le_of_ble_eq_true rfl)
  rw [lg_entry_eq]
  generalize (lg_sl ([.ref h, .int (iZ nn)]) ++ List.replicate (3 - (lg_sl ([.ref h, .int (iZ nn)])).length) Slot.unset).toArray = ls at hl ⊢
  replace hl : lv_has ls 3 [(0, .ref h), (1, .int (iZ nn))] := hl
  have hD : va_D (mA h a) (mW C h a M) := mD_own hN
  have hA : ∀ q, mA h a q → mA h a q := fun _ h9 => h9
  generalize hHe : s.heap = H at hP ⊢
  have hS : va_S (mA h a) s.heap H [] := by rw [hHe]; exact va_S.rf
  generalize hlo : ([] : List Loc) = locs at hS ⊢
  clear hHe hlo
  have hnw := mI_now hI
  refine lv_iload_n hx hb dX8_damps_0 rfl (lv_at hl 1 rfl) ?_
  refine lv_iconst (v := iZ 0) hx hb dX8_damps_1 (by decide) ?_
  refine W.eq (g2 := F0 m 2 ls [.int (iZ 0), .int (iZ nn)]) rfl ?_
  refine lv_iconst (v := iZ 5) hx hb dX8_damps_2 (by decide) ?_
  refine mq_cs (As := [.int (iZ nn), .int (iZ 0), .int (iZ 5)]) (rest := []) ⟨hx, hb, hml, hown, hts⟩ (C_in l nn 0 5 (by omega) (by omega) (by omega)) (va_cwS 3 hts gX8_damps_X8_in rfl rfl rfl (by decide +kernel) ⟨Nat.le_of_ble_eq_true rfl, Nat.le_of_ble_eq_true rfl⟩) rfl rfl hl.1 (Nat.le_of_ble_eq_true rfl) ⟨Nat.le_of_ble_eq_true rfl, Nat.le_of_ble_eq_true rfl⟩ dX8_damps_3 ?_
  refine z_ifb_ne (P := (0 ≤ nn ∧ nn ≤ 5)) (tgt := 11) hx hb dX8_damps_6 (by decide) (fun c1 => ?_) (fun c1 => ?_)
  · refine lv_aload_n hx hb dX8_damps_11 rfl (lv_at hl 0 rfl) ?_
    refine mq_get hx hb hts hin hown hK hP 19 (by decide) (hts (.fieldLink RX8 44 "WordFletchersModel" "now" "[I") (List.mem_cons_of_mem _ (List.mem_append_left _ (List.mem_of_getElem? (i := 0) rfl)))) rfl dX8_damps_12 ?_
    refine lv_iconst (v := iZ 1) hx hb dX8_damps_15 (by decide) ?_
    refine mq_iald hx hb hK hP 19 12 (n := 29) rfl (by decide) 1 rfl (by omega) dX8_damps_16 ?_
    refine lv_istore_n (lv' := [(2, .int (iZ (M 19 1))), (0, .ref h), (1, .int (iZ nn))]) hx hb dX8_damps_17 rfl hl (by decide) rfl (fun ls hl => ?_)
    refine lv_iload_n hx hb dX8_damps_18 rfl (lv_at hl 0 rfl) ?_
    refine lv_iload_n hx hb dX8_damps_19 rfl (lv_at hl 2 rfl) ?_
    refine z_icmp_ne (x := (M 19 1)) (y := nn) (tgt := 26) hx hb (by omega) (by omega) dX8_damps_20 (by decide) (fun c2 => ?_) (fun c2 => ?_)
    · refine lv_aload_n hx hb dX8_damps_26 rfl (lv_at hl 1 rfl) ?_
      refine W.eq (g2 := F0 m 27 ls [.ref h]) rfl ?_
      refine mq_cv (As := []) (rest := []) ⟨hx, hb, hml, hown, hts⟩ hK hP hD hS hA (C_know l D C h a M  hI (hD.weaken (fun _ _ _ _ => trivial))) (cwV 0 hts gX8_damps_X8_know rfl rfl rfl (by decide +kernel) ⟨Nat.le_of_ble_eq_true rfl, Nat.le_of_ble_eq_true rfl⟩) rfl rfl hl.1 (Nat.le_of_ble_eq_true rfl) ⟨Nat.le_of_ble_eq_true rfl, Nat.le_of_ble_eq_true rfl⟩ dX8_damps_27 (fun H locs hP hD hS => ?_)
      obtain ⟨M3, hM3⟩ : ∃ z : Nat → Nat → Int, z = (f_know M) := ⟨_, rfl⟩
      rw [← hM3] at hP hD
      refine lv_aload_n hx hb dX8_damps_30 rfl (lv_at hl 1 rfl) ?_
      refine mq_get hx hb hts hin hown hK hP 19 (by decide) (hts (.fieldLink RX8 44 "WordFletchersModel" "now" "[I") (List.mem_cons_of_mem _ (List.mem_append_left _ (List.mem_of_getElem? (i := 0) rfl)))) rfl dX8_damps_31 ?_
      refine lv_iconst (v := iZ 1) hx hb dX8_damps_34 (by decide) ?_
      refine lv_iload_n hx hb dX8_damps_35 rfl (lv_at hl 2 rfl) ?_
      refine mq_iast hx hb hK hP hD hS 19 12 (n := 29) rfl (fun k9 => mS_19 C h a _ k9 _) (by decide) 1 rfl (by omega) dX8_damps_36 (fun H locs hP hD hS => ?_)
      obtain ⟨M4, hM4⟩ : ∃ z : Nat → Nat → Int, z = (mU M3 19 1 nn) := ⟨_, rfl⟩
      rw [← hM4] at hP hD
      refine lv_iload_n hx hb dX8_damps_37 rfl (lv_at hl 0 rfl) ?_
      exact mq_retM hx hb hK hP hS hr rfl (by subst_vars; unfold s_damps; first | rfl | omega | (rw [if_pos (by omega)] <;> (first | rfl | omega | (rw [if_pos (by omega)] <;> (first | rfl | omega)) | (rw [if_neg (by omega)] <;> (first | rfl | omega)))) | (rw [if_neg (by omega)] <;> (first | rfl | omega | (rw [if_pos (by omega)] <;> (first | rfl | omega)) | (rw [if_neg (by omega)] <;> (first | rfl | omega))))) (by subst_vars; unfold f_damps; first | (rw [if_pos (by omega)]; done) | (rw [if_neg (by omega), if_pos (by omega)]; done) | (rw [if_neg (by omega), if_neg (by omega)]; done)) dX8_damps_38 hlocks
    · refine lv_bipush (v := iZ (-2)) hx hb dX8_damps_23 (by decide) ?_
      exact mq_retM hx hb hK hP hS hr rfl (by subst_vars; unfold s_damps; first | rfl | omega | (rw [if_pos (by omega)] <;> (first | rfl | omega | (rw [if_pos (by omega)] <;> (first | rfl | omega)) | (rw [if_neg (by omega)] <;> (first | rfl | omega)))) | (rw [if_neg (by omega)] <;> (first | rfl | omega | (rw [if_pos (by omega)] <;> (first | rfl | omega)) | (rw [if_neg (by omega)] <;> (first | rfl | omega))))) (by subst_vars; unfold f_damps; first | (rw [if_pos (by omega)]; done) | (rw [if_neg (by omega), if_pos (by omega)]; done) | (rw [if_neg (by omega), if_neg (by omega)]; done)) dX8_damps_25 hlocks
  · refine lv_iconst (v := iZ (-1)) hx hb dX8_damps_9 (by decide) ?_
    exact mq_retM hx hb hK hP hS hr rfl (by subst_vars; unfold s_damps; first | rfl | omega | (rw [if_pos (by omega)] <;> (first | rfl | omega | (rw [if_pos (by omega)] <;> (first | rfl | omega)) | (rw [if_neg (by omega)] <;> (first | rfl | omega)))) | (rw [if_neg (by omega)] <;> (first | rfl | omega | (rw [if_pos (by omega)] <;> (first | rfl | omega)) | (rw [if_neg (by omega)] <;> (first | rfl | omega))))) (by subst_vars; unfold f_damps; first | (rw [if_pos (by omega)]; done) | (rw [if_neg (by omega), if_pos (by omega)]; done) | (rw [if_neg (by omega), if_neg (by omega)]; done)) dX8_damps_10 hlocks
set_option maxHeartbeats 4000000 in
set_option maxRecDepth 100000 in
theorem C_forget (l : Launch) (D : va_G) (C : mC) (h : Nat) (a : Nat → Nat) (M : Nat → Nat → Int) (hN : va_D (fun _ => True) (mW C h a M)) : Met l yX8_forget wsX8_forget ({ frames := 0, cells := 0, slots := 0, locals := 0 }) (va_Pc [.ref h] (mOk D C h a M)) (va_Qi (fun r (_ : Unit) => r = iZ (M 28 0)) (fun _ t => mOk D C h a (mU M 28 0 0) t) (mA h a)) 0 0 (mA h a) := by
  refine Met.ofW (cc := cX8_forget) (maxL := 2) (ret := (some .int)) (by decide) rfl ?_
  intro p e s m args below meth c s₁ B hml hv
  obtain ⟨rfl, hP, hK⟩ := hv
  have hx := B.exec
  have hb := B.bytes
  have hr := B.returns
  have hts := atoms_spec (ws := wsX8_forget) B.pre
  have hown : s.vm.findClass RX8 = some m.cls := findClass_of_methodNamed B.named
  have hlocks := B.notSynchronized
  have hin : ∀ w ∈ wsX80, w ∈ wsX8_forget := fun _ w_h => (List.mem_cons_of_mem _ (List.mem_append_right _ w_h))
  have hl := lv_entry ([.ref h]) (n := 2) (Nat.le_of_ble_eq_true rfl)
  rw [lg_entry_eq]
  generalize (lg_sl ([.ref h]) ++ List.replicate (2 - (lg_sl ([.ref h])).length) Slot.unset).toArray = ls at hl ⊢
  replace hl : lv_has ls 2 [(0, .ref h)] := hl
  have hD : va_D (mA h a) (mW C h a M) := mD_own hN
  have hA : ∀ q, mA h a q → mA h a q := fun _ h9 => h9
  generalize hHe : s.heap = H at hP ⊢
  have hS : va_S (mA h a) s.heap H [] := by rw [hHe]; exact va_S.rf
  generalize hlo : ([] : List Loc) = locs at hS ⊢
  clear hHe hlo
  refine W.eq (g2 := F0 m 0 ls []) rfl ?_
  refine lv_aload_n hx hb dX8_forget_0 rfl (lv_at hl 0 rfl) ?_
  refine mq_get hx hb hts hin hown hK hP 28 (by decide) (hts (.fieldLink RX8 131 "WordFletchersModel" "sights" "I") (List.mem_cons_of_mem _ (List.mem_append_left _ (List.mem_of_getElem? (i := 0) rfl)))) rfl dX8_forget_1 ?_
  refine lv_istore_n (lv' := [(1, .int (iZ (M 28 0))), (0, .ref h)]) hx hb dX8_forget_4 rfl hl (by decide) rfl (fun ls hl => ?_)
  refine lv_aload_n hx hb dX8_forget_5 rfl (lv_at hl 1 rfl) ?_
  refine lv_iconst (v := iZ 0) hx hb dX8_forget_6 (by decide) ?_
  refine mq_put (ty := .int) hx hb hts hin hown hK hP hD hS 28 (by decide) (hts (.fieldLink RX8 131 "WordFletchersModel" "sights" "I") (List.mem_cons_of_mem _ (List.mem_append_left _ (List.mem_of_getElem? (i := 0) rfl)))) rfl (by decide +kernel) rfl rfl (mS_28 C h a _ _) dX8_forget_7 (fun H locs hP hD hS => ?_)
  obtain ⟨M1, hM1⟩ : ∃ z : Nat → Nat → Int, z = (mU M 28 0 0) := ⟨_, rfl⟩
  rw [← hM1] at hP hD
  refine lv_iload_n hx hb dX8_forget_10 rfl (lv_at hl 0 rfl) ?_
  exact mq_retM hx hb hK hP hS hr rfl rfl (by subst_vars; rfl) dX8_forget_11 hlocks
set_option maxHeartbeats 4000000 in
set_option maxRecDepth 100000 in
theorem C_saw (l : Launch) (D : va_G) (C : mC) (h : Nat) (a : Nat → Nat) (M : Nat → Nat → Int) (sy sp : Int) (hI : mI M) (h1 : -2147483648 ≤ sy ∧ sy < 2147483648) (h2 : -2147483648 ≤ sp ∧ sp < 2147483648) (hN : va_D (fun _ => True) (mW C h a M)) : Met l yX8_saw wsX8_saw ({ frames := 2, cells := 0, slots := 0, locals := 43 }) (va_Pc [.ref h, .int (iZ sy), .int (iZ sp)] (mOk D C h a M)) (va_Qi (fun r (_ : Unit) => r = iZ (s_saw M sy sp)) (fun _ t => mOk D C h a (f_saw M sy sp) t) (mA h a)) 0 0 (mA h a) := by
  refine Met.ofW (cc := cX8_saw) (maxL := 3) (ret := (some .int)) (by decide) rfl ?_
  intro p e s m args below meth c s₁ B hml hv
  obtain ⟨rfl, hP, hK⟩ := hv
  have hx := B.exec
  have hb := B.bytes
  have hr := B.returns
  have hts := atoms_spec (ws := wsX8_saw) B.pre
  have hown : s.vm.findClass RX8 = some m.cls := findClass_of_methodNamed B.named
  have hlocks := B.notSynchronized
  have hin : ∀ w ∈ wsX80, w ∈ wsX8_saw := fun _ w_h => (List.mem_cons_of_mem _ (List.mem_append_right _ w_h))
  have hl := lv_entry ([.ref h, .int (iZ sy), .int (iZ sp)]) (n := 3) (Nat.le_of_ble_eq_true rfl)
  rw [lg_entry_eq]
  generalize (lg_sl ([.ref h, .int (iZ sy), .int (iZ sp)]) ++ List.replicate (3 - (lg_sl ([.ref h, .int (iZ sy), .int (iZ sp)])).length) Slot.unset).toArray = ls at hl ⊢
  replace hl : lv_has ls 3 [(0, .ref h), (1, .int (iZ sy)), (2, .int (iZ sp))] := hl
  have hD : va_D (mA h a) (mW C h a M) := mD_own hN
  have hA : ∀ q, mA h a q → mA h a q := fun _ h9 => h9
  generalize hHe : s.heap = H at hP ⊢
  have hS : va_S (mA h a) s.heap H [] := by rw [hHe]; exact va_S.rf
  generalize hlo : ([] : List Loc) = locs at hS ⊢
  clear hHe hlo
  have hnw := mI_now hI
  refine lv_aload_n hx hb dX8_saw_0 rfl (lv_at hl 0 rfl) ?_
  refine lv_iload_n hx hb dX8_saw_1 rfl (lv_at hl 1 rfl) ?_
  refine mq_ci (As := [.int (iZ sy)]) (rest := []) ⟨hx, hb, hml, hown, hts⟩ hK hP (C_isSaying l D C h a M sy hI (by omega)) (cwV 1 hts gX8_saw_X8_isSaying rfl rfl rfl (by decide +kernel) ⟨Nat.le_of_ble_eq_true rfl, Nat.le_of_ble_eq_true rfl⟩) rfl rfl hl.1 (Nat.le_of_ble_eq_true rfl) ⟨Nat.le_of_ble_eq_true rfl, Nat.le_of_ble_eq_true rfl⟩ dX8_saw_2 ?_
  refine z_ifb_eq (P := (0 ≤ sy ∧ sy < M 5 0)) (tgt := 18) hx hb dX8_saw_5 (by decide) (fun c1 => ?_) (fun c1 => ?_)
  · refine W.eq (g2 := F0 m 18 ls []) rfl ?_
    refine lv_iconst (v := iZ (-1)) hx hb dX8_saw_18 (by decide) ?_
    exact mq_retM hx hb hK hP hS hr rfl (by subst_vars; unfold s_saw; first | rfl | omega | (rw [if_pos (by omega)] <;> (first | rfl | omega | (rw [if_pos (by omega)] <;> (first | rfl | omega)) | (rw [if_neg (by omega)] <;> (first | rfl | omega)))) | (rw [if_neg (by omega)] <;> (first | rfl | omega | (rw [if_pos (by omega)] <;> (first | rfl | omega)) | (rw [if_neg (by omega)] <;> (first | rfl | omega))))) (by subst_vars; unfold f_saw; first | rfl | omega | (rw [if_pos (by omega)] <;> (first | rfl | omega | (rw [if_pos (by omega)] <;> (first | rfl | omega)) | (rw [if_neg (by omega)] <;> (first | rfl | omega)))) | (rw [if_neg (by omega)] <;> (first | rfl | omega | (rw [if_pos (by omega)] <;> (first | rfl | omega)) | (rw [if_neg (by omega)] <;> (first | rfl | omega))))) dX8_saw_19 hlocks
  · refine lv_iload_n hx hb dX8_saw_8 rfl (lv_at hl 2 rfl) ?_
    refine lv_iconst (v := iZ 0) hx hb dX8_saw_9 (by decide) ?_
    refine lv_bipush (v := iZ 30) hx hb dX8_saw_10 (by decide) ?_
    refine mq_cs (As := [.int (iZ sp), .int (iZ 0), .int (iZ 30)]) (rest := []) ⟨hx, hb, hml, hown, hts⟩ (C_in l sp 0 30 (by omega) (by omega) (by omega)) (va_cwS 3 hts gX8_saw_X8_in rfl rfl rfl (by decide +kernel) ⟨Nat.le_of_ble_eq_true rfl, Nat.le_of_ble_eq_true rfl⟩) rfl rfl hl.1 (Nat.le_of_ble_eq_true rfl) ⟨Nat.le_of_ble_eq_true rfl, Nat.le_of_ble_eq_true rfl⟩ dX8_saw_12 ?_
    refine z_ifb_ne (P := (0 ≤ sp ∧ sp ≤ 30)) (tgt := 20) hx hb dX8_saw_15 (by decide) (fun c2 => ?_) (fun c2 => ?_)
    · refine lv_aload_n hx hb dX8_saw_20 rfl (lv_at hl 0 rfl) ?_
      refine mq_get hx hb hts hin hown hK hP 28 (by decide) (hts (.fieldLink RX8 131 "WordFletchersModel" "sights" "I") (List.mem_cons_of_mem _ (List.mem_append_left _ (List.mem_of_getElem? (i := 0) rfl)))) rfl dX8_saw_21 ?_
      refine lv_iconst (v := iZ 4) hx hb dX8_saw_24 (by decide) ?_
      refine z_icmp_ne (x := (M 28 0)) (y := 4) (tgt := 31) hx hb (by omega) (by omega) dX8_saw_25 (by decide) (fun c3 => ?_) (fun c3 => ?_)
      · refine lv_aload_n hx hb dX8_saw_31 rfl (lv_at hl 0 rfl) ?_
        refine W.eq (g2 := F0 m 32 ls [.ref h]) rfl ?_
        refine mq_get hx hb hts hin hown hK hP 26 (by decide) (hts (.fieldLink RX8 66 "WordFletchersModel" "sightOf" "[I") (List.mem_cons_of_mem _ (List.mem_append_left _ (List.mem_of_getElem? (i := 1) rfl)))) rfl dX8_saw_32 ?_
        refine lv_aload_n hx hb dX8_saw_35 rfl (lv_at hl 0 rfl) ?_
        refine mq_get hx hb hts hin hown hK hP 28 (by decide) (hts (.fieldLink RX8 131 "WordFletchersModel" "sights" "I") (List.mem_cons_of_mem _ (List.mem_append_left _ (List.mem_of_getElem? (i := 0) rfl)))) rfl dX8_saw_36 ?_
        refine lv_iload_n hx hb dX8_saw_39 rfl (lv_at hl 1 rfl) ?_
        refine mq_iast hx hb hK hP hD hS 26 19 (n := 4) rfl (fun k9 => mS_26 C h a _ k9 _) (by decide) (Int.toNat (M 28 0)) rfl (by omega) dX8_saw_40 (fun H locs hP hD hS => ?_)
        obtain ⟨M4, hM4⟩ : ∃ z : Nat → Nat → Int, z = (mU M 26 (Int.toNat (M 28 0)) sy) := ⟨_, rfl⟩
        rw [← hM4] at hP hD
        have e1 : M4 28 0 = M 28 0 := by rw [hM4]; rfl
        refine lv_aload_n hx hb dX8_saw_41 rfl (lv_at hl 0 rfl) ?_
        refine mq_get hx hb hts hin hown hK hP 27 (by decide) (hts (.fieldLink RX8 69 "WordFletchersModel" "sightAt" "[I") (List.mem_cons_of_mem _ (List.mem_append_left _ (List.mem_of_getElem? (i := 2) rfl)))) rfl dX8_saw_42 ?_
        refine lv_aload_n hx hb dX8_saw_45 rfl (lv_at hl 0 rfl) ?_
        refine mq_get hx hb hts hin hown hK hP 28 (by decide) (hts (.fieldLink RX8 131 "WordFletchersModel" "sights" "I") (List.mem_cons_of_mem _ (List.mem_append_left _ (List.mem_of_getElem? (i := 0) rfl)))) rfl dX8_saw_46 ?_
        refine lv_iload_n hx hb dX8_saw_49 rfl (lv_at hl 2 rfl) ?_
        refine mq_iast hx hb hK hP hD hS 27 20 (n := 4) rfl (fun k9 => mS_27 C h a _ k9 _) (by decide) (Int.toNat (M4 28 0)) rfl (by omega) dX8_saw_50 (fun H locs hP hD hS => ?_)
        obtain ⟨M5, hM5⟩ : ∃ z : Nat → Nat → Int, z = (mU M4 27 (Int.toNat (M4 28 0)) sp) := ⟨_, rfl⟩
        rw [← hM5] at hP hD
        have e1 : M5 28 0 = M 28 0 := by rw [hM5]; exact e1
        refine lv_aload_n hx hb dX8_saw_51 rfl (lv_at hl 0 rfl) ?_
        refine W.eq (g2 := F0 m 52 ls [.ref h]) rfl ?_
        refine lv_dup hx hb dX8_saw_52 rfl ?_
        refine mq_get hx hb hts hin hown hK hP 28 (by decide) (hts (.fieldLink RX8 131 "WordFletchersModel" "sights" "I") (List.mem_cons_of_mem _ (List.mem_append_left _ (List.mem_of_getElem? (i := 0) rfl)))) rfl dX8_saw_53 ?_
        refine lv_iconst (v := iZ 1) hx hb dX8_saw_56 (by decide) ?_
        refine z_iadd hx hb dX8_saw_57 ?_
        refine mq_put (ty := .int) hx hb hts hin hown hK hP hD hS 28 (by decide) (hts (.fieldLink RX8 131 "WordFletchersModel" "sights" "I") (List.mem_cons_of_mem _ (List.mem_append_left _ (List.mem_of_getElem? (i := 0) rfl)))) rfl (by decide +kernel) rfl rfl (mS_28 C h a _ _) dX8_saw_58 (fun H locs hP hD hS => ?_)
        obtain ⟨M6, hM6⟩ : ∃ z : Nat → Nat → Int, z = (mU M5 28 0 ((M5 28 0) + 1)) := ⟨_, rfl⟩
        rw [← hM6] at hP hD
        refine lv_aload_n hx hb dX8_saw_61 rfl (lv_at hl 0 rfl) ?_
        refine mq_get hx hb hts hin hown hK hP 28 (by decide) (hts (.fieldLink RX8 131 "WordFletchersModel" "sights" "I") (List.mem_cons_of_mem _ (List.mem_append_left _ (List.mem_of_getElem? (i := 0) rfl)))) rfl dX8_saw_62 ?_
        exact mq_retM hx hb hK hP hS hr rfl (by subst_vars; unfold s_saw; first | rfl | omega | (rw [if_pos (by omega)] <;> (first | rfl | omega | (rw [if_pos (by omega)] <;> (first | rfl | omega)) | (rw [if_neg (by omega)] <;> (first | rfl | omega)))) | (rw [if_neg (by omega)] <;> (first | rfl | omega | (rw [if_pos (by omega)] <;> (first | rfl | omega)) | (rw [if_neg (by omega)] <;> (first | rfl | omega))))) (by subst_vars; unfold f_saw; first | rfl | omega | (rw [if_pos (by omega)] <;> (first | rfl | omega | (rw [if_pos (by omega)] <;> (first | rfl | omega)) | (rw [if_neg (by omega)] <;> (first | rfl | omega)))) | (rw [if_neg (by omega)] <;> (first | rfl | omega | (rw [if_pos (by omega)] <;> (first | rfl | omega)) | (rw [if_neg (by omega)] <;> (first | rfl | omega))))) dX8_saw_65 hlocks
      · refine lv_bipush (v := iZ (-3)) hx hb dX8_saw_28 (by decide) ?_
        exact mq_retM hx hb hK hP hS hr rfl (by subst_vars; unfold s_saw; first | rfl | omega | (rw [if_pos (by omega)] <;> (first | rfl | omega | (rw [if_pos (by omega)] <;> (first | rfl | omega)) | (rw [if_neg (by omega)] <;> (first | rfl | omega)))) | (rw [if_neg (by omega)] <;> (first | rfl | omega | (rw [if_pos (by omega)] <;> (first | rfl | omega)) | (rw [if_neg (by omega)] <;> (first | rfl | omega))))) (by subst_vars; unfold f_saw; first | rfl | omega | (rw [if_pos (by omega)] <;> (first | rfl | omega | (rw [if_pos (by omega)] <;> (first | rfl | omega)) | (rw [if_neg (by omega)] <;> (first | rfl | omega)))) | (rw [if_neg (by omega)] <;> (first | rfl | omega | (rw [if_pos (by omega)] <;> (first | rfl | omega)) | (rw [if_neg (by omega)] <;> (first | rfl | omega))))) dX8_saw_30 hlocks
    · refine lv_iconst (v := iZ (-1)) hx hb dX8_saw_18 (by decide) ?_
      exact mq_retM hx hb hK hP hS hr rfl (by subst_vars; unfold s_saw; first | rfl | omega | (rw [if_pos (by omega)] <;> (first | rfl | omega | (rw [if_pos (by omega)] <;> (first | rfl | omega)) | (rw [if_neg (by omega)] <;> (first | rfl | omega)))) | (rw [if_neg (by omega)] <;> (first | rfl | omega | (rw [if_pos (by omega)] <;> (first | rfl | omega)) | (rw [if_neg (by omega)] <;> (first | rfl | omega))))) (by subst_vars; unfold f_saw; first | rfl | omega | (rw [if_pos (by omega)] <;> (first | rfl | omega | (rw [if_pos (by omega)] <;> (first | rfl | omega)) | (rw [if_neg (by omega)] <;> (first | rfl | omega)))) | (rw [if_neg (by omega)] <;> (first | rfl | omega | (rw [if_pos (by omega)] <;> (first | rfl | omega)) | (rw [if_neg (by omega)] <;> (first | rfl | omega))))) dX8_saw_19 hlocks
