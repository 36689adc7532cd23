set_option maxHeartbeats 40000000 in
set_option maxRecDepth 100000 in
theorem C_read (l : Launch) (D : va_G) (C : mC) (h : Nat) (a : Nat → Nat) (M : Nat → Nat → Int) (hT : 0 ≤ M 1 0 ∧ M 1 0 ≤ 120) (hN : va_D (fun _ => True) (mW C h a M)) : Met l yX8_read wsX8_read ({ frames := 6, cells := 0, slots := 0, locals := 132 }) (va_Pc [.ref h] (mOk D C h a M)) (va_Qv (fun (_ : Unit) => True) (fun _ t => mOk D C h a (f_read M) t) (mA h a)) 0 0 (mA h a) := by
  refine Met.ofW (cc := cX8_read) (maxL := 2) (ret := none) (by decide) rfl ?_
  intro p e s m args below meth c s₁ B hml hv
  obtain ⟨rfl, hP, hK⟩ := hv
  have hx := B.exec
  have hb := B.bytes
  have hr := B.returns
  have hts := atoms_spec (ws := wsX8_read) B.pre
  have hown : s.vm.findClass RX8 = some m.cls := findClass_of_methodNamed B.named
  have hlocks := B.notSynchronized
  have hin : ∀ w ∈ wsX80, w ∈ wsX8_read := fun _ w_h => (List.mem_cons_of_mem _ (List.mem_append_right _ w_h))
  have hl := lv_entry ([.ref h]) (n := 2) (Nat.le_of_ble_eq_true rfl)
  rw [lg_entry_eq]
  generalize (lg_sl ([.ref h]) ++ List.replicate (2 - (lg_sl ([.ref h])).length) Slot.unset).toArray = ls at hl ⊢
  replace hl : lv_has ls 2 [(0, .ref h)] := hl
  have hD : va_D (mA h a) (mW C h a M) := mD_own hN
  have hA : ∀ q, mA h a q → mA h a q := fun _ h9 => h9
  generalize hHe : s.heap = H at hP ⊢
  have hS : va_S (mA h a) s.heap H [] := by rw [hHe]; exact va_S.rf
  generalize hlo : ([] : List Loc) = locs at hS ⊢
  clear hHe hlo
  refine lv_aload_n hx hb dX8_read_0 rfl (lv_at hl 0 rfl) ?_
  refine lv_iconst (v := iZ 0) hx hb dX8_read_1 (by decide) ?_
  refine mq_put (ty := .int) hx hb hts hin hown hK hP hD hS 12 (by decide) (hts (.fieldLink RX8 80 "WordFletchersModel" "at" "I") (List.mem_cons_of_mem _ (List.mem_append_left _ (List.mem_append_left _ (List.mem_of_getElem? (i := 0) rfl))))) rfl (by decide +kernel) rfl rfl (mS_12 C h a _ _) dX8_read_2 (fun H locs hP hD hS => ?_)
  obtain ⟨M1, hM1⟩ : ∃ z : Nat → Nat → Int, z = (mU M 12 0 0) := ⟨_, rfl⟩
  rw [← hM1] at hP hD
  refine lv_aload_n hx hb dX8_read_5 rfl (lv_at hl 0 rfl) ?_
  refine lv_iconst (v := iZ 0) hx hb dX8_read_6 (by decide) ?_
  refine mq_put (ty := .boolean) hx hb hts hin hown hK hP hD hS 16 (by decide) (hts (.fieldLink RX8 96 "WordFletchersModel" "isWrong" "Z") (List.mem_cons_of_mem _ (List.mem_append_left _ (List.mem_append_left _ (List.mem_of_getElem? (i := 1) rfl))))) rfl (by decide +kernel) (z_nbool (by omega)) (z_fbool (by omega)) (mS_16 C h a _ _) dX8_read_7 (fun H locs hP hD hS => ?_)
  obtain ⟨M2, hM2⟩ : ∃ z : Nat → Nat → Int, z = (mU M1 16 0 0) := ⟨_, rfl⟩
  rw [← hM2] at hP hD
  refine lv_aload_n hx hb dX8_read_10 rfl (lv_at hl 0 rfl) ?_
  refine lv_iconst (v := iZ 0) hx hb dX8_read_11 (by decide) ?_
  refine mq_put (ty := .int) hx hb hts hin hown hK hP hD hS 17 (by decide) (hts (.fieldLink RX8 117 "WordFletchersModel" "items" "I") (List.mem_cons_of_mem _ (List.mem_append_left _ (List.mem_append_left _ (List.mem_of_getElem? (i := 2) rfl))))) rfl (by decide +kernel) rfl rfl (mS_17 C h a _ _) dX8_read_12 (fun H locs hP hD hS => ?_)
  obtain ⟨M3, hM3⟩ : ∃ z : Nat → Nat → Int, z = (mU M2 17 0 0) := ⟨_, rfl⟩
  rw [← hM3] at hP hD
  refine W.eq (g2 := F0 m 15 ls []) rfl ?_
  refine lv_aload_n hx hb dX8_read_15 rfl (lv_at hl 0 rfl) ?_
  refine lv_iconst (v := iZ 0) hx hb dX8_read_16 (by decide) ?_
  refine mq_put (ty := .boolean) hx hb hts hin hown hK hP hD hS 18 (by decide) (hts (.fieldLink RX8 107 "WordFletchersModel" "isBlown" "Z") (List.mem_cons_of_mem _ (List.mem_append_left _ (List.mem_append_left _ (List.mem_of_getElem? (i := 3) rfl))))) rfl (by decide +kernel) (z_nbool (by omega)) (z_fbool (by omega)) (mS_18 C h a _ _) dX8_read_17 (fun H locs hP hD hS => ?_)
  obtain ⟨M4, hM4⟩ : ∃ z : Nat → Nat → Int, z = (mU M3 18 0 0) := ⟨_, rfl⟩
  rw [← hM4] at hP hD
  refine lv_aload_n hx hb dX8_read_20 rfl (lv_at hl 0 rfl) ?_
  refine mq_get hx hb hts hin hown hK hP 2 (by decide) (hts (.fieldLink RX8 13 "WordFletchersModel" "people" "[I") (List.mem_cons_of_mem _ (List.mem_append_left _ (List.mem_append_left _ (List.mem_of_getElem? (i := 4) rfl))))) rfl dX8_read_21 ?_
  refine lv_iconst (v := iZ 1) hx hb dX8_read_24 (by decide) ?_
  refine lv_iconst (v := iZ 0) hx hb dX8_read_25 (by decide) ?_
  refine mq_iast hx hb hK hP hD hS 2 2 (n := 2) rfl (fun k9 => mS_2 C h a _ k9 _) (by decide) 1 rfl (by omega) dX8_read_26 (fun H locs hP hD hS => ?_)
  obtain ⟨M5, hM5⟩ : ∃ z : Nat → Nat → Int, z = (mU M4 2 1 0) := ⟨_, rfl⟩
  rw [← hM5] at hP hD
  refine lv_aload_n hx hb dX8_read_27 rfl (lv_at hl 0 rfl) ?_
  refine mq_get hx hb hts hin hown hK hP 5 (by decide) (hts (.fieldLink RX8 23 "WordFletchersModel" "sayings" "[I") (List.mem_cons_of_mem _ (List.mem_append_left _ (List.mem_append_left _ (List.mem_of_getElem? (i := 5) rfl))))) rfl dX8_read_28 ?_
  refine lv_iconst (v := iZ 1) hx hb dX8_read_31 (by decide) ?_
  refine lv_iconst (v := iZ 0) hx hb dX8_read_32 (by decide) ?_
  refine W.eq (g2 := F0 m 33 ls [.int (iZ 0), .int (iZ 1), .ref (a 5)]) rfl ?_
  refine mq_iast hx hb hK hP hD hS 5 5 (n := 2) rfl (fun k9 => mS_5 C h a _ k9 _) (by decide) 1 rfl (by omega) dX8_read_33 (fun H locs hP hD hS => ?_)
  obtain ⟨M6, hM6⟩ : ∃ z : Nat → Nat → Int, z = (mU M5 5 1 0) := ⟨_, rfl⟩
  rw [← hM6] at hP hD
  refine lv_aload_n hx hb dX8_read_34 rfl (lv_at hl 0 rfl) ?_
  refine mq_get hx hb hts hin hown hK hP 9 (by decide) (hts (.fieldLink RX8 35 "WordFletchersModel" "winds" "[I") (List.mem_cons_of_mem _ (List.mem_append_left _ (List.mem_append_left _ (List.mem_of_getElem? (i := 6) rfl))))) rfl dX8_read_35 ?_
  refine lv_iconst (v := iZ 1) hx hb dX8_read_38 (by decide) ?_
  refine lv_iconst (v := iZ 1) hx hb dX8_read_39 (by decide) ?_
  refine mq_iast hx hb hK hP hD hS 9 9 (n := 2) rfl (fun k9 => mS_9 C h a _ k9 _) (by decide) 1 rfl (by omega) dX8_read_40 (fun H locs hP hD hS => ?_)
  obtain ⟨M7, hM7⟩ : ∃ z : Nat → Nat → Int, z = (mU M6 9 1 1) := ⟨_, rfl⟩
  rw [← hM7] at hP hD
  refine lv_aload_n hx hb dX8_read_41 rfl (lv_at hl 0 rfl) ?_
  refine mq_get hx hb hts hin hown hK hP 10 (by decide) (hts (.fieldLink RX8 38 "WordFletchersModel" "wind" "[I") (List.mem_cons_of_mem _ (List.mem_append_left _ (List.mem_append_left _ (List.mem_of_getElem? (i := 7) rfl))))) rfl dX8_read_42 ?_
  refine lv_bipush (v := iZ 6) hx hb dX8_read_45 (by decide) ?_
  refine lv_iconst (v := iZ 0) hx hb dX8_read_47 (by decide) ?_
  refine mq_iast hx hb hK hP hD hS 10 10 (n := 12) rfl (fun k9 => mS_10 C h a _ k9 _) (by decide) 6 rfl (by omega) dX8_read_48 (fun H locs hP hD hS => ?_)
  obtain ⟨M8, hM8⟩ : ∃ z : Nat → Nat → Int, z = (mU M7 10 6 0) := ⟨_, rfl⟩
  rw [← hM8] at hP hD
  have r0 : f_r0 M = M8 := by subst_vars; rfl
  refine lv_iconst (v := iZ 0) hx hb dX8_read_49 (by decide) ?_
  refine W.eq (g2 := F0 m 50 ls [.int (iZ 0)]) rfl ?_
  refine lv_istore_n (lv' := [(1, .int (iZ 0)), (0, .ref h)]) hx hb dX8_read_50 rfl hl (by decide) rfl (fun ls hl => ?_)
  replace hl : lv_has ls 2 [(1, .int (iZ (0 : Int))), (0, .ref h)] := lv_sub hl [0, 1] rfl
  replace hP := And.intro hP hS
  clear hS
  revert ls
  revert hP
  revert H locs
  refine z_loopH (σ := (Nat → Nat → Int) × Int) (fun x9 => (0 ≤ x9.2 ∧ x9.2 ≤ 4) ∧ (x9.1 = f_nin M8 (Int.toNat x9.2))) (fun x9 H9 locs9 => va_P D vwCl (mW C h a (x9.1)) H9 ∧ va_S (mA h a) s.heap H9 locs9) (fun x9 => [(1, .int (iZ (x9.2))), (0, .ref h)]) 2 (fun x9 => (4 - x9.2).toNat) (M8, (0 : Int)) ⟨(by show 0 ≤ (0 : Int) ∧ (0 : Int) ≤ 4; omega), (by show M8 = f_nin M8 (Int.toNat (0 : Int)); exact (f_nin_0 _).symm)⟩ ?_
  rintro ⟨Mp, kk⟩ hI9 ih51 H locs hPS ls hl
  have hP : va_P D vwCl (mW C h a Mp) H := hPS.1
  have hS : va_S (mA h a) s.heap H locs := hPS.2
  clear hPS
  have hD : va_D (mA h a) (mW C h a Mp) := mD_re hD
  obtain ⟨i1, i2⟩ := hI9
  replace i1 : 0 ≤ kk ∧ kk ≤ 4 := i1
  replace i2 : Mp = f_nin M8 (Int.toNat kk) := i2
  replace hl : lv_has ls 2 [(1, .int (iZ kk)), (0, .ref h)] := hl
  have v1 : Mp 1 0 = M 1 0 := by rw [i2, ← r0]; rfl
  have v12 : Mp 12 0 = 0 := by rw [i2, ← r0]; rfl
  refine lv_iload_n hx hb dX8_read_51 rfl (lv_at hl 0 rfl) ?_
  refine lv_iconst (v := iZ 4) hx hb dX8_read_52 (by decide) ?_
  refine z_icmp_ge (x := kk) (y := 4) (tgt := 70) hx hb (by omega) (by omega) dX8_read_53 (by decide) (fun c9 => ?_) (fun c9 => ?_)
  · have q4 : kk = 4 := by omega
    have e0 : f_nin (f_r0 M) 4 = Mp := by rw [r0, i2, q4]; rfl
    have pq : pQ Mp := by rw [← e0]; exact ⟨hT, ⟨Int.le_refl _, hT.1⟩, Or.inl rfl, Or.inl rfl, (by show (0 : Int) ≤ 0 ∧ (0 : Int) ≤ 6; decide), (by show (0 : Int) ≤ 0 ∧ (0 : Int) ≤ 6; decide), (by show (0 : Int) ≤ 1 ∧ (1 : Int) ≤ 6; decide)⟩
    refine lv_aload_n hx hb dX8_read_70 rfl (lv_at hl 1 rfl) ?_
    refine W.eq (g2 := F0 m 71 ls [.ref h]) rfl ?_
    refine mq_cv (As := []) (rest := []) ⟨hx, hb, hml, hown, hts⟩ hK hP hD hS hA (C_step l D C h a Mp  (by omega) (by omega) (hD.weaken (fun _ _ _ _ => trivial))) (cwV 0 hts gX8_read_X8_step rfl rfl rfl (by decide +kernel) ⟨Nat.le_of_ble_eq_true rfl, Nat.le_of_ble_eq_true rfl⟩) rfl rfl hl.1 (Nat.le_of_ble_eq_true rfl) ⟨Nat.le_of_ble_eq_true rfl, Nat.le_of_ble_eq_true rfl⟩ dX8_read_71 (fun H locs hP hD hS => ?_)
    obtain ⟨M11, hM11⟩ : ∃ z : Nat → Nat → Int, z = (f_step Mp) := ⟨_, rfl⟩
    rw [← hM11] at hP hD
    have e1 : f_r1 M = M11 := by unfold f_r1; rw [e0]; exact hM11.symm
    have hpS : pI M11 := by rw [hM11]; exact pI_stepq pq
    have s13 : M11 13 0 = s_a1 Mp := by rw [hM11]; exact f_step_13 _
    have s12 : ∀ _ : Unit, (s_a1 Mp ≤ M11 12 0 ∧ (¬ (M11 14 0 = 4) → s_a1 Mp < M11 12 0)) := fun _ => by rw [hM11]; exact f_step_12 (by omega) (by omega)
    have s16 : M11 16 0 = 0 := by rw [hM11]; exact (congrFun (f_step_o _ (by decide)) 0).trans (by rw [← e0]; rfl)
    have s17 : M11 17 0 = 0 := by rw [hM11]; exact (congrFun (f_step_o _ (by decide)) 0).trans (by rw [← e0]; rfl)
    have sa := s_a1_bd (M := Mp) (by omega)
    replace hl : lv_has ls 2 [(0, .ref h)] := lv_sub hl [1] rfl
    replace hP := And.intro hP hS
    clear hS
    revert ls
    revert hP
    revert H locs
    refine z_loopH (σ := (Nat → Nat → Int)) (fun x9 => (pJ x9) ∧ (∀ _ : Unit, ¬ (x9 14 0 = 4) → x9 16 0 = 0 → x9 13 0 < x9 12 0) ∧ (∀ _ : Unit, x9 16 0 = 0 → 0 ≤ x9 17 0 ∧ x9 17 0 ≤ x9 13 0) ∧ (f_read M = f_rdN (Int.toNat (200 - x9 17 0)) x9)) (fun x9 H9 locs9 => va_P D vwCl (mW C h a x9) H9 ∧ va_S (mA h a) s.heap H9 locs9) (fun x9 => [(0, .ref h)]) 2 (fun x9 => (Int.toNat (if x9 16 0 = 0 then 122 - x9 13 0 else 0))) M11 ⟨(by show pJ M11; have t9 := s12 (); exact ⟨hpS, by omega⟩), (by show ∀ _ : Unit, ¬ (M11 14 0 = 4) → M11 16 0 = 0 → M11 13 0 < M11 12 0; intro _ y9 z9; have t9 := s12 (); omega), (by show ∀ _ : Unit, M11 16 0 = 0 → 0 ≤ M11 17 0 ∧ M11 17 0 ≤ M11 13 0; intro _ z9; omega), (by show f_read M = f_rdN (Int.toNat (200 - M11 17 0)) M11; unfold f_read; rw [e1, s17]; rfl)⟩ ?_
    rintro Ma hI9 ih74 H locs hPS ls hl
    have hP : va_P D vwCl (mW C h a Ma) H := hPS.1
    have hS : va_S (mA h a) s.heap H locs := hPS.2
    clear hPS
    have hD : va_D (mA h a) (mW C h a Ma) := mD_re hD
    obtain ⟨r1, r2, r3, r4⟩ := hI9
    replace r1 : pJ Ma := r1
    replace r2 : ∀ _ : Unit, ¬ (Ma 14 0 = 4) → Ma 16 0 = 0 → Ma 13 0 < Ma 12 0 := r2
    replace r3 : ∀ _ : Unit, Ma 16 0 = 0 → 0 ≤ Ma 17 0 ∧ Ma 17 0 ≤ Ma 13 0 := r3
    replace r4 : f_read M = f_rdN (Int.toNat (200 - Ma 17 0)) Ma := r4
    replace hl : lv_has ls 2 [(0, .ref h)] := hl
    obtain ⟨z1, z2, z3, z4, z5, z6, z7, z8, z9, z10⟩ := id r1.1
    have hp_Ma : pI Ma := r1.1
    refine lv_aload_n hx hb dX8_read_74 rfl (lv_at hl 0 rfl) ?_
    refine mq_get hx hb hts hin hown hK hP 14 (by decide) (hts (.fieldLink RX8 93 "WordFletchersModel" "sort" "I") (List.mem_cons_of_mem _ (List.mem_append_left _ (List.mem_append_left _ (List.mem_of_getElem? (i := 9) rfl))))) rfl dX8_read_75 ?_
    refine lv_iconst (v := iZ 4) hx hb dX8_read_78 (by decide) ?_
    refine z_icmp_eq (x := (Ma 14 0)) (y := 4) (tgt := 173) hx hb (by omega) (by omega) dX8_read_79 (by decide) (fun c12 => ?_) (fun c12 => ?_)
    · exact mq_retV hx hb hK hP hS hr (by rw [r4]; exact (f_rdN_stop _ (by omega)).symm) dX8_read_173 hlocks
    · refine lv_aload_n hx hb dX8_read_82 rfl (lv_at hl 0 rfl) ?_
      refine mq_get hx hb hts hin hown hK hP 16 (by decide) (hts (.fieldLink RX8 96 "WordFletchersModel" "isWrong" "Z") (List.mem_cons_of_mem _ (List.mem_append_left _ (List.mem_append_left _ (List.mem_of_getElem? (i := 1) rfl))))) rfl dX8_read_83 ?_
      refine z_if_ne (x := (Ma 16 0)) (tgt := 173) hx hb (by omega) dX8_read_86 (by decide) (fun c13 => ?_) (fun c13 => ?_)
      · exact mq_retV hx hb hK hP hS hr (by rw [r4]; exact (f_rdN_stop _ (by omega)).symm) dX8_read_173 hlocks
      · have r2a := r2 () (by omega) (by omega)
        have r3a := r3 () (by omega)
        refine lv_aload_n hx hb dX8_read_89 rfl (lv_at hl 0 rfl) ?_
        refine mq_get hx hb hts hin hown hK hP 14 (by decide) (hts (.fieldLink RX8 93 "WordFletchersModel" "sort" "I") (List.mem_cons_of_mem _ (List.mem_append_left _ (List.mem_append_left _ (List.mem_of_getElem? (i := 9) rfl))))) rfl dX8_read_90 ?_
        refine W.eq (g2 := F0 m 93 ls [.int (iZ (Ma 14 0))]) rfl ?_
        refine lv_iconst (v := iZ 1) hx hb dX8_read_93 (by decide) ?_
        have K16 : ∀ (v15 : Int), (v15 = (if (Ma 14 0) = 1 then (Ma 15 0) else 0)) → ∀ ls : Array Slot, lv_has ls 2 [(0, .ref h)] → W p l e ((headSpec wsX8_read ({ frames := 6, cells := 0, slots := 0, locals := 132 })).room) s m (([.ref h] : List Value).toArray) below meth c H locs 0 0 (MQ below (va_Qv (fun (_ : Unit) => True) (fun _ t => mOk D C h a (f_read M) t) (mA h a)) (([.ref h] : List Value).toArray) s 0 0 (mA h a)) (F0 m 105 ls [.int (iZ v15)]) := by
          intro v15 hv15 ls hl
          have hw9 : v15 = s_wd Ma := by unfold s_wd; omega
          refine lv_istore_n (lv' := [(1, .int (iZ v15)), (0, .ref h)]) hx hb dX8_read_105 rfl hl (by decide) rfl (fun ls hl => ?_)
          refine lv_aload_n hx hb dX8_read_106 rfl (lv_at hl 1 rfl) ?_
          refine lv_aload_n hx hb dX8_read_107 rfl (lv_at hl 1 rfl) ?_
          refine mq_get hx hb hts hin hown hK hP 14 (by decide) (hts (.fieldLink RX8 93 "WordFletchersModel" "sort" "I") (List.mem_cons_of_mem _ (List.mem_append_left _ (List.mem_append_left _ (List.mem_of_getElem? (i := 9) rfl))))) rfl dX8_read_108 ?_
          refine lv_iconst (v := iZ 1) hx hb dX8_read_111 (by decide) ?_
          have K20 : ∀ (v19 : Int), (v19 = (if (Ma 14 0) = 1 then (if s_may Ma v15 = 0 then 0 else 1) else 0)) → ∀ ls : Array Slot, lv_has ls 2 [(1, .int (iZ v15)), (0, .ref h)] → W p l e ((headSpec wsX8_read ({ frames := 6, cells := 0, slots := 0, locals := 132 })).room) s m (([.ref h] : List Value).toArray) below meth c H locs 0 0 (MQ below (va_Qv (fun (_ : Unit) => True) (fun _ t => mOk D C h a (f_read M) t) (mA h a)) (([.ref h] : List Value).toArray) s 0 0 (mA h a)) (F0 m 128 ls [.int (iZ v19), .ref h]) := by
            intro v19 hv19 ls hl
            refine mq_cv (As := [.int (iZ v19)]) (rest := []) ⟨hx, hb, hml, hown, hts⟩ hK hP hD hS hA (C_due l D C h a Ma v19 hp_Ma (by omega) (hD.weaken (fun _ _ _ _ => trivial))) (cwV 1 hts gX8_read_X8_due rfl rfl rfl (by decide +kernel) ⟨Nat.le_of_ble_eq_true rfl, Nat.le_of_ble_eq_true rfl⟩) rfl rfl hl.1 (Nat.le_of_ble_eq_true rfl) ⟨Nat.le_of_ble_eq_true rfl, Nat.le_of_ble_eq_true rfl⟩ dX8_read_128 (fun H locs hP hD hS => ?_)
            obtain ⟨M21, hM21⟩ : ∃ z : Nat → Nat → Int, z = (f_due Ma v19) := ⟨_, rfl⟩
            rw [← hM21] at hP hD
            have hA9 : f_rA Ma = M21 := by rw [hM21]; unfold f_rA; congr 1; unfold s_gd; rw [← hw9]; omega
            have gA : pGo Ma M21 := by rw [hM21]; exact pGo_due r1 _
            have hp_M21 : pI M21 := gA.1.1
            have a5 := hp_M21.2.2.2.2.1
            have a2 := hp_M21.2.1
            have a1 := hp_M21.1
            have a10 := hp_M21.2.2.2.2.2.2.2.2.2
            have gA2 := gA.2
            have o2 := congrFun (show M21 2 = Ma 2 by rw [hM21]; exact f_due_o _ _ (by decide)) 1
            have o5 := congrFun (show M21 5 = Ma 5 by rw [hM21]; exact f_due_o _ _ (by decide)) 1
            have o17 := congrFun (show M21 17 = Ma 17 by rw [hM21]; exact f_due_o _ _ (by decide)) 0
            have hAs : ∀ _ : Unit, M21 16 0 = 0 → Ma 12 0 ≤ M21 13 0 := fun _ z9 => by have t9 : f_due Ma (s_gd Ma) 16 0 = 0 := (by show f_rA Ma 16 0 = 0; rw [hA9]; exact z9); have t8 : M21 = f_step Ma := (by rw [← hA9]; exact f_due_go t9); rw [t8, f_step_13]; exact (s_a1_bd (by omega)).1
            have hAm : ∀ _ : Unit, M21 16 0 = 0 → Ma 14 0 = 1 ∧ ¬ (s_may Ma (s_wd Ma) = 0) := fun _ z9 => by have t9 : f_due Ma (s_gd Ma) 16 0 = 0 := (by show f_rA Ma 16 0 = 0; rw [hA9]; exact z9); have u9 := (f_due_ok t9).2; unfold s_gd at u9; omega
            have hm2 : ∀ _ : Unit, M21 16 0 = 0 → s_wd Ma = 112 → M21 2 1 < 6 := fun _ z9 y9 => by have t9 := (hAm () z9).2; unfold s_may at t9; omega
            have hm3 : ∀ _ : Unit, M21 16 0 = 0 → s_wd Ma = 115 → M21 5 1 < 6 := fun _ z9 y9 => by have t9 := (hAm () z9).2; unfold s_may at t9; omega
            refine lv_aload_n hx hb dX8_read_131 rfl (lv_at hl 1 rfl) ?_
            refine mq_get hx hb hts hin hown hK hP 16 (by decide) (hts (.fieldLink RX8 96 "WordFletchersModel" "isWrong" "Z") (List.mem_cons_of_mem _ (List.mem_append_left _ (List.mem_append_left _ (List.mem_of_getElem? (i := 1) rfl))))) rfl dX8_read_132 ?_
            refine z_if_ne (x := (M21 16 0)) (tgt := 170) hx hb (by omega) dX8_read_135 (by decide) (fun c22 => ?_) (fun c22 => ?_)
            · refine lv_goto (tgt := 74) hx hb dX8_read_170 (by decide) ?_
              exact ih74 M21 ⟨(by show pJ M21; first | exact gD.1 | exact gA.1), (by show ∀ _ : Unit, ¬ (M21 14 0 = 4) → M21 16 0 = 0 → M21 13 0 < M21 12 0; intro _ y9 z9; first | (have t9 := hCr () (by omega) (by omega); omega) | omega), (by show ∀ _ : Unit, M21 16 0 = 0 → 0 ≤ M21 17 0 ∧ M21 17 0 ≤ M21 13 0; intro _ z9; omega), (by show f_read M = f_rdN (Int.toNat (200 - M21 17 0)) M21; rw [r4, f_rdN_go (by omega) ⟨by omega, by omega⟩]; first | (rw [hD9]; congr 2; omega) | (have t9 : f_rd1 Ma = f_rA Ma := (by unfold f_rd1; exact if_neg (by rw [hA9]; omega)); rw [t9, hA9, f_rdN_stop _ (by omega), f_rdN_stop _ (by omega)]) | omega)⟩ (by show (Int.toNat (if M21 16 0 = 0 then 122 - M21 13 0 else 0)) < (Int.toNat (if Ma 16 0 = 0 then 122 - Ma 13 0 else 0)); omega) H locs ⟨hP, hS⟩ ls (lv_sub hl [1] rfl)
            · have hA0 : M21 16 0 = 0 := by omega
              have hAs1 := hAs () hA0
              refine lv_aload_n hx hb dX8_read_138 rfl (lv_at hl 1 rfl) ?_
              refine lv_iload_n hx hb dX8_read_139 rfl (lv_at hl 0 rfl) ?_
              refine mq_cv (As := [.int (iZ v15)]) (rest := []) ⟨hx, hb, hml, hown, hts⟩ hK hP hD hS hA (C_item l D C h a M21 v15 hp_M21 (by omega) (fun z9 => hm2 () hA0 (by rw [← hw9]; exact z9)) (fun z9 => hm3 () hA0 (by rw [← hw9]; exact z9)) (hD.weaken (fun _ _ _ _ => trivial))) (cwV 1 hts gX8_read_X8_item rfl rfl rfl (by decide +kernel) ⟨Nat.le_of_ble_eq_true rfl, Nat.le_of_ble_eq_true rfl⟩) rfl rfl hl.1 (Nat.le_of_ble_eq_true rfl) ⟨Nat.le_of_ble_eq_true rfl, Nat.le_of_ble_eq_true rfl⟩ dX8_read_140 (fun H locs hP hD hS => ?_)
              obtain ⟨M29, hM29⟩ : ∃ z : Nat → Nat → Int, z = (f_item M21 v15) := ⟨_, rfl⟩
              rw [← hM29] at hP hD
              have gB : pGo M21 M29 := by rw [hM29]; exact pGo_item gA.1 (fun z9 => hm2 () hA0 (by rw [← hw9]; exact z9)) (fun z9 => hm3 () hA0 (by rw [← hw9]; exact z9))
              have hB9 : f_item M21 (s_wd Ma) = M29 := by rw [← hw9]; exact hM29.symm
              have hp_M29 : pI M29 := gB.1.1
              have b1 := hp_M29.1
              have b2 := hp_M29.2.1
              have b4 := hp_M29.2.2.2.1
              have b5 := hp_M29.2.2.2.2.1
              have b10 := hp_M29.2.2.2.2.2.2.2.2.2
              have gB2 := gB.2
              have o17b := congrFun (show M29 17 = M21 17 by rw [hM29]; exact f_item_17 _ _) 0
              refine lv_aload_n hx hb dX8_read_143 rfl (lv_at hl 1 rfl) ?_
              refine lv_aload_n hx hb dX8_read_144 rfl (lv_at hl 1 rfl) ?_
              refine W.eq (g2 := F0 m 145 ls [.ref h, .ref h]) rfl ?_
              refine mq_get hx hb hts hin hown hK hP 14 (by decide) (hts (.fieldLink RX8 93 "WordFletchersModel" "sort" "I") (List.mem_cons_of_mem _ (List.mem_append_left _ (List.mem_append_left _ (List.mem_of_getElem? (i := 9) rfl))))) rfl dX8_read_145 ?_
              refine lv_iconst (v := iZ 3) hx hb dX8_read_148 (by decide) ?_
              have K32 : ∀ (v31 : Int), (v31 = (if (M29 14 0) = 3 then 1 else 0)) → ∀ ls : Array Slot, lv_has ls 2 [(0, .ref h)] → W p l e ((headSpec wsX8_read ({ frames := 6, cells := 0, slots := 0, locals := 132 })).room) s m (([.ref h] : List Value).toArray) below meth c H locs 0 0 (MQ below (va_Qv (fun (_ : Unit) => True) (fun _ t => mOk D C h a (f_read M) t) (mA h a)) (([.ref h] : List Value).toArray) s 0 0 (mA h a)) (F0 m 157 ls [.int (iZ v31), .ref h]) := by
                intro v31 hv31 ls hl
                refine mq_cv (As := [.int (iZ v31)]) (rest := []) ⟨hx, hb, hml, hown, hts⟩ hK hP hD hS hA (C_due l D C h a M29 v31 hp_M29 (by omega) (hD.weaken (fun _ _ _ _ => trivial))) (cwV 1 hts gX8_read_X8_due rfl rfl rfl (by decide +kernel) ⟨Nat.le_of_ble_eq_true rfl, Nat.le_of_ble_eq_true rfl⟩) rfl rfl hl.1 (Nat.le_of_ble_eq_true rfl) ⟨Nat.le_of_ble_eq_true rfl, Nat.le_of_ble_eq_true rfl⟩ dX8_read_157 (fun H locs hP hD hS => ?_)
                obtain ⟨M33, hM33⟩ : ∃ z : Nat → Nat → Int, z = (f_due M29 v31) := ⟨_, rfl⟩
                rw [← hM33] at hP hD
                have hC9 : f_rC M29 = M33 := by rw [hM33]; unfold f_rC; congr 1; omega
                have gC : pGo M29 M33 := by rw [hM33]; exact pGo_due gB.1 _
                have hp_M33 : pI M33 := gC.1.1
                have d5 := hp_M33.2.2.2.2.1
                have d4 := hp_M33.2.2.2.1
                have d10 := hp_M33.2.2.2.2.2.2.2.2.2
                have gC2 := gC.2
                have o17c := congrFun (show M33 17 = M29 17 by rw [hM33]; exact f_due_o _ _ (by decide)) 0
                have hCr : ∀ _ : Unit, M33 16 0 = 0 → ¬ (M33 14 0 = 4) → M33 13 0 < M33 12 0 := fun _ z9 y9 => by have t9 : f_due M29 (if M29 14 0 = 3 then 1 else 0) 16 0 = 0 := (by show f_rC M29 16 0 = 0; rw [hC9]; exact z9); have t8 : M33 = f_step M29 := (by rw [← hC9]; exact f_due_go t9); rw [t8] at y9 ⊢; rw [f_step_13]; exact (f_step_12 (by omega) (by omega)).2 y9
                refine lv_aload_n hx hb dX8_read_160 rfl (lv_at hl 0 rfl) ?_
                refine lv_dup hx hb dX8_read_161 rfl ?_
                refine mq_get hx hb hts hin hown hK hP 17 (by decide) (hts (.fieldLink RX8 117 "WordFletchersModel" "items" "I") (List.mem_cons_of_mem _ (List.mem_append_left _ (List.mem_append_left _ (List.mem_of_getElem? (i := 2) rfl))))) rfl dX8_read_162 ?_
                refine lv_iconst (v := iZ 1) hx hb dX8_read_165 (by decide) ?_
                refine z_iadd hx hb dX8_read_166 ?_
                refine W.eq (g2 := F0 m 167 ls [.int (iZ ((M33 17 0) + 1)), .ref h]) rfl ?_
                refine mq_put (ty := .int) hx hb hts hin hown hK hP hD hS 17 (by decide) (hts (.fieldLink RX8 117 "WordFletchersModel" "items" "I") (List.mem_cons_of_mem _ (List.mem_append_left _ (List.mem_append_left _ (List.mem_of_getElem? (i := 2) rfl))))) rfl (by decide +kernel) rfl rfl (mS_17 C h a _ _) dX8_read_167 (fun H locs hP hD hS => ?_)
                obtain ⟨M34, hM34⟩ : ∃ z : Nat → Nat → Int, z = (mU M33 17 0 ((M33 17 0) + 1)) := ⟨_, rfl⟩
                rw [← hM34] at hP hD
                have hD9 : f_rd1 Ma = M34 := by unfold f_rd1; rw [hA9, if_pos (by omega), hB9, hC9, hM34]; rfl
                have gD : pGo Ma M34 := by have g9 := pGo_tr (pGo_tr gA gB) gC; rw [hM34]; exact ⟨⟨g9.1.1, g9.1.2⟩, g9.2⟩
                have gD2 := gD.2
                have e13 : M34 13 0 = M33 13 0 := by rw [hM34]; rfl
                have e12 : M34 12 0 = M33 12 0 := by rw [hM34]; rfl
                have e14 : M34 14 0 = M33 14 0 := by rw [hM34]; rfl
                have e16 : M34 16 0 = M33 16 0 := by rw [hM34]; rfl
                have e17 : M34 17 0 = M33 17 0 + 1 := by rw [hM34]; exact mU_eq _ _ _ _
                have hpD := gD.1.1.2.2.2.2.2.2.2.2.2
                have hpE := gD.1.1.2.2.2.2.1
                refine lv_goto (tgt := 74) hx hb dX8_read_170 (by decide) ?_
                exact ih74 M34 ⟨(by show pJ M34; first | exact gD.1 | exact gA.1), (by show ∀ _ : Unit, ¬ (M34 14 0 = 4) → M34 16 0 = 0 → M34 13 0 < M34 12 0; intro _ y9 z9; first | (have t9 := hCr () (by omega) (by omega); omega) | omega), (by show ∀ _ : Unit, M34 16 0 = 0 → 0 ≤ M34 17 0 ∧ M34 17 0 ≤ M34 13 0; intro _ z9; omega), (by show f_read M = f_rdN (Int.toNat (200 - M34 17 0)) M34; rw [r4, f_rdN_go (by omega) ⟨by omega, by omega⟩]; first | (rw [hD9]; congr 2; omega) | (have t9 : f_rd1 Ma = f_rA Ma := (by unfold f_rd1; exact if_neg (by rw [hA9]; omega)); rw [t9, hA9, f_rdN_stop _ (by omega), f_rdN_stop _ (by omega)]) | omega)⟩ (by show (Int.toNat (if M34 16 0 = 0 then 122 - M34 13 0 else 0)) < (Int.toNat (if Ma 16 0 = 0 then 122 - Ma 13 0 else 0)); omega) H locs ⟨hP, hS⟩ ls (lv_sub hl [0] rfl)
              refine z_icmp_ne (x := (M29 14 0)) (y := 3) (tgt := 156) hx hb (by omega) (by omega) dX8_read_149 (by decide) (fun c30 => ?_) (fun c30 => ?_)
              · refine lv_iconst (v := iZ 0) hx hb dX8_read_156 (by decide) ?_
                exact K32 0 (by first | rfl | (rw [if_neg c30]; done) | omega | (subst_vars; first | rfl | (rw [if_neg c30]; done) | omega)) ls (lv_sub hl [1] rfl)
              · refine lv_iconst (v := iZ 1) hx hb dX8_read_152 (by decide) ?_
                refine lv_goto (tgt := 157) hx hb dX8_read_153 (by decide) ?_
                exact K32 1 (by first | rfl | (rw [if_pos c30]; done) | omega | (subst_vars; first | rfl | (rw [if_pos c30]; done) | omega)) ls (lv_sub hl [1] rfl)
          refine z_icmp_ne (x := (Ma 14 0)) (y := 1) (tgt := 127) hx hb (by omega) (by omega) dX8_read_112 (by decide) (fun c17 => ?_) (fun c17 => ?_)
          · refine W.eq (g2 := F0 m 127 ls [.ref h]) rfl ?_
            refine lv_iconst (v := iZ 0) hx hb dX8_read_127 (by decide) ?_
            exact K20 0 (by first | rfl | (rw [if_neg c17]; done) | omega | (subst_vars; first | rfl | (rw [if_neg c17]; done) | omega)) ls (lv_sub hl [0, 1] rfl)
          · refine lv_aload_n hx hb dX8_read_115 rfl (lv_at hl 1 rfl) ?_
            refine lv_iload_n hx hb dX8_read_116 rfl (lv_at hl 0 rfl) ?_
            refine mq_ci (As := [.int (iZ v15)]) (rest := [.ref h]) ⟨hx, hb, hml, hown, hts⟩ hK hP (C_may l D C h a Ma v15 hp_Ma (by omega)) (cwV 1 hts gX8_read_X8_may rfl rfl rfl (by decide +kernel) ⟨Nat.le_of_ble_eq_true rfl, Nat.le_of_ble_eq_true rfl⟩) rfl rfl hl.1 (Nat.le_of_ble_eq_true rfl) ⟨Nat.le_of_ble_eq_true rfl, Nat.le_of_ble_eq_true rfl⟩ dX8_read_117 ?_
            have hmy := s_may_bd Ma v15
            refine z_if_eq (x := s_may Ma v15) (tgt := 127) hx hb (by omega) dX8_read_120 (by decide) (fun c18 => ?_) (fun c18 => ?_)
            · refine lv_iconst (v := iZ 0) hx hb dX8_read_127 (by decide) ?_
              exact K20 0 (by first | rfl | (rw [if_pos c17, if_pos c18]; done) | omega | (subst_vars; first | rfl | (rw [if_pos c17, if_pos c18]; done) | omega)) ls (lv_sub hl [0, 1] rfl)
            · refine lv_iconst (v := iZ 1) hx hb dX8_read_123 (by decide) ?_
              refine lv_goto (tgt := 128) hx hb dX8_read_124 (by decide) ?_
              exact K20 1 (by first | rfl | (rw [if_pos c17, if_neg c18]; done) | omega | (subst_vars; first | rfl | (rw [if_pos c17, if_neg c18]; done) | omega)) ls (lv_sub hl [0, 1] rfl)
        refine z_icmp_ne (x := (Ma 14 0)) (y := 1) (tgt := 104) hx hb (by omega) (by omega) dX8_read_94 (by decide) (fun c14 => ?_) (fun c14 => ?_)
        · refine lv_iconst (v := iZ 0) hx hb dX8_read_104 (by decide) ?_
          exact K16 0 (by first | rfl | (rw [if_neg c14]; done) | omega | (subst_vars; first | rfl | (rw [if_neg c14]; done) | omega)) ls (lv_sub hl [0] rfl)
        · refine lv_aload_n hx hb dX8_read_97 rfl (lv_at hl 0 rfl) ?_
          refine mq_get hx hb hts hin hown hK hP 15 (by decide) (hts (.fieldLink RX8 90 "WordFletchersModel" "value" "I") (List.mem_cons_of_mem _ (List.mem_append_left _ (List.mem_append_left _ (List.mem_of_getElem? (i := 10) rfl))))) rfl dX8_read_98 ?_
          refine lv_goto (tgt := 105) hx hb dX8_read_101 (by decide) ?_
          exact K16 (Ma 15 0) (by first | rfl | (rw [if_pos c14]; done) | omega | (subst_vars; first | rfl | (rw [if_pos c14]; done) | omega)) ls (lv_sub hl [0] rfl)
  · refine lv_aload_n hx hb dX8_read_56 rfl (lv_at hl 1 rfl) ?_
    refine mq_get hx hb hts hin hown hK hP 11 (by decide) (hts (.fieldLink RX8 41 "WordFletchersModel" "plenty" "[I") (List.mem_cons_of_mem _ (List.mem_append_left _ (List.mem_append_left _ (List.mem_of_getElem? (i := 8) rfl))))) rfl dX8_read_57 ?_
    refine lv_iload_n hx hb dX8_read_60 rfl (lv_at hl 0 rfl) ?_
    refine lv_bipush (v := iZ 9) hx hb dX8_read_61 (by decide) ?_
    refine mq_iast hx hb hK hP hD hS 11 11 (n := 4) rfl (fun k9 => mS_11 C h a _ k9 _) (by decide) (Int.toNat kk) rfl (by omega) dX8_read_63 (fun H locs hP hD hS => ?_)
    obtain ⟨M35, hM35⟩ : ∃ z : Nat → Nat → Int, z = (mU Mp 11 (Int.toNat kk) 9) := ⟨_, rfl⟩
    rw [← hM35] at hP hD
    refine lv_iinc (v := iZ (kk + 1)) (lv' := [(1, .int (iZ (kk + 1))), (0, .ref h)]) hx hb dX8_read_64 hl (k := 0) rfl (iZ_add _ _) (by decide) rfl (fun ls hl => ?_)
    refine lv_goto (tgt := 51) hx hb dX8_read_67 (by decide) ?_
    exact ih51 (M35, (kk + 1)) ⟨(by show 0 ≤ (kk + 1) ∧ (kk + 1) ≤ 4; omega), (by show M35 = f_nin M8 (Int.toNat (kk + 1)); rw [f_nin_step _ (by omega), ← i2]; assumption)⟩ (by show (4 - (kk + 1)).toNat < (4 - kk).toNat; omega) H locs ⟨hP, hS⟩ ls (lv_sub hl [0, 1] rfl)
