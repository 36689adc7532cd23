set_option maxHeartbeats 20000000 in
set_option maxRecDepth 100000 in
theorem C_uplands (l : Launch) (D : va_G) (C : mC) (h : Nat) (a : Nat → Nat) (M : Nat → Nat → Int) (hT : 0 ≤ M 1 0 ∧ M 1 0 ≤ 120) (h16 : f_read M 16 0 = 0 ∨ f_read M 16 0 = 1) (hsy : ∀ _ : Unit, f_read M 16 0 = 0 → (0 ≤ f_read M 5 1 ∧ f_read M 5 1 ≤ 6) ∧ ∀ k : Nat, (k : Int) < f_read M 5 1 → 0 ≤ f_read M 8 (6 + k) ∧ f_read M 8 (6 + k) ≤ 30) (hN : va_D (fun _ => True) (mW C h a M)) : Met l yX8_uplands wsX8_uplands ({ frames := 7, cells := 0, slots := 0, locals := 153 }) (va_Pc [.ref h] (mOk D C h a M)) (va_Qi (fun r (_ : Unit) => r = iZ (if f_read M 16 0 = 0 then f_read M 17 0 else -10 - f_read M 13 0)) (fun _ t => mOk D C h a (f_upl M) t) (mA h a)) 0 0 (mA h a) := by
  refine Met.ofW (cc := cX8_uplands) (maxL := 2) (ret := (some .int)) (by decide) rfl ?_
  intro p e s m args below meth c s₁ B hml hv
  obtain ⟨rfl, hP, hK⟩ := hv
  have hx := B.exec
  have hb := B.bytes
  have hr := B.returns
  have hts := atoms_spec (ws := wsX8_uplands) B.pre
  have hown : s.vm.findClass RX8 = some m.cls := findClass_of_methodNamed B.named
  have hlocks := B.notSynchronized
  have hin : ∀ w ∈ wsX80, w ∈ wsX8_uplands := fun _ w_h => (List.mem_cons_of_mem _ (List.mem_append_right _ w_h))
  have hl := lv_entry ([.ref h]) (n := 2) (Nat.le_of_ble_eq_true rfl)
  rw [lg_entry_eq]
  generalize (lg_sl ([.ref h]) ++ List.replicate (2 - (lg_sl ([.ref h])).length) Slot.unset).toArray = ls at hl ⊢
  replace hl : lv_has ls 2 [(0, .ref h)] := hl
  have hD : va_D (mA h a) (mW C h a M) := mD_own hN
  have hA : ∀ q, mA h a q → mA h a q := fun _ h9 => h9
  generalize hHe : s.heap = H at hP ⊢
  have hS : va_S (mA h a) s.heap H [] := by rw [hHe]; exact va_S.rf
  generalize hlo : ([] : List Loc) = locs at hS ⊢
  clear hHe hlo
  refine lv_aload_n hx hb dX8_uplands_0 rfl (lv_at hl 0 rfl) ?_
  refine mq_cv (As := []) (rest := []) ⟨hx, hb, hml, hown, hts⟩ hK hP hD hS hA (C_read l D C h a M  (by omega) (hD.weaken (fun _ _ _ _ => trivial))) (cwV 0 hts gX8_uplands_X8_read rfl rfl rfl (by decide +kernel) ⟨Nat.le_of_ble_eq_true rfl, Nat.le_of_ble_eq_true rfl⟩) rfl rfl hl.1 (Nat.le_of_ble_eq_true rfl) ⟨Nat.le_of_ble_eq_true rfl, Nat.le_of_ble_eq_true rfl⟩ dX8_uplands_1 (fun H locs hP hD hS => ?_)
  obtain ⟨M1, hM1⟩ : ∃ z : Nat → Nat → Int, z = (f_read M) := ⟨_, rfl⟩
  rw [← hM1] at hP hD
  have h16 : M1 16 0 = 0 ∨ M1 16 0 = 1 := by rw [hM1]; exact h16
  have hrd := hM1
  refine lv_aload_n hx hb dX8_uplands_4 rfl (lv_at hl 0 rfl) ?_
  refine W.eq (g2 := F0 m 5 ls [.ref h]) rfl ?_
  refine mq_get hx hb hts hin hown hK hP 16 (by decide) (hts (.fieldLink RX8 96 "WordFletchersModel" "isWrong" "Z") (List.mem_cons_of_mem _ (List.mem_append_left _ (List.mem_append_left _ (List.mem_of_getElem? (i := 0) rfl))))) rfl dX8_uplands_5 ?_
  refine z_if_eq (x := (M1 16 0)) (tgt := 19) hx hb (by omega) dX8_uplands_8 (by decide) (fun c2 => ?_) (fun c2 => ?_)
  · refine lv_aload_n hx hb dX8_uplands_19 rfl (lv_at hl 0 rfl) ?_
    refine mq_get hx hb hts hin hown hK hP 2 (by decide) (hts (.fieldLink RX8 13 "WordFletchersModel" "people" "[I") (List.mem_cons_of_mem _ (List.mem_append_left _ (List.mem_append_left _ (List.mem_of_getElem? (i := 2) rfl))))) rfl dX8_uplands_20 ?_
    refine lv_iconst (v := iZ 0) hx hb dX8_uplands_23 (by decide) ?_
    refine lv_aload_n hx hb dX8_uplands_24 rfl (lv_at hl 0 rfl) ?_
    refine mq_get hx hb hts hin hown hK hP 2 (by decide) (hts (.fieldLink RX8 13 "WordFletchersModel" "people" "[I") (List.mem_cons_of_mem _ (List.mem_append_left _ (List.mem_append_left _ (List.mem_of_getElem? (i := 2) rfl))))) rfl dX8_uplands_25 ?_
    refine lv_iconst (v := iZ 1) hx hb dX8_uplands_28 (by decide) ?_
    refine mq_iald hx hb hK hP 2 2 (n := 2) rfl (by decide) 1 rfl (by omega) dX8_uplands_29 ?_
    refine mq_iast hx hb hK hP hD hS 2 2 (n := 2) rfl (fun k9 => mS_2 C h a _ k9 _) (by decide) 0 rfl (by omega) dX8_uplands_30 (fun H locs hP hD hS => ?_)
    obtain ⟨M3, hM3⟩ : ∃ z : Nat → Nat → Int, z = (mU M1 2 0 (M1 2 1)) := ⟨_, rfl⟩
    rw [← hM3] at hP hD
    refine lv_aload_n hx hb dX8_uplands_31 rfl (lv_at hl 0 rfl) ?_
    refine mq_get hx hb hts hin hown hK hP 5 (by decide) (hts (.fieldLink RX8 23 "WordFletchersModel" "sayings" "[I") (List.mem_cons_of_mem _ (List.mem_append_left _ (List.mem_append_left _ (List.mem_of_getElem? (i := 3) rfl))))) rfl dX8_uplands_32 ?_
    refine W.eq (g2 := F0 m 35 ls [.ref (a 5)]) rfl ?_
    refine lv_iconst (v := iZ 0) hx hb dX8_uplands_35 (by decide) ?_
    refine lv_aload_n hx hb dX8_uplands_36 rfl (lv_at hl 0 rfl) ?_
    refine mq_get hx hb hts hin hown hK hP 5 (by decide) (hts (.fieldLink RX8 23 "WordFletchersModel" "sayings" "[I") (List.mem_cons_of_mem _ (List.mem_append_left _ (List.mem_append_left _ (List.mem_of_getElem? (i := 3) rfl))))) rfl dX8_uplands_37 ?_
    refine lv_iconst (v := iZ 1) hx hb dX8_uplands_40 (by decide) ?_
    refine mq_iald hx hb hK hP 5 5 (n := 2) rfl (by decide) 1 rfl (by omega) dX8_uplands_41 ?_
    refine mq_iast hx hb hK hP hD hS 5 5 (n := 2) rfl (fun k9 => mS_5 C h a _ k9 _) (by decide) 0 rfl (by omega) dX8_uplands_42 (fun H locs hP hD hS => ?_)
    obtain ⟨M4, hM4⟩ : ∃ z : Nat → Nat → Int, z = (mU M3 5 0 (M3 5 1)) := ⟨_, rfl⟩
    rw [← hM4] at hP hD
    refine lv_aload_n hx hb dX8_uplands_43 rfl (lv_at hl 0 rfl) ?_
    refine mq_get hx hb hts hin hown hK hP 9 (by decide) (hts (.fieldLink RX8 35 "WordFletchersModel" "winds" "[I") (List.mem_cons_of_mem _ (List.mem_append_left _ (List.mem_append_left _ (List.mem_of_getElem? (i := 4) rfl))))) rfl dX8_uplands_44 ?_
    refine lv_iconst (v := iZ 0) hx hb dX8_uplands_47 (by decide) ?_
    refine lv_aload_n hx hb dX8_uplands_48 rfl (lv_at hl 0 rfl) ?_
    refine mq_get hx hb hts hin hown hK hP 9 (by decide) (hts (.fieldLink RX8 35 "WordFletchersModel" "winds" "[I") (List.mem_cons_of_mem _ (List.mem_append_left _ (List.mem_append_left _ (List.mem_of_getElem? (i := 4) rfl))))) rfl dX8_uplands_49 ?_
    refine lv_iconst (v := iZ 1) hx hb dX8_uplands_52 (by decide) ?_
    refine W.eq (g2 := F0 m 53 ls [.int (iZ 1), .ref (a 9), .int (iZ 0), .ref (a 9)]) rfl ?_
    refine mq_iald hx hb hK hP 9 9 (n := 2) rfl (by decide) 1 rfl (by omega) dX8_uplands_53 ?_
    refine mq_iast hx hb hK hP hD hS 9 9 (n := 2) rfl (fun k9 => mS_9 C h a _ k9 _) (by decide) 0 rfl (by omega) dX8_uplands_54 (fun H locs hP hD hS => ?_)
    obtain ⟨M5, hM5⟩ : ∃ z : Nat → Nat → Int, z = (mU M4 9 0 (M4 9 1)) := ⟨_, rfl⟩
    rw [← hM5] at hP hD
    have hu0 : f_up0 M = M5 := by subst_vars; rfl
    refine lv_iconst (v := iZ 0) hx hb dX8_uplands_55 (by decide) ?_
    refine lv_istore_n (lv' := [(1, .int (iZ 0)), (0, .ref h)]) hx hb dX8_uplands_56 rfl hl (by decide) rfl (fun ls hl => ?_)
    replace hl : lv_has ls 2 [(1, .int (iZ (0 : Int))), (0, .ref h)] := lv_sub hl [0, 1] rfl
    replace hP := And.intro hP hS
    clear hS
    revert ls
    revert hP
    revert H locs
    refine z_loopH (σ := Int × (Nat → Nat → Int)) (fun x9 => (0 ≤ x9.1 ∧ x9.1 ≤ 29) ∧ (x9.2 = f_upZ (f_up0 M) (Int.toNat x9.1))) (fun x9 H9 locs9 => va_P D vwCl (mW C h a (x9.2)) H9 ∧ va_S (mA h a) s.heap H9 locs9) (fun x9 => [(1, .int (iZ (x9.1))), (0, .ref h)]) 2 (fun x9 => (29 - x9.1).toNat) ((0 : Int), M5) ⟨(by show 0 ≤ (0 : Int) ∧ (0 : Int) ≤ 29; omega), (by show M5 = f_upZ (f_up0 M) (Int.toNat (0 : Int)); rw [show Int.toNat 0 = 0 from rfl, f_upZ_0]; exact hu0.symm)⟩ ?_
    rintro ⟨n1, K1⟩ hI9 ih57 H locs hPS ls hl
    have hP : va_P D vwCl (mW C h a K1) H := hPS.1
    have hS : va_S (mA h a) s.heap H locs := hPS.2
    clear hPS
    have hD : va_D (mA h a) (mW C h a K1) := mD_re hD
    obtain ⟨i1, i2⟩ := hI9
    replace i1 : 0 ≤ n1 ∧ n1 ≤ 29 := i1
    replace i2 : K1 = f_upZ (f_up0 M) (Int.toNat n1) := i2
    replace hl : lv_has ls 2 [(1, .int (iZ n1)), (0, .ref h)] := hl
    refine lv_iload_n hx hb dX8_uplands_57 rfl (lv_at hl 0 rfl) ?_
    refine lv_bipush (v := iZ 29) hx hb dX8_uplands_58 (by decide) ?_
    refine z_icmp_ge (x := n1) (y := 29) (tgt := 76) hx hb (by omega) (by omega) dX8_uplands_60 (by decide) (fun c6 => ?_) (fun c6 => ?_)
    · refine lv_iconst (v := iZ 0) hx hb dX8_uplands_76 (by decide) ?_
      refine lv_istore_n (lv' := [(1, .int (iZ 0)), (0, .ref h)]) hx hb dX8_uplands_77 rfl hl (by decide) rfl (fun ls hl => ?_)
      replace hl : lv_has ls 2 [(1, .int (iZ (0 : Int))), (0, .ref h)] := lv_sub hl [0, 1] rfl
      replace hP := And.intro hP hS
      clear hS
      revert ls
      revert hP
      revert H locs
      refine z_loopH (σ := Int × (Nat → Nat → Int)) (fun x9 => (0 ≤ x9.1 ∧ x9.1 ≤ 6) ∧ (x9.2 = f_upP (f_upZ (f_up0 M) 29) (Int.toNat x9.1))) (fun x9 H9 locs9 => va_P D vwCl (mW C h a (x9.2)) H9 ∧ va_S (mA h a) s.heap H9 locs9) (fun x9 => [(1, .int (iZ (x9.1))), (0, .ref h)]) 2 (fun x9 => (6 - x9.1).toNat) ((0 : Int), K1) ⟨(by show 0 ≤ (0 : Int) ∧ (0 : Int) ≤ 6; omega), (by show K1 = f_upP (f_upZ (f_up0 M) 29) (Int.toNat (0 : Int)); have q : n1 = 29 := (by omega); rw [show Int.toNat 0 = 0 from rfl, f_upP_0, i2, q]; rfl)⟩ ?_
      rintro ⟨n2, K2⟩ hI9 ih78 H locs hPS ls hl
      have hP : va_P D vwCl (mW C h a K2) H := hPS.1
      have hS : va_S (mA h a) s.heap H locs := hPS.2
      clear hPS
      have hD : va_D (mA h a) (mW C h a K2) := mD_re hD
      obtain ⟨j1, j2⟩ := hI9
      replace j1 : 0 ≤ n2 ∧ n2 ≤ 6 := j1
      replace j2 : K2 = f_upP (f_upZ (f_up0 M) 29) (Int.toNat n2) := j2
      replace hl : lv_has ls 2 [(1, .int (iZ n2)), (0, .ref h)] := hl
      refine lv_iload_n hx hb dX8_uplands_78 rfl (lv_at hl 0 rfl) ?_
      refine lv_bipush (v := iZ 6) hx hb dX8_uplands_79 (by decide) ?_
      refine z_icmp_ge (x := n2) (y := 6) (tgt := 120) hx hb (by omega) (by omega) dX8_uplands_81 (by decide) (fun c8 => ?_) (fun c8 => ?_)
      · refine lv_iconst (v := iZ 0) hx hb dX8_uplands_120 (by decide) ?_
        refine lv_istore_n (lv' := [(1, .int (iZ 0)), (0, .ref h)]) hx hb dX8_uplands_121 rfl hl (by decide) rfl (fun ls hl => ?_)
        replace hl : lv_has ls 2 [(1, .int (iZ (0 : Int))), (0, .ref h)] := lv_sub hl [0, 1] rfl
        replace hP := And.intro hP hS
        clear hS
        revert ls
        revert hP
        revert H locs
        refine z_loopH (σ := Int × (Nat → Nat → Int)) (fun x9 => (0 ≤ x9.1 ∧ x9.1 ≤ 6) ∧ (x9.2 = f_upS (f_upP (f_upZ (f_up0 M) 29) 6) (Int.toNat x9.1))) (fun x9 H9 locs9 => va_P D vwCl (mW C h a (x9.2)) H9 ∧ va_S (mA h a) s.heap H9 locs9) (fun x9 => [(1, .int (iZ (x9.1))), (0, .ref h)]) 2 (fun x9 => (6 - x9.1).toNat) ((0 : Int), K2) ⟨(by show 0 ≤ (0 : Int) ∧ (0 : Int) ≤ 6; omega), (by show K2 = f_upS (f_upP (f_upZ (f_up0 M) 29) 6) (Int.toNat (0 : Int)); have q : n2 = 6 := (by omega); rw [show Int.toNat 0 = 0 from rfl, f_upS_0, j2, q]; rfl)⟩ ?_
        rintro ⟨n3, K3⟩ hI9 ih122 H locs hPS ls hl
        have hP : va_P D vwCl (mW C h a K3) H := hPS.1
        have hS : va_S (mA h a) s.heap H locs := hPS.2
        clear hPS
        have hD : va_D (mA h a) (mW C h a K3) := mD_re hD
        obtain ⟨k1, k2⟩ := hI9
        replace k1 : 0 ≤ n3 ∧ n3 ≤ 6 := k1
        replace k2 : K3 = f_upS (f_upP (f_upZ (f_up0 M) 29) 6) (Int.toNat n3) := k2
        replace hl : lv_has ls 2 [(1, .int (iZ n3)), (0, .ref h)] := hl
        have hk5 : (f_upP (f_upZ (f_up0 M) 29) 6) 5 0 = f_read M 5 1 := rfl
        have hk8 : (f_upP (f_upZ (f_up0 M) 29) 6) 8 (6 + Int.toNat n3) = f_read M 8 (6 + Int.toNat n3) := rfl
        have hsyr := hsy () (by rw [← hrd]; omega)
        have hsy1 := hsyr.1
        refine lv_iload_n hx hb dX8_uplands_122 rfl (lv_at hl 0 rfl) ?_
        refine lv_bipush (v := iZ 6) hx hb dX8_uplands_123 (by decide) ?_
        refine z_icmp_ge (x := n3) (y := 6) (tgt := 210) hx hb (by omega) (by omega) dX8_uplands_125 (by decide) (fun c11 => ?_) (fun c11 => ?_)
        · refine lv_iconst (v := iZ 0) hx hb dX8_uplands_210 (by decide) ?_
          refine lv_istore_n (lv' := [(1, .int (iZ 0)), (0, .ref h)]) hx hb dX8_uplands_211 rfl hl (by decide) rfl (fun ls hl => ?_)
          replace hl : lv_has ls 2 [(1, .int (iZ (0 : Int))), (0, .ref h)] := lv_sub hl [0, 1] rfl
          replace hP := And.intro hP hS
          clear hS
          revert ls
          revert hP
          revert H locs
          refine z_loopH (σ := Int × (Nat → Nat → Int)) (fun x9 => (0 ≤ x9.1 ∧ x9.1 ≤ 6) ∧ (x9.2 = f_upW (f_upS (f_upP (f_upZ (f_up0 M) 29) 6) 6) (Int.toNat x9.1))) (fun x9 H9 locs9 => va_P D vwCl (mW C h a (x9.2)) H9 ∧ va_S (mA h a) s.heap H9 locs9) (fun x9 => [(1, .int (iZ (x9.1))), (0, .ref h)]) 2 (fun x9 => (6 - x9.1).toNat) ((0 : Int), K3) ⟨(by show 0 ≤ (0 : Int) ∧ (0 : Int) ≤ 6; omega), (by show K3 = f_upW (f_upS (f_upP (f_upZ (f_up0 M) 29) 6) 6) (Int.toNat (0 : Int)); have q : n3 = 6 := (by omega); rw [show Int.toNat 0 = 0 from rfl, f_upW_0, k2, q]; rfl)⟩ ?_
          rintro ⟨n4, K4⟩ hI9 ih212 H locs hPS ls hl
          have hP : va_P D vwCl (mW C h a K4) H := hPS.1
          have hS : va_S (mA h a) s.heap H locs := hPS.2
          clear hPS
          have hD : va_D (mA h a) (mW C h a K4) := mD_re hD
          obtain ⟨l1, l2⟩ := hI9
          replace l1 : 0 ≤ n4 ∧ n4 ≤ 6 := l1
          replace l2 : K4 = f_upW (f_upS (f_upP (f_upZ (f_up0 M) 29) 6) 6) (Int.toNat n4) := l2
          replace hl : lv_has ls 2 [(1, .int (iZ n4)), (0, .ref h)] := hl
          refine lv_iload_n hx hb dX8_uplands_212 rfl (lv_at hl 0 rfl) ?_
          refine lv_bipush (v := iZ 6) hx hb dX8_uplands_213 (by decide) ?_
          refine z_icmp_ge (x := n4) (y := 6) (tgt := 239) hx hb (by omega) (by omega) dX8_uplands_215 (by decide) (fun c18 => ?_) (fun c18 => ?_)
          · refine lv_iconst (v := iZ 0) hx hb dX8_uplands_239 (by decide) ?_
            refine lv_istore_n (lv' := [(1, .int (iZ 0)), (0, .ref h)]) hx hb dX8_uplands_240 rfl hl (by decide) rfl (fun ls hl => ?_)
            replace hl : lv_has ls 2 [(1, .int (iZ (0 : Int))), (0, .ref h)] := lv_sub hl [0, 1] rfl
            replace hP := And.intro hP hS
            clear hS
            revert ls
            revert hP
            revert H locs
            refine z_loopH (σ := Int × (Nat → Nat → Int)) (fun x9 => (0 ≤ x9.1 ∧ x9.1 ≤ 4) ∧ (x9.2 = f_upF (f_upW (f_upS (f_upP (f_upZ (f_up0 M) 29) 6) 6) 6) (Int.toNat x9.1))) (fun x9 H9 locs9 => va_P D vwCl (mW C h a (x9.2)) H9 ∧ va_S (mA h a) s.heap H9 locs9) (fun x9 => [(1, .int (iZ (x9.1))), (0, .ref h)]) 2 (fun x9 => (4 - x9.1).toNat) ((0 : Int), K4) ⟨(by show 0 ≤ (0 : Int) ∧ (0 : Int) ≤ 4; omega), (by show K4 = f_upF (f_upW (f_upS (f_upP (f_upZ (f_up0 M) 29) 6) 6) 6) (Int.toNat (0 : Int)); have q : n4 = 6 := (by omega); rw [show Int.toNat 0 = 0 from rfl, f_upF_0, l2, q]; rfl)⟩ ?_
            rintro ⟨n5, K5⟩ hI9 ih241 H locs hPS ls hl
            have hP : va_P D vwCl (mW C h a K5) H := hPS.1
            have hS : va_S (mA h a) s.heap H locs := hPS.2
            clear hPS
            have hD : va_D (mA h a) (mW C h a K5) := mD_re hD
            obtain ⟨m1, m2⟩ := hI9
            replace m1 : 0 ≤ n5 ∧ n5 ≤ 4 := m1
            replace m2 : K5 = f_upF (f_upW (f_upS (f_upP (f_upZ (f_up0 M) 29) 6) 6) 6) (Int.toNat n5) := m2
            replace hl : lv_has ls 2 [(1, .int (iZ n5)), (0, .ref h)] := hl
            refine W.eq (g2 := F0 m 241 ls []) rfl ?_
            refine lv_iload_n hx hb dX8_uplands_241 rfl (lv_at hl 0 rfl) ?_
            refine lv_iconst (v := iZ 4) hx hb dX8_uplands_242 (by decide) ?_
            refine z_icmp_ge (x := n5) (y := 4) (tgt := 266) hx hb (by omega) (by omega) dX8_uplands_243 (by decide) (fun c20 => ?_) (fun c20 => ?_)
            · refine lv_aload_n hx hb dX8_uplands_266 rfl (lv_at hl 1 rfl) ?_
              refine mq_get hx hb hts hin hown hK hP 20 (by decide) (hts (.fieldLink RX8 47 "WordFletchersModel" "known" "[I") (List.mem_cons_of_mem _ (List.mem_append_left _ (List.mem_append_left _ (List.mem_of_getElem? (i := 13) rfl))))) rfl dX8_uplands_267 ?_
              refine lv_iconst (v := iZ 0) hx hb dX8_uplands_270 (by decide) ?_
              refine lv_iconst (v := iZ 0) hx hb dX8_uplands_271 (by decide) ?_
              refine mq_iast hx hb hK hP hD hS 20 13 (n := 3) rfl (fun k9 => mS_20 C h a _ k9 _) (by decide) 0 rfl (by omega) dX8_uplands_272 (fun H locs hP hD hS => ?_)
              obtain ⟨M22, hM22⟩ : ∃ z : Nat → Nat → Int, z = (mU K5 20 0 0) := ⟨_, rfl⟩
              rw [← hM22] at hP hD
              refine lv_aload_n hx hb dX8_uplands_273 rfl (lv_at hl 1 rfl) ?_
              refine mq_get hx hb hts hin hown hK hP 23 (by decide) (hts (.fieldLink RX8 56 "WordFletchersModel" "isKept" "[Z") (List.mem_cons_of_mem _ (List.mem_append_left _ (List.mem_append_left _ (List.mem_of_getElem? (i := 14) rfl))))) rfl dX8_uplands_274 ?_
              refine lv_iconst (v := iZ 0) hx hb dX8_uplands_277 (by decide) ?_
              refine lv_iconst (v := iZ 0) hx hb dX8_uplands_278 (by decide) ?_
              refine W.eq (g2 := F0 m 279 ls [.int (iZ 0), .int (iZ 0), .ref (a 23)]) rfl ?_
              refine mq_zast hx hb hK hP hD hS 23 16 (n := 2) rfl (fun k9 => mS_23 C h a _ k9 _) (by decide) 0 rfl (by omega) (by rfl) dX8_uplands_279 (fun H locs hP hD hS => ?_)
              obtain ⟨M23, hM23⟩ : ∃ z : Nat → Nat → Int, z = (mU M22 23 0 0) := ⟨_, rfl⟩
              rw [← hM23] at hP hD
              refine lv_aload_n hx hb dX8_uplands_280 rfl (lv_at hl 1 rfl) ?_
              refine mq_get hx hb hts hin hown hK hP 23 (by decide) (hts (.fieldLink RX8 56 "WordFletchersModel" "isKept" "[Z") (List.mem_cons_of_mem _ (List.mem_append_left _ (List.mem_append_left _ (List.mem_of_getElem? (i := 14) rfl))))) rfl dX8_uplands_281 ?_
              refine lv_iconst (v := iZ 1) hx hb dX8_uplands_284 (by decide) ?_
              refine lv_iconst (v := iZ 0) hx hb dX8_uplands_285 (by decide) ?_
              refine mq_zast hx hb hK hP hD hS 23 16 (n := 2) rfl (fun k9 => mS_23 C h a _ k9 _) (by decide) 1 rfl (by omega) (by rfl) dX8_uplands_286 (fun H locs hP hD hS => ?_)
              obtain ⟨M24, hM24⟩ : ∃ z : Nat → Nat → Int, z = (mU M23 23 1 0) := ⟨_, rfl⟩
              rw [← hM24] at hP hD
              refine lv_aload_n hx hb dX8_uplands_287 rfl (lv_at hl 1 rfl) ?_
              refine lv_iconst (v := iZ 0) hx hb dX8_uplands_288 (by decide) ?_
              refine mq_put (ty := .int) hx hb hts hin hown hK hP hD hS 28 (by decide) (hts (.fieldLink RX8 131 "WordFletchersModel" "sights" "I") (List.mem_cons_of_mem _ (List.mem_append_left _ (List.mem_append_left _ (List.mem_of_getElem? (i := 15) rfl))))) rfl (by decide +kernel) rfl rfl (mS_28 C h a _ _) dX8_uplands_289 (fun H locs hP hD hS => ?_)
              obtain ⟨M25, hM25⟩ : ∃ z : Nat → Nat → Int, z = (mU M24 28 0 0) := ⟨_, rfl⟩
              rw [← hM25] at hP hD
              have e17 : M25 17 0 = f_read M 17 0 := by rw [hM25]; subst_vars; rfl
              refine lv_aload_n hx hb dX8_uplands_292 rfl (lv_at hl 1 rfl) ?_
              refine lv_iconst (v := iZ 0) hx hb dX8_uplands_293 (by decide) ?_
              refine mq_put (ty := .int) hx hb hts hin hown hK hP hD hS 1 (by decide) (hts (.fieldLink RX8 76 "WordFletchersModel" "typed" "I") (List.mem_cons_of_mem _ (List.mem_append_left _ (List.mem_append_left _ (List.mem_of_getElem? (i := 16) rfl))))) rfl (by decide +kernel) rfl rfl (mS_1 C h a _ _) dX8_uplands_294 (fun H locs hP hD hS => ?_)
              obtain ⟨M26, hM26⟩ : ∃ z : Nat → Nat → Int, z = (mU M25 1 0 0) := ⟨_, rfl⟩
              rw [← hM26] at hP hD
              have e18 : M26 17 0 = M25 17 0 := by rw [hM26]; exact mU_nf _ _ _ _ (by decide)
              refine W.eq (g2 := F0 m 297 ls []) rfl ?_
              refine lv_aload_n hx hb dX8_uplands_297 rfl (lv_at hl 1 rfl) ?_
              refine mq_get hx hb hts hin hown hK hP 17 (by decide) (hts (.fieldLink RX8 117 "WordFletchersModel" "items" "I") (List.mem_cons_of_mem _ (List.mem_append_left _ (List.mem_append_left _ (List.mem_of_getElem? (i := 17) rfl))))) rfl dX8_uplands_298 ?_
              exact mq_retM hx hb hK hP hS hr rfl (by first | (rw [if_neg (by rw [← hrd]; omega), ← hrd]; done) | (rw [if_pos (by rw [← hrd]; omega)]; first | omega | (rw [e18]; exact e17) | exact e17)) (by unfold f_upl; first | (rw [if_neg (by rw [← hrd]; omega)]; exact hrd) | (rw [if_pos (by rw [← hrd]; omega)]; have q : n5 = 4 := (by omega); subst_vars; rfl)) dX8_uplands_301 hlocks
            · refine lv_aload_n hx hb dX8_uplands_246 rfl (lv_at hl 1 rfl) ?_
              refine mq_get hx hb hts hin hown hK hP 19 (by decide) (hts (.fieldLink RX8 44 "WordFletchersModel" "now" "[I") (List.mem_cons_of_mem _ (List.mem_append_left _ (List.mem_append_left _ (List.mem_of_getElem? (i := 5) rfl))))) rfl dX8_uplands_247 ?_
              refine lv_iconst (v := iZ 2) hx hb dX8_uplands_250 (by decide) ?_
              refine lv_iload_n hx hb dX8_uplands_251 rfl (lv_at hl 0 rfl) ?_
              refine z_iadd hx hb dX8_uplands_252 ?_
              refine lv_aload_n hx hb dX8_uplands_253 rfl (lv_at hl 1 rfl) ?_
              refine mq_get hx hb hts hin hown hK hP 11 (by decide) (hts (.fieldLink RX8 41 "WordFletchersModel" "plenty" "[I") (List.mem_cons_of_mem _ (List.mem_append_left _ (List.mem_append_left _ (List.mem_of_getElem? (i := 12) rfl))))) rfl dX8_uplands_254 ?_
              refine lv_iload_n hx hb dX8_uplands_257 rfl (lv_at hl 0 rfl) ?_
              refine mq_iald hx hb hK hP 11 11 (n := 4) rfl (by decide) (Int.toNat n5) rfl (by omega) dX8_uplands_258 ?_
              refine W.eq (g2 := F0 m 259 ls [.int (iZ (K5 11 (Int.toNat n5))), .int (iZ (2 + n5)), .ref (a 19)]) rfl ?_
              refine mq_iast hx hb hK hP hD hS 19 12 (n := 29) rfl (fun k9 => mS_19 C h a _ k9 _) (by decide) (Int.toNat (2 + n5)) rfl (by omega) dX8_uplands_259 (fun H locs hP hD hS => ?_)
              obtain ⟨M27, hM27⟩ : ∃ z : Nat → Nat → Int, z = (mU K5 19 (Int.toNat (2 + n5)) (K5 11 (Int.toNat n5))) := ⟨_, rfl⟩
              rw [← hM27] at hP hD
              have hst5 : M27 = f_upF (f_upW (f_upS (f_upP (f_upZ (f_up0 M) 29) 6) 6) 6) (Int.toNat (n5 + 1)) := by rw [hM27, m2]; exact f_upF_step _ m1.1 (f_upF_o _ _ (by decide))
              refine lv_iinc (v := iZ (n5 + 1)) (lv' := [(1, .int (iZ (n5 + 1))), (0, .ref h)]) hx hb dX8_uplands_260 hl (k := 0) rfl (iZ_add _ _) (by decide) rfl (fun ls hl => ?_)
              refine lv_goto (tgt := 241) hx hb dX8_uplands_263 (by decide) ?_
              exact ih241 ((n5 + 1), M27) ⟨(by show 0 ≤ (n5 + 1) ∧ (n5 + 1) ≤ 4; omega), (by show M27 = f_upF (f_upW (f_upS (f_upP (f_upZ (f_up0 M) 29) 6) 6) 6) (Int.toNat (n5 + 1)); exact hst5)⟩ (by show (4 - (n5 + 1)).toNat < (4 - n5).toNat; omega) H locs ⟨hP, hS⟩ ls (lv_sub hl [0, 1] rfl)
          · refine lv_aload_n hx hb dX8_uplands_218 rfl (lv_at hl 1 rfl) ?_
            refine mq_get hx hb hts hin hown hK hP 10 (by decide) (hts (.fieldLink RX8 38 "WordFletchersModel" "wind" "[I") (List.mem_cons_of_mem _ (List.mem_append_left _ (List.mem_append_left _ (List.mem_of_getElem? (i := 11) rfl))))) rfl dX8_uplands_219 ?_
            refine lv_iload_n hx hb dX8_uplands_222 rfl (lv_at hl 0 rfl) ?_
            refine lv_aload_n hx hb dX8_uplands_223 rfl (lv_at hl 1 rfl) ?_
            refine mq_get hx hb hts hin hown hK hP 10 (by decide) (hts (.fieldLink RX8 38 "WordFletchersModel" "wind" "[I") (List.mem_cons_of_mem _ (List.mem_append_left _ (List.mem_append_left _ (List.mem_of_getElem? (i := 11) rfl))))) rfl dX8_uplands_224 ?_
            refine lv_bipush (v := iZ 6) hx hb dX8_uplands_227 (by decide) ?_
            refine lv_iload_n hx hb dX8_uplands_229 rfl (lv_at hl 0 rfl) ?_
            refine z_iadd hx hb dX8_uplands_230 ?_
            refine mq_iald hx hb hK hP 10 10 (n := 12) rfl (by decide) (Int.toNat (6 + n4)) rfl (by omega) dX8_uplands_231 ?_
            refine W.eq (g2 := F0 m 232 ls [.int (iZ (K4 10 (Int.toNat (6 + n4)))), .int (iZ n4), .ref (a 10)]) rfl ?_
            refine mq_iast hx hb hK hP hD hS 10 10 (n := 12) rfl (fun k9 => mS_10 C h a _ k9 _) (by decide) (Int.toNat n4) rfl (by omega) dX8_uplands_232 (fun H locs hP hD hS => ?_)
            obtain ⟨M28, hM28⟩ : ∃ z : Nat → Nat → Int, z = (mU K4 10 (Int.toNat n4) (K4 10 (Int.toNat (6 + n4)))) := ⟨_, rfl⟩
            rw [← hM28] at hP hD
            have hst4 : M28 = f_upW (f_upS (f_upP (f_upZ (f_up0 M) 29) 6) 6) (Int.toNat (n4 + 1)) := by rw [hM28, l2]; exact f_upW_step _ l1.1 (by rw [show Int.toNat (6 + n4) = 6 + Int.toNat n4 by omega]; exact f_upW_o _ _ (Or.inr (by omega)))
            refine lv_iinc (v := iZ (n4 + 1)) (lv' := [(1, .int (iZ (n4 + 1))), (0, .ref h)]) hx hb dX8_uplands_233 hl (k := 0) rfl (iZ_add _ _) (by decide) rfl (fun ls hl => ?_)
            refine lv_goto (tgt := 212) hx hb dX8_uplands_236 (by decide) ?_
            exact ih212 ((n4 + 1), M28) ⟨(by show 0 ≤ (n4 + 1) ∧ (n4 + 1) ≤ 6; omega), (by show M28 = f_upW (f_upS (f_upP (f_upZ (f_up0 M) 29) 6) 6) (Int.toNat (n4 + 1)); exact hst4)⟩ (by show (6 - (n4 + 1)).toNat < (6 - n4).toNat; omega) H locs ⟨hP, hS⟩ ls (lv_sub hl [0, 1] rfl)
        · refine lv_aload_n hx hb dX8_uplands_128 rfl (lv_at hl 1 rfl) ?_
          refine mq_get hx hb hts hin hown hK hP 6 (by decide) (hts (.fieldLink RX8 26 "WordFletchersModel" "weight" "[I") (List.mem_cons_of_mem _ (List.mem_append_left _ (List.mem_append_left _ (List.mem_of_getElem? (i := 8) rfl))))) rfl dX8_uplands_129 ?_
          refine lv_iload_n hx hb dX8_uplands_132 rfl (lv_at hl 0 rfl) ?_
          refine lv_aload_n hx hb dX8_uplands_133 rfl (lv_at hl 1 rfl) ?_
          refine mq_get hx hb hts hin hown hK hP 6 (by decide) (hts (.fieldLink RX8 26 "WordFletchersModel" "weight" "[I") (List.mem_cons_of_mem _ (List.mem_append_left _ (List.mem_append_left _ (List.mem_of_getElem? (i := 8) rfl))))) rfl dX8_uplands_134 ?_
          refine lv_bipush (v := iZ 6) hx hb dX8_uplands_137 (by decide) ?_
          refine lv_iload_n hx hb dX8_uplands_139 rfl (lv_at hl 0 rfl) ?_
          refine z_iadd hx hb dX8_uplands_140 ?_
          refine mq_iald hx hb hK hP 6 6 (n := 12) rfl (by decide) (Int.toNat (6 + n3)) rfl (by omega) dX8_uplands_141 ?_
          refine W.eq (g2 := F0 m 142 ls [.int (iZ (K3 6 (Int.toNat (6 + n3)))), .int (iZ n3), .ref (a 6)]) rfl ?_
          refine mq_iast hx hb hK hP hD hS 6 6 (n := 12) rfl (fun k9 => mS_6 C h a _ k9 _) (by decide) (Int.toNat n3) rfl (by omega) dX8_uplands_142 (fun H locs hP hD hS => ?_)
          obtain ⟨M29, hM29⟩ : ∃ z : Nat → Nat → Int, z = (mU K3 6 (Int.toNat n3) (K3 6 (Int.toNat (6 + n3)))) := ⟨_, rfl⟩
          rw [← hM29] at hP hD
          have y1 : K3 6 (Int.toNat (6 + n3)) = (f_upP (f_upZ (f_up0 M) 29) 6) 6 (6 + Int.toNat n3) := by rw [k2, show Int.toNat (6 + n3) = 6 + Int.toNat n3 by omega]; exact f_upS_o _ _ (Or.inr ⟨by decide, by omega⟩)
          have y2 : M29 7 (Int.toNat (6 + n3)) = (f_upP (f_upZ (f_up0 M) 29) 6) 7 (6 + Int.toNat n3) := by rw [hM29, mU_nf _ _ _ _ (by decide), k2, show Int.toNat (6 + n3) = 6 + Int.toNat n3 by omega]; exact f_upS_o _ _ (Or.inr ⟨by decide, by omega⟩)
          have y3 := hM29
          have y7 : M29 8 = K3 8 := by rw [hM29]; funext q; exact mU_nf _ _ _ _ (by decide)
          have y8 : M29 5 = K3 5 := by rw [hM29]; funext q; exact mU_nf _ _ _ _ (by decide)
          refine lv_aload_n hx hb dX8_uplands_143 rfl (lv_at hl 1 rfl) ?_
          refine mq_get hx hb hts hin hown hK hP 7 (by decide) (hts (.fieldLink RX8 29 "WordFletchersModel" "twist" "[I") (List.mem_cons_of_mem _ (List.mem_append_left _ (List.mem_append_left _ (List.mem_of_getElem? (i := 9) rfl))))) rfl dX8_uplands_144 ?_
          refine lv_iload_n hx hb dX8_uplands_147 rfl (lv_at hl 0 rfl) ?_
          refine lv_aload_n hx hb dX8_uplands_148 rfl (lv_at hl 1 rfl) ?_
          refine mq_get hx hb hts hin hown hK hP 7 (by decide) (hts (.fieldLink RX8 29 "WordFletchersModel" "twist" "[I") (List.mem_cons_of_mem _ (List.mem_append_left _ (List.mem_append_left _ (List.mem_of_getElem? (i := 9) rfl))))) rfl dX8_uplands_149 ?_
          refine lv_bipush (v := iZ 6) hx hb dX8_uplands_152 (by decide) ?_
          refine lv_iload_n hx hb dX8_uplands_154 rfl (lv_at hl 0 rfl) ?_
          refine z_iadd hx hb dX8_uplands_155 ?_
          refine mq_iald hx hb hK hP 7 7 (n := 12) rfl (by decide) (Int.toNat (6 + n3)) rfl (by omega) dX8_uplands_156 ?_
          refine mq_iast hx hb hK hP hD hS 7 7 (n := 12) rfl (fun k9 => mS_7 C h a _ k9 _) (by decide) (Int.toNat n3) rfl (by omega) dX8_uplands_157 (fun H locs hP hD hS => ?_)
          obtain ⟨M30, hM30⟩ : ∃ z : Nat → Nat → Int, z = (mU M29 7 (Int.toNat n3) (M29 7 (Int.toNat (6 + n3)))) := ⟨_, rfl⟩
          rw [← hM30] at hP hD
          have y4 : M30 8 (Int.toNat (6 + n3)) = (f_upP (f_upZ (f_up0 M) 29) 6) 8 (6 + Int.toNat n3) := by rw [hM30, mU_nf _ _ _ _ (by decide), y7, k2, show Int.toNat (6 + n3) = 6 + Int.toNat n3 by omega]; exact f_upS_o _ _ (Or.inr ⟨by decide, by omega⟩)
          have y5 := hM30
          have y9 : M30 5 = M29 5 := by rw [hM30]; funext q; exact mU_nf _ _ _ _ (by decide)
          refine lv_aload_n hx hb dX8_uplands_158 rfl (lv_at hl 1 rfl) ?_
          refine W.eq (g2 := F0 m 159 ls [.ref h]) rfl ?_
          refine mq_get hx hb hts hin hown hK hP 8 (by decide) (hts (.fieldLink RX8 32 "WordFletchersModel" "first" "[I") (List.mem_cons_of_mem _ (List.mem_append_left _ (List.mem_append_left _ (List.mem_of_getElem? (i := 10) rfl))))) rfl dX8_uplands_159 ?_
          refine lv_iload_n hx hb dX8_uplands_162 rfl (lv_at hl 0 rfl) ?_
          refine lv_aload_n hx hb dX8_uplands_163 rfl (lv_at hl 1 rfl) ?_
          refine mq_get hx hb hts hin hown hK hP 8 (by decide) (hts (.fieldLink RX8 32 "WordFletchersModel" "first" "[I") (List.mem_cons_of_mem _ (List.mem_append_left _ (List.mem_append_left _ (List.mem_of_getElem? (i := 10) rfl))))) rfl dX8_uplands_164 ?_
          refine lv_bipush (v := iZ 6) hx hb dX8_uplands_167 (by decide) ?_
          refine lv_iload_n hx hb dX8_uplands_169 rfl (lv_at hl 0 rfl) ?_
          refine z_iadd hx hb dX8_uplands_170 ?_
          refine mq_iald hx hb hK hP 8 8 (n := 12) rfl (by decide) (Int.toNat (6 + n3)) rfl (by omega) dX8_uplands_171 ?_
          refine mq_iast hx hb hK hP hD hS 8 8 (n := 12) rfl (fun k9 => mS_8 C h a _ k9 _) (by decide) (Int.toNat n3) rfl (by omega) dX8_uplands_172 (fun H locs hP hD hS => ?_)
          obtain ⟨M31, hM31⟩ : ∃ z : Nat → Nat → Int, z = (mU M30 8 (Int.toNat n3) (M30 8 (Int.toNat (6 + n3)))) := ⟨_, rfl⟩
          rw [← hM31] at hP hD
          have y6 := hM31
          have x5 : M31 5 0 = (f_upP (f_upZ (f_up0 M) 29) 6) 5 0 := by rw [hM31, mU_nf _ _ _ _ (by decide), y9, y8, k2]; exact f_upS_o _ _ (Or.inl (by decide))
          have x8 : M31 8 (Int.toNat n3) = (f_upP (f_upZ (f_up0 M) 29) 6) 8 (6 + Int.toNat n3) := by rw [hM31, mU_eq]; exact y4
          have x9 : n3 < (f_upP (f_upZ (f_up0 M) 29) 6) 5 0 → 0 ≤ (f_upP (f_upZ (f_up0 M) 29) 6) 8 (6 + Int.toNat n3) ∧ (f_upP (f_upZ (f_up0 M) 29) 6) 8 (6 + Int.toNat n3) ≤ 30 := fun z9 => by have z8 := (hsyr.2 (Int.toNat n3) (by rw [← hk5]; omega)); rw [hk8]; exact z8
          refine lv_aload_n hx hb dX8_uplands_173 rfl (lv_at hl 1 rfl) ?_
          refine mq_get hx hb hts hin hown hK hP 19 (by decide) (hts (.fieldLink RX8 44 "WordFletchersModel" "now" "[I") (List.mem_cons_of_mem _ (List.mem_append_left _ (List.mem_append_left _ (List.mem_of_getElem? (i := 5) rfl))))) rfl dX8_uplands_174 ?_
          refine lv_bipush (v := iZ 6) hx hb dX8_uplands_177 (by decide) ?_
          refine W.eq (g2 := F0 m 179 ls [.int (iZ 6), .ref (a 19)]) rfl ?_
          refine lv_iload_n hx hb dX8_uplands_179 rfl (lv_at hl 0 rfl) ?_
          refine z_iadd hx hb dX8_uplands_180 ?_
          refine lv_iload_n hx hb dX8_uplands_181 rfl (lv_at hl 0 rfl) ?_
          refine lv_aload_n hx hb dX8_uplands_182 rfl (lv_at hl 1 rfl) ?_
          refine mq_get hx hb hts hin hown hK hP 5 (by decide) (hts (.fieldLink RX8 23 "WordFletchersModel" "sayings" "[I") (List.mem_cons_of_mem _ (List.mem_append_left _ (List.mem_append_left _ (List.mem_of_getElem? (i := 3) rfl))))) rfl dX8_uplands_183 ?_
          refine lv_iconst (v := iZ 0) hx hb dX8_uplands_186 (by decide) ?_
          refine mq_iald hx hb hK hP 5 5 (n := 2) rfl (by decide) 0 rfl (by omega) dX8_uplands_187 ?_
          refine z_icmp_ge (x := n3) (y := (M31 5 0)) (tgt := 202) hx hb (by omega) (by omega) dX8_uplands_188 (by decide) (fun c32 => ?_) (fun c32 => ?_)
          · refine lv_iconst (v := iZ 0) hx hb dX8_uplands_202 (by decide) ?_
            refine mq_iast hx hb hK hP hD hS 19 12 (n := 29) rfl (fun k9 => mS_19 C h a _ k9 _) (by decide) (Int.toNat (6 + n3)) rfl (by omega) dX8_uplands_203 (fun H locs hP hD hS => ?_)
            obtain ⟨M33, hM33⟩ : ∃ z : Nat → Nat → Int, z = (mU M31 19 (Int.toNat (6 + n3)) 0) := ⟨_, rfl⟩
            rw [← hM33] at hP hD
            have hst3 : M33 = f_upS (f_upP (f_upZ (f_up0 M) 29) 6) (Int.toNat (n3 + 1)) := by (first | rw [hM33, x8, y6, y4, y5, y2, y3, y1, k2] | rw [hM33, y6, y4, y5, y2, y3, y1, k2]); exact f_upS_step _ k1.1 rfl rfl rfl (by first | exact (if_pos (by omega)).symm | exact (if_neg (by omega)).symm)
            refine lv_iinc (v := iZ (n3 + 1)) (lv' := [(1, .int (iZ (n3 + 1))), (0, .ref h)]) hx hb dX8_uplands_204 hl (k := 0) rfl (iZ_add _ _) (by decide) rfl (fun ls hl => ?_)
            refine lv_goto (tgt := 122) hx hb dX8_uplands_207 (by decide) ?_
            exact ih122 ((n3 + 1), M33) ⟨(by show 0 ≤ (n3 + 1) ∧ (n3 + 1) ≤ 6; omega), (by show M33 = f_upS (f_upP (f_upZ (f_up0 M) 29) 6) (Int.toNat (n3 + 1)); exact hst3)⟩ (by show (6 - (n3 + 1)).toNat < (6 - n3).toNat; omega) H locs ⟨hP, hS⟩ ls (lv_sub hl [0, 1] rfl)
          · refine W.eq (g2 := F0 m 191 ls [.int (iZ (6 + n3)), .ref (a 19)]) rfl ?_
            refine lv_iconst (v := iZ 1) hx hb dX8_uplands_191 (by decide) ?_
            refine lv_aload_n hx hb dX8_uplands_192 rfl (lv_at hl 1 rfl) ?_
            refine mq_get hx hb hts hin hown hK hP 8 (by decide) (hts (.fieldLink RX8 32 "WordFletchersModel" "first" "[I") (List.mem_cons_of_mem _ (List.mem_append_left _ (List.mem_append_left _ (List.mem_of_getElem? (i := 10) rfl))))) rfl dX8_uplands_193 ?_
            refine lv_iload_n hx hb dX8_uplands_196 rfl (lv_at hl 0 rfl) ?_
            refine mq_iald hx hb hK hP 8 8 (n := 12) rfl (by decide) (Int.toNat n3) rfl (by omega) dX8_uplands_197 ?_
            refine z_ishl1 hx hb (by omega) dX8_uplands_198 ?_
            refine lv_goto (tgt := 203) hx hb dX8_uplands_199 (by decide) ?_
            refine mq_iast hx hb hK hP hD hS 19 12 (n := 29) rfl (fun k9 => mS_19 C h a _ k9 _) (by decide) (Int.toNat (6 + n3)) rfl (by omega) dX8_uplands_203 (fun H locs hP hD hS => ?_)
            obtain ⟨M34, hM34⟩ : ∃ z : Nat → Nat → Int, z = (mU M31 19 (Int.toNat (6 + n3)) (zp (M31 8 (Int.toNat n3)))) := ⟨_, rfl⟩
            rw [← hM34] at hP hD
            have hst3 : M34 = f_upS (f_upP (f_upZ (f_up0 M) 29) 6) (Int.toNat (n3 + 1)) := by (first | rw [hM34, x8, y6, y4, y5, y2, y3, y1, k2] | rw [hM34, y6, y4, y5, y2, y3, y1, k2]); exact f_upS_step _ k1.1 rfl rfl rfl (by first | exact (if_pos (by omega)).symm | exact (if_neg (by omega)).symm)
            refine lv_iinc (v := iZ (n3 + 1)) (lv' := [(1, .int (iZ (n3 + 1))), (0, .ref h)]) hx hb dX8_uplands_204 hl (k := 0) rfl (iZ_add _ _) (by decide) rfl (fun ls hl => ?_)
            refine lv_goto (tgt := 122) hx hb dX8_uplands_207 (by decide) ?_
            exact ih122 ((n3 + 1), M34) ⟨(by show 0 ≤ (n3 + 1) ∧ (n3 + 1) ≤ 6; omega), (by show M34 = f_upS (f_upP (f_upZ (f_up0 M) 29) 6) (Int.toNat (n3 + 1)); exact hst3)⟩ (by show (6 - (n3 + 1)).toNat < (6 - n3).toNat; omega) H locs ⟨hP, hS⟩ ls (lv_sub hl [0, 1] rfl)
      · refine lv_aload_n hx hb dX8_uplands_84 rfl (lv_at hl 1 rfl) ?_
        refine mq_get hx hb hts hin hown hK hP 3 (by decide) (hts (.fieldLink RX8 17 "WordFletchersModel" "place" "[I") (List.mem_cons_of_mem _ (List.mem_append_left _ (List.mem_append_left _ (List.mem_of_getElem? (i := 6) rfl))))) rfl dX8_uplands_85 ?_
        refine W.eq (g2 := F0 m 88 ls [.ref (a 3)]) rfl ?_
        refine lv_iload_n hx hb dX8_uplands_88 rfl (lv_at hl 0 rfl) ?_
        refine lv_aload_n hx hb dX8_uplands_89 rfl (lv_at hl 1 rfl) ?_
        refine mq_get hx hb hts hin hown hK hP 3 (by decide) (hts (.fieldLink RX8 17 "WordFletchersModel" "place" "[I") (List.mem_cons_of_mem _ (List.mem_append_left _ (List.mem_append_left _ (List.mem_of_getElem? (i := 6) rfl))))) rfl dX8_uplands_90 ?_
        refine lv_bipush (v := iZ 6) hx hb dX8_uplands_93 (by decide) ?_
        refine lv_iload_n hx hb dX8_uplands_95 rfl (lv_at hl 0 rfl) ?_
        refine z_iadd hx hb dX8_uplands_96 ?_
        refine mq_iald hx hb hK hP 3 3 (n := 12) rfl (by decide) (Int.toNat (6 + n2)) rfl (by omega) dX8_uplands_97 ?_
        refine mq_iast hx hb hK hP hD hS 3 3 (n := 12) rfl (fun k9 => mS_3 C h a _ k9 _) (by decide) (Int.toNat n2) rfl (by omega) dX8_uplands_98 (fun H locs hP hD hS => ?_)
        obtain ⟨M35, hM35⟩ : ∃ z : Nat → Nat → Int, z = (mU K2 3 (Int.toNat n2) (K2 3 (Int.toNat (6 + n2)))) := ⟨_, rfl⟩
        rw [← hM35] at hP hD
        have w1 : K2 3 (Int.toNat (6 + n2)) = (f_upZ (f_up0 M) 29) 3 (6 + Int.toNat n2) := by rw [j2, show Int.toNat (6 + n2) = 6 + Int.toNat n2 by omega]; exact f_upP_o _ _ (Or.inr (by omega))
        have w2 : M35 4 (Int.toNat (6 + n2)) = (f_upZ (f_up0 M) 29) 4 (6 + Int.toNat n2) := by rw [hM35, mU_nf _ _ _ _ (by decide), j2, show Int.toNat (6 + n2) = 6 + Int.toNat n2 by omega]; exact f_upP_o _ _ (Or.inr (by omega))
        have w3 := hM35
        refine lv_aload_n hx hb dX8_uplands_99 rfl (lv_at hl 1 rfl) ?_
        refine mq_get hx hb hts hin hown hK hP 4 (by decide) (hts (.fieldLink RX8 20 "WordFletchersModel" "ear" "[I") (List.mem_cons_of_mem _ (List.mem_append_left _ (List.mem_append_left _ (List.mem_of_getElem? (i := 7) rfl))))) rfl dX8_uplands_100 ?_
        refine lv_iload_n hx hb dX8_uplands_103 rfl (lv_at hl 0 rfl) ?_
        refine lv_aload_n hx hb dX8_uplands_104 rfl (lv_at hl 1 rfl) ?_
        refine W.eq (g2 := F0 m 105 ls [.ref h, .int (iZ n2), .ref (a 4)]) rfl ?_
        refine mq_get hx hb hts hin hown hK hP 4 (by decide) (hts (.fieldLink RX8 20 "WordFletchersModel" "ear" "[I") (List.mem_cons_of_mem _ (List.mem_append_left _ (List.mem_append_left _ (List.mem_of_getElem? (i := 7) rfl))))) rfl dX8_uplands_105 ?_
        refine lv_bipush (v := iZ 6) hx hb dX8_uplands_108 (by decide) ?_
        refine lv_iload_n hx hb dX8_uplands_110 rfl (lv_at hl 0 rfl) ?_
        refine z_iadd hx hb dX8_uplands_111 ?_
        refine mq_iald hx hb hK hP 4 4 (n := 12) rfl (by decide) (Int.toNat (6 + n2)) rfl (by omega) dX8_uplands_112 ?_
        refine mq_iast hx hb hK hP hD hS 4 4 (n := 12) rfl (fun k9 => mS_4 C h a _ k9 _) (by decide) (Int.toNat n2) rfl (by omega) dX8_uplands_113 (fun H locs hP hD hS => ?_)
        obtain ⟨M36, hM36⟩ : ∃ z : Nat → Nat → Int, z = (mU M35 4 (Int.toNat n2) (M35 4 (Int.toNat (6 + n2)))) := ⟨_, rfl⟩
        rw [← hM36] at hP hD
        have hst2 : M36 = f_upP (f_upZ (f_up0 M) 29) (Int.toNat (n2 + 1)) := by rw [hM36, w2, w3, w1, j2]; exact f_upP_step _ j1.1 rfl rfl
        refine lv_iinc (v := iZ (n2 + 1)) (lv' := [(1, .int (iZ (n2 + 1))), (0, .ref h)]) hx hb dX8_uplands_114 hl (k := 0) rfl (iZ_add _ _) (by decide) rfl (fun ls hl => ?_)
        refine lv_goto (tgt := 78) hx hb dX8_uplands_117 (by decide) ?_
        exact ih78 ((n2 + 1), M36) ⟨(by show 0 ≤ (n2 + 1) ∧ (n2 + 1) ≤ 6; omega), (by show M36 = f_upP (f_upZ (f_up0 M) 29) (Int.toNat (n2 + 1)); exact hst2)⟩ (by show (6 - (n2 + 1)).toNat < (6 - n2).toNat; omega) H locs ⟨hP, hS⟩ ls (lv_sub hl [0, 1] rfl)
    · refine lv_aload_n hx hb dX8_uplands_63 rfl (lv_at hl 1 rfl) ?_
      refine mq_get hx hb hts hin hown hK hP 19 (by decide) (hts (.fieldLink RX8 44 "WordFletchersModel" "now" "[I") (List.mem_cons_of_mem _ (List.mem_append_left _ (List.mem_append_left _ (List.mem_of_getElem? (i := 5) rfl))))) rfl dX8_uplands_64 ?_
      refine lv_iload_n hx hb dX8_uplands_67 rfl (lv_at hl 0 rfl) ?_
      refine lv_iconst (v := iZ 0) hx hb dX8_uplands_68 (by decide) ?_
      refine W.eq (g2 := F0 m 69 ls [.int (iZ 0), .int (iZ n1), .ref (a 19)]) rfl ?_
      refine mq_iast hx hb hK hP hD hS 19 12 (n := 29) rfl (fun k9 => mS_19 C h a _ k9 _) (by decide) (Int.toNat n1) rfl (by omega) dX8_uplands_69 (fun H locs hP hD hS => ?_)
      obtain ⟨M37, hM37⟩ : ∃ z : Nat → Nat → Int, z = (mU K1 19 (Int.toNat n1) 0) := ⟨_, rfl⟩
      rw [← hM37] at hP hD
      have hst : M37 = f_upZ (f_up0 M) (Int.toNat (n1 + 1)) := by rw [hM37, i2]; exact f_upZ_step _ i1.1
      refine lv_iinc (v := iZ (n1 + 1)) (lv' := [(1, .int (iZ (n1 + 1))), (0, .ref h)]) hx hb dX8_uplands_70 hl (k := 0) rfl (iZ_add _ _) (by decide) rfl (fun ls hl => ?_)
      refine lv_goto (tgt := 57) hx hb dX8_uplands_73 (by decide) ?_
      exact ih57 ((n1 + 1), M37) ⟨(by show 0 ≤ (n1 + 1) ∧ (n1 + 1) ≤ 29; omega), (by show M37 = f_upZ (f_up0 M) (Int.toNat (n1 + 1)); exact hst)⟩ (by show (29 - (n1 + 1)).toNat < (29 - n1).toNat; omega) H locs ⟨hP, hS⟩ ls (lv_sub hl [0, 1] rfl)
  · refine lv_bipush (v := iZ (-10)) hx hb dX8_uplands_11 (by decide) ?_
    refine lv_aload_n hx hb dX8_uplands_13 rfl (lv_at hl 0 rfl) ?_
    refine mq_get hx hb hts hin hown hK hP 13 (by decide) (hts (.fieldLink RX8 87 "WordFletchersModel" "stands" "I") (List.mem_cons_of_mem _ (List.mem_append_left _ (List.mem_append_left _ (List.mem_of_getElem? (i := 1) rfl))))) rfl dX8_uplands_14 ?_
    refine z_isub hx hb dX8_uplands_17 ?_
    exact mq_retM hx hb hK hP hS hr rfl (by first | (rw [if_neg (by rw [← hrd]; omega), ← hrd]; done) | (rw [if_pos (by rw [← hrd]; omega)]; first | omega | (rw [e18]; exact e17) | exact e17)) (by unfold f_upl; first | (rw [if_neg (by rw [← hrd]; omega)]; exact hrd) | (rw [if_pos (by rw [← hrd]; omega)]; have q : n5 = 4 := (by omega); subst_vars; rfl)) dX8_uplands_18 hlocks
