set_option maxHeartbeats 4000000 in
set_option maxRecDepth 100000 in
theorem C_tellDue (l : Launch) (D : va_G) (C : mC) (h : Nat) (a : Nat → Nat) (M : Nat → Nat → Int) (hI : mI M) (hN : va_D (fun _ => True) (mW C h a M)) : Met l yX8_tellDue wsX8_tellDue ({ frames := 2, cells := 0, slots := 0, locals := 52 }) (va_Pc [.ref h] (mOk D C h a M)) (va_Qv (fun (_ : Unit) => True) (fun _ t => mOk D C h a (f_td M) t) (mA h a)) 0 0 (mA h a) := by
  refine Met.ofW (cc := cX8_tellDue) (maxL := 5) (ret := none) (by decide) rfl ?_
  intro p e s m args below meth c s₁ B hml hv
  obtain ⟨rfl, hP, hK⟩ := hv
  have hx := B.exec
  have hb := B.bytes
  have hr := B.returns
  have hts := atoms_spec (ws := wsX8_tellDue) B.pre
  have hown : s.vm.findClass RX8 = some m.cls := findClass_of_methodNamed B.named
  have hlocks := B.notSynchronized
  have hin : ∀ w ∈ wsX80, w ∈ wsX8_tellDue := fun _ w_h => (List.mem_cons_of_mem _ (List.mem_append_right _ w_h))
  have hl := lv_entry ([.ref h]) (n := 5) (Nat.le_of_ble_eq_true rfl)
  rw [lg_entry_eq]
  generalize (lg_sl ([.ref h]) ++ List.replicate (5 - (lg_sl ([.ref h])).length) Slot.unset).toArray = ls at hl ⊢
  replace hl : lv_has ls 5 [(0, .ref h)] := hl
  have hD : va_D (mA h a) (mW C h a M) := mD_own hN
  have hA : ∀ q, mA h a q → mA h a q := fun _ h9 => h9
  generalize hHe : s.heap = H at hP ⊢
  have hS : va_S (mA h a) s.heap H [] := by rw [hHe]; exact va_S.rf
  generalize hlo : ([] : List Loc) = locs at hS ⊢
  clear hHe hlo
  have hnw := mI_now hI
  refine W.eq (g2 := F0 m 0 ls []) rfl ?_
  refine lv_iconst (v := iZ 0) hx hb dX8_tellDue_0 (by decide) ?_
  refine lv_istore_n (lv' := [(1, .int (iZ 0)), (0, .ref h)]) hx hb dX8_tellDue_1 rfl hl (by decide) rfl (fun ls hl => ?_)
  replace hl : lv_has ls 5 [(1, .int (iZ (0 : Int))), (0, .ref h)] := lv_sub hl [0, 1] rfl
  replace hP := And.intro hP hS
  clear hS
  revert ls
  revert hP
  revert H locs
  refine z_loopH (σ := (Nat → Nat → Int) × Int) (fun x9 => (0 ≤ x9.2 ∧ x9.2 ≤ M 5 0) ∧ (x9.1 = f_tdN M (Int.toNat (4 * x9.2)))) (fun x9 H9 locs9 => va_P D vwCl (mW C h a (x9.1)) H9 ∧ va_S (mA h a) s.heap H9 locs9) (fun x9 => [(1, .int (iZ (x9.2))), (0, .ref h)]) 5 (fun x9 => (M 5 0 - x9.2).toNat) (M, (0 : Int)) ⟨(by show 0 ≤ (0 : Int) ∧ (0 : Int) ≤ M 5 0; omega), (by show M = f_tdN M (Int.toNat (4 * (0 : Int))); exact (f_tdN_0 M).symm)⟩ ?_
  rintro ⟨Ma, ss⟩ hI9 ih2 H locs hPS ls hl
  have hP : va_P D vwCl (mW C h a Ma) H := hPS.1
  have hS : va_S (mA h a) s.heap H locs := hPS.2
  clear hPS
  have hD : va_D (mA h a) (mW C h a Ma) := mD_re hD
  obtain ⟨i1, i2⟩ := hI9
  replace i1 : 0 ≤ ss ∧ ss ≤ M 5 0 := i1
  replace i2 : Ma = f_tdN M (Int.toNat (4 * ss)) := i2
  replace hl : lv_has ls 5 [(1, .int (iZ ss)), (0, .ref h)] := hl
  have ga := congrFun (show Ma 5 = M 5 by rw [i2]; exact f_tdN_o _ _ (by decide)) 0
  refine lv_iload_n hx hb dX8_tellDue_2 rfl (lv_at hl 0 rfl) ?_
  refine lv_aload_n hx hb dX8_tellDue_3 rfl (lv_at hl 1 rfl) ?_
  refine mq_get hx hb hts hin hown hK hP 5 (by decide) (hts (.fieldLink RX8 23 "WordFletchersModel" "sayings" "[I") (List.mem_cons_of_mem _ (List.mem_append_left _ (List.mem_append_left _ (List.mem_of_getElem? (i := 0) rfl))))) rfl dX8_tellDue_4 ?_
  refine lv_iconst (v := iZ 0) hx hb dX8_tellDue_7 (by decide) ?_
  refine mq_iald hx hb hK hP 5 5 (n := 2) rfl (by decide) 0 rfl (by omega) dX8_tellDue_8 ?_
  refine z_icmp_ge (x := ss) (y := (Ma 5 0)) (tgt := 111) hx hb (by omega) (by omega) dX8_tellDue_9 (by decide) (fun c1 => ?_) (fun c1 => ?_)
  · exact mq_retV hx hb hK hP hS hr (by have q : ss = M 5 0 := (by omega); rw [i2, q]; rfl) dX8_tellDue_111 hlocks
  · refine lv_iconst (v := iZ 0) hx hb dX8_tellDue_12 (by decide) ?_
    refine lv_istore_n (lv' := [(2, .int (iZ 0)), (1, .int (iZ ss)), (0, .ref h)]) hx hb dX8_tellDue_13 rfl hl (by decide) rfl (fun ls hl => ?_)
    replace hl : lv_has ls 5 [(2, .int (iZ (0 : Int))), (1, .int (iZ ss)), (0, .ref h)] := lv_sub hl [0, 1, 2] rfl
    replace hP := And.intro hP hS
    clear hS
    revert ls
    revert hP
    revert H locs
    refine z_loopH (σ := (Nat → Nat → Int) × Int) (fun x9 => (0 ≤ x9.2 ∧ x9.2 ≤ 4) ∧ (x9.1 = f_tdN M (Int.toNat (4 * ss + x9.2)))) (fun x9 H9 locs9 => va_P D vwCl (mW C h a (x9.1)) H9 ∧ va_S (mA h a) s.heap H9 locs9) (fun x9 => [(2, .int (iZ (x9.2))), (1, .int (iZ ss)), (0, .ref h)]) 5 (fun x9 => (4 - x9.2).toNat) (Ma, (0 : Int)) ⟨(by show 0 ≤ (0 : Int) ∧ (0 : Int) ≤ 4; omega), (by show Ma = f_tdN M (Int.toNat (4 * ss + (0 : Int))); rw [i2]; congr 1; omega)⟩ ?_
    rintro ⟨Mb, kd⟩ hI9 ih14 H locs hPS ls hl
    have hP : va_P D vwCl (mW C h a Mb) H := hPS.1
    have hS : va_S (mA h a) s.heap H locs := hPS.2
    clear hPS
    have hD : va_D (mA h a) (mW C h a Mb) := mD_re hD
    obtain ⟨i3, i4⟩ := hI9
    replace i3 : 0 ≤ kd ∧ kd ≤ 4 := i3
    replace i4 : Mb = f_tdN M (Int.toNat (4 * ss + kd)) := i4
    replace hl : lv_has ls 5 [(2, .int (iZ kd)), (1, .int (iZ ss)), (0, .ref h)] := hl
    refine lv_iload_n hx hb dX8_tellDue_14 rfl (lv_at hl 0 rfl) ?_
    refine lv_iconst (v := iZ 4) hx hb dX8_tellDue_15 (by decide) ?_
    refine z_icmp_ge (x := kd) (y := 4) (tgt := 105) hx hb (by omega) (by omega) dX8_tellDue_16 (by decide) (fun c25 => ?_) (fun c25 => ?_)
    · refine lv_iinc (v := iZ (ss + 1)) (lv' := [(1, .int (iZ (ss + 1))), (2, .int (iZ kd)), (0, .ref h)]) hx hb dX8_tellDue_105 hl (k := 1) rfl (iZ_add _ _) (by decide) rfl (fun ls hl => ?_)
      refine lv_goto (tgt := 2) hx hb dX8_tellDue_108 (by decide) ?_
      exact ih2 (Mb, (ss + 1)) ⟨(by show 0 ≤ (ss + 1) ∧ (ss + 1) ≤ M 5 0; omega), (by show Mb = f_tdN M (Int.toNat (4 * (ss + 1))); rw [i4]; congr 1; omega)⟩ (by show (M 5 0 - (ss + 1)).toNat < (M 5 0 - ss).toNat; omega) H locs ⟨hP, hS⟩ ls (lv_sub hl [0, 2] rfl)
    · refine lv_aload_n hx hb dX8_tellDue_19 rfl (lv_at hl 2 rfl) ?_
      refine W.eq (g2 := F0 m 20 ls [.ref h]) rfl ?_
      refine mq_get hx hb hts hin hown hK hP 25 (by decide) (hts (.fieldLink RX8 63 "WordFletchersModel" "least" "[I") (List.mem_cons_of_mem _ (List.mem_append_left _ (List.mem_append_left _ (List.mem_of_getElem? (i := 1) rfl))))) rfl dX8_tellDue_20 ?_
      refine lv_iconst (v := iZ 4) hx hb dX8_tellDue_23 (by decide) ?_
      refine lv_iload_n hx hb dX8_tellDue_24 rfl (lv_at hl 1 rfl) ?_
      refine z_imul hx hb dX8_tellDue_25 ?_
      refine lv_iload_n hx hb dX8_tellDue_26 rfl (lv_at hl 0 rfl) ?_
      refine z_iadd hx hb dX8_tellDue_27 ?_
      refine z_ldc (n := 1000000) hx hb hown (hts (Cond.constant RX8 181 (1000000)) (List.mem_cons_of_mem _ (List.mem_append_left _ (List.mem_append_left _ (List.mem_of_getElem? (i := 2) rfl))))) (by decide) dX8_tellDue_28 ?_
      refine mq_iast hx hb hK hP hD hS 25 18 (n := 24) rfl (fun k9 => mS_25 C h a _ k9 _) (by decide) (Int.toNat ((4 * ss) + kd)) rfl (by omega) dX8_tellDue_30 (fun H locs hP hD hS => ?_)
      obtain ⟨M37, hM37⟩ : ∃ z : Nat → Nat → Int, z = (mU Mb 25 (Int.toNat ((4 * ss) + kd)) 1000000) := ⟨_, rfl⟩
      rw [← hM37] at hP hD
      refine lv_iconst (v := iZ 3) hx hb dX8_tellDue_31 (by decide) ?_
      refine lv_istore_n (lv' := [(3, .int (iZ 3)), (2, .int (iZ kd)), (1, .int (iZ ss)), (0, .ref h)]) hx hb dX8_tellDue_32 rfl hl (by decide) rfl (fun ls hl => ?_)
      replace hl : lv_has ls 5 [(3, .int (iZ (3 : Int))), (2, .int (iZ kd)), (1, .int (iZ ss)), (0, .ref h)] := lv_sub hl [0, 1, 2, 3] rfl
      replace hP := And.intro hP hS
      clear hS
      revert ls
      revert hP
      revert H locs
      refine z_loopH (σ := (Nat → Nat → Int) × Int) (fun x9 => (-1 ≤ x9.2 ∧ x9.2 ≤ 3 ∧ (¬ (kd = 0) → 0 ≤ x9.2)) ∧ (x9.1 = mU (f_tdN M (Int.toNat (4 * ss + kd))) 25 (Int.toNat (4 * ss + kd)) (s_lkN M ss kd (Int.toNat (3 - x9.2))))) (fun x9 H9 locs9 => va_P D vwCl (mW C h a (x9.1)) H9 ∧ va_S (mA h a) s.heap H9 locs9) (fun x9 => [(3, .int (iZ (x9.2))), (2, .int (iZ kd)), (1, .int (iZ ss)), (0, .ref h)]) 5 (fun x9 => (x9.2 + 1).toNat) (M37, (3 : Int)) ⟨(by show -1 ≤ (3 : Int) ∧ (3 : Int) ≤ 3 ∧ (¬ (kd = 0) → 0 ≤ (3 : Int)); omega), (by show M37 = mU (f_tdN M (Int.toNat (4 * ss + kd))) 25 (Int.toNat (4 * ss + kd)) (s_lkN M ss kd (Int.toNat (3 - (3 : Int)))); have q9 : s_lkN M ss kd (Int.toNat (3 - 3)) = 1000000 := rfl; rw [q9, ← i4]; assumption)⟩ ?_
      rintro ⟨Mc, nn⟩ hI9 ih33 H locs hPS ls hl
      have hP : va_P D vwCl (mW C h a Mc) H := hPS.1
      have hS : va_S (mA h a) s.heap H locs := hPS.2
      clear hPS
      have hD : va_D (mA h a) (mW C h a Mc) := mD_re hD
      obtain ⟨i5, i6⟩ := hI9
      replace i5 : -1 ≤ nn ∧ nn ≤ 3 ∧ (¬ (kd = 0) → 0 ≤ nn) := i5
      replace i6 : Mc = mU (f_tdN M (Int.toNat (4 * ss + kd))) 25 (Int.toNat (4 * ss + kd)) (s_lkN M ss kd (Int.toNat (3 - nn))) := i6
      replace hl : lv_has ls 5 [(3, .int (iZ nn)), (2, .int (iZ kd)), (1, .int (iZ ss)), (0, .ref h)] := hl
      have q3 : ∀ f, f ≠ 25 → Mc f = M f := fun f hf => by rw [i6]; funext j9; rw [mU_nf _ _ _ _ hf, f_tdN_o _ _ hf]
      have hI_Mc : mI Mc := mI_oo hI (fun f _ hf => q3 f hf)
      have g2 := congrFun (q3 2 (by decide)) 0
      have g5 := congrFun (q3 5 (by decide)) 0
      have hq8 := mI_sy hI_Mc (k := ss) (by omega)
      refine lv_iload_n hx hb dX8_tellDue_33 rfl (lv_at hl 0 rfl) ?_
      refine lv_iload_n hx hb dX8_tellDue_34 rfl (lv_at hl 1 rfl) ?_
      refine W.eq (g2 := F0 m 35 ls [.int (iZ kd), .int (iZ nn)]) rfl ?_
      have K40 : ∀ (v39 : Int), (v39 = (if kd = 0 then 0 else 1)) → ∀ ls : Array Slot, lv_has ls 5 [(3, .int (iZ nn)), (2, .int (iZ kd)), (1, .int (iZ ss)), (0, .ref h)] → W p l e ((headSpec wsX8_tellDue ({ frames := 2, cells := 0, slots := 0, locals := 52 })).room) s m (([.ref h] : List Value).toArray) below meth c H locs 0 0 (MQ below (va_Qv (fun (_ : Unit) => True) (fun _ t => mOk D C h a (f_td M) t) (mA h a)) (([.ref h] : List Value).toArray) s 0 0 (mA h a)) (F0 m 43 ls [.int (iZ v39), .int (iZ nn)]) := by
        intro v39 hv39 ls hl
        refine z_icmp_lt (x := nn) (y := v39) (tgt := 99) hx hb (by omega) (by omega) dX8_tellDue_43 (by decide) (fun c41 => ?_) (fun c41 => ?_)
        · refine lv_iinc (v := iZ (kd + 1)) (lv' := [(2, .int (iZ (kd + 1))), (3, .int (iZ nn)), (1, .int (iZ ss)), (0, .ref h)]) hx hb dX8_tellDue_99 hl (k := 1) rfl (iZ_add _ _) (by decide) rfl (fun ls hl => ?_)
          refine lv_goto (tgt := 14) hx hb dX8_tellDue_102 (by decide) ?_
          exact ih14 (Mc, (kd + 1)) ⟨(by show 0 ≤ (kd + 1) ∧ (kd + 1) ≤ 4; omega), (by show Mc = f_tdN M (Int.toNat (4 * ss + (kd + 1))); rw [i6]; exact f_td_end _ (by omega) (by omega) (by omega))⟩ (by show (4 - (kd + 1)).toNat < (4 - kd).toNat; omega) H locs ⟨hP, hS⟩ ls (lv_sub hl [0, 2, 3] rfl)
        · refine lv_aload_n hx hb dX8_tellDue_46 rfl (lv_at hl 3 rfl) ?_
          refine lv_aload_n hx hb dX8_tellDue_47 rfl (lv_at hl 3 rfl) ?_
          refine mq_get hx hb hts hin hown hK hP 8 (by decide) (hts (.fieldLink RX8 32 "WordFletchersModel" "first" "[I") (List.mem_cons_of_mem _ (List.mem_append_left _ (List.mem_append_left _ (List.mem_of_getElem? (i := 3) rfl))))) rfl dX8_tellDue_48 ?_
          refine lv_iload_n hx hb dX8_tellDue_51 rfl (lv_at hl 2 rfl) ?_
          refine mq_iald hx hb hK hP 8 8 (n := 12) rfl (by decide) (Int.toNat ss) rfl (by omega) dX8_tellDue_52 ?_
          refine lv_iload_n hx hb dX8_tellDue_53 rfl (lv_at hl 2 rfl) ?_
          refine lv_iload_n hx hb dX8_tellDue_54 rfl (lv_at hl 1 rfl) ?_
          refine lv_iload_n hx hb dX8_tellDue_55 rfl (lv_at hl 0 rfl) ?_
          refine lv_iconst (v := iZ 1) hx hb dX8_tellDue_56 (by decide) ?_
          refine W.eq (g2 := F0 m 57 ls [.int (iZ 1), .int (iZ nn), .int (iZ kd), .int (iZ ss), .int (iZ (Mc 8 (Int.toNat ss))), .ref h]) rfl ?_
          refine lv_aload_n hx hb dX8_tellDue_57 rfl (lv_at hl 3 rfl) ?_
          refine lv_iconst (v := iZ 0) hx hb dX8_tellDue_58 (by decide) ?_
          refine mq_ci (As := [.int (iZ 0)]) (rest := [.int (iZ 1), .int (iZ nn), .int (iZ kd), .int (iZ ss), .int (iZ (Mc 8 (Int.toNat ss))), .ref h]) ⟨hx, hb, hml, hown, hts⟩ hK hP (C_windIn l D C h a Mc 0 hI_Mc (by omega)) (cwV 1 hts gX8_tellDue_X8_windIn rfl rfl rfl (by decide +kernel) ⟨Nat.le_of_ble_eq_true rfl, Nat.le_of_ble_eq_true rfl⟩) rfl rfl hl.1 (Nat.le_of_ble_eq_true rfl) ⟨Nat.le_of_ble_eq_true rfl, Nat.le_of_ble_eq_true rfl⟩ dX8_tellDue_59 ?_
          have hwi := mI_wd hI_Mc 0
          refine mq_ci (As := [.int (iZ (Mc 8 (Int.toNat ss))), .int (iZ ss), .int (iZ kd), .int (iZ nn), .int (iZ 1), .int (iZ (s_wind Mc 0))]) (rest := []) ⟨hx, hb, hml, hown, hts⟩ hK hP (C_landsBy l D C h a Mc (Mc 8 (Int.toNat ss)) ss kd nn 1 (s_wind Mc 0) hI_Mc (by omega) (by omega) (by omega) (by omega) (by omega) (by omega)) (cwV 6 hts gX8_tellDue_X8_landsBy rfl rfl rfl (by decide +kernel) ⟨Nat.le_of_ble_eq_true rfl, Nat.le_of_ble_eq_true rfl⟩) rfl rfl hl.1 (Nat.le_of_ble_eq_true rfl) ⟨Nat.le_of_ble_eq_true rfl, Nat.le_of_ble_eq_true rfl⟩ dX8_tellDue_62 ?_
          have hld := s_land_bd (Mc 3 (Int.toNat (Mc 8 (Int.toNat ss)))) (Mc 7 (Int.toNat ss)) (Mc 6 (Int.toNat ss)) (Mc 19 1) kd nn 1 (s_wind Mc 0)
          refine z_nm (fun spv hspv => ?_)
          have hsp2 : spv = s_ln M (M 8 (Int.toNat ss)) ss kd nn 1 := by rw [hspv]; unfold s_ln s_wind; rw [q3 3 (by decide), q3 6 (by decide), q3 7 (by decide), q3 8 (by decide), q3 9 (by decide), q3 10 (by decide), q3 19 (by decide)]
          refine lv_istore (lv' := [(4, .int (iZ spv)), (3, .int (iZ nn)), (2, .int (iZ kd)), (1, .int (iZ ss)), (0, .ref h)]) hx hb dX8_tellDue_65 hl (by decide) rfl (fun ls hl => ?_)
          refine lv_aload_n hx hb dX8_tellDue_67 rfl (lv_at hl 4 rfl) ?_
          refine lv_iload hx hb dX8_tellDue_68 (lv_at hl 0 rfl) ?_
          refine lv_aload_n hx hb dX8_tellDue_70 rfl (lv_at hl 4 rfl) ?_
          refine mq_get hx hb hts hin hown hK hP 8 (by decide) (hts (.fieldLink RX8 32 "WordFletchersModel" "first" "[I") (List.mem_cons_of_mem _ (List.mem_append_left _ (List.mem_append_left _ (List.mem_of_getElem? (i := 3) rfl))))) rfl dX8_tellDue_71 ?_
          refine lv_iload_n hx hb dX8_tellDue_74 rfl (lv_at hl 3 rfl) ?_
          refine mq_iald hx hb hK hP 8 8 (n := 12) rfl (by decide) (Int.toNat ss) rfl (by omega) dX8_tellDue_75 ?_
          refine mq_ci (As := [.int (iZ spv), .int (iZ (Mc 8 (Int.toNat ss)))]) (rest := []) ⟨hx, hb, hml, hown, hts⟩ hK hP (C_hearersOf l D C h a Mc spv (Mc 8 (Int.toNat ss)) hI_Mc (by omega) (by omega)) (cwV 2 hts gX8_tellDue_X8_hearersOf rfl rfl rfl (by decide +kernel) ⟨Nat.le_of_ble_eq_true rfl, Nat.le_of_ble_eq_true rfl⟩) rfl rfl hl.1 (Nat.le_of_ble_eq_true rfl) ⟨Nat.le_of_ble_eq_true rfl, Nat.le_of_ble_eq_true rfl⟩ dX8_tellDue_76 ?_
          have hhe := s_hearers_bd Mc spv (Mc 8 (Int.toNat ss)) (by omega)
          refine z_nm (fun hd hhd => ?_)
          have hh2 : hd = s_lkh M ss kd nn := by rw [hhd]; unfold s_lkh s_hearers; rw [q3 2 (by decide), q3 3 (by decide), q3 4 (by decide), q3 8 (by decide), hsp2]
          refine W.eq (g2 := F0 m 79 ls [.int (iZ hd)]) rfl ?_
          refine z_if_eq (x := hd) (tgt := 93) hx hb (by omega) dX8_tellDue_79 (by decide) (fun c45 => ?_) (fun c45 => ?_)
          · refine lv_iinc (v := iZ (nn + (-1))) (lv' := [(3, .int (iZ (nn + (-1)))), (4, .int (iZ spv)), (2, .int (iZ kd)), (1, .int (iZ ss)), (0, .ref h)]) hx hb dX8_tellDue_93 hl (k := 1) rfl (iZ_add _ _) (by decide) rfl (fun ls hl => ?_)
            refine lv_goto (tgt := 33) hx hb dX8_tellDue_96 (by decide) ?_
            exact ih33 (Mc, (nn + (-1))) ⟨(by show -1 ≤ (nn + (-1)) ∧ (nn + (-1)) ≤ 3 ∧ (¬ (kd = 0) → 0 ≤ (nn + (-1))); omega), (by show Mc = mU (f_tdN M (Int.toNat (4 * ss + kd))) 25 (Int.toNat (4 * ss + kd)) (s_lkN M ss kd (Int.toNat (3 - (nn + (-1))))); rw [s_lkN_succ _ _ _ (by omega), ← hh2]; first | (rw [if_neg (by omega)]; exact i6) | (rw [if_pos (by omega)]; subst_vars; exact mU_mU _ _ _ _ _) | omega)⟩ (by show ((nn + (-1)) + 1).toNat < (nn + 1).toNat; omega) H locs ⟨hP, hS⟩ ls (lv_sub hl [0, 2, 3, 4] rfl)
          · refine W.eq (g2 := F0 m 82 ls []) rfl ?_
            refine lv_aload_n hx hb dX8_tellDue_82 rfl (lv_at hl 4 rfl) ?_
            refine mq_get hx hb hts hin hown hK hP 25 (by decide) (hts (.fieldLink RX8 63 "WordFletchersModel" "least" "[I") (List.mem_cons_of_mem _ (List.mem_append_left _ (List.mem_append_left _ (List.mem_of_getElem? (i := 1) rfl))))) rfl dX8_tellDue_83 ?_
            refine lv_iconst (v := iZ 4) hx hb dX8_tellDue_86 (by decide) ?_
            refine lv_iload_n hx hb dX8_tellDue_87 rfl (lv_at hl 3 rfl) ?_
            refine z_imul hx hb dX8_tellDue_88 ?_
            refine lv_iload_n hx hb dX8_tellDue_89 rfl (lv_at hl 2 rfl) ?_
            refine z_iadd hx hb dX8_tellDue_90 ?_
            refine lv_iload_n hx hb dX8_tellDue_91 rfl (lv_at hl 1 rfl) ?_
            refine mq_iast hx hb hK hP hD hS 25 18 (n := 24) rfl (fun k9 => mS_25 C h a _ k9 _) (by decide) (Int.toNat ((4 * ss) + kd)) rfl (by omega) dX8_tellDue_92 (fun H locs hP hD hS => ?_)
            obtain ⟨M47, hM47⟩ : ∃ z : Nat → Nat → Int, z = (mU Mc 25 (Int.toNat ((4 * ss) + kd)) nn) := ⟨_, rfl⟩
            rw [← hM47] at hP hD
            refine lv_iinc (v := iZ (nn + (-1))) (lv' := [(3, .int (iZ (nn + (-1)))), (4, .int (iZ spv)), (2, .int (iZ kd)), (1, .int (iZ ss)), (0, .ref h)]) hx hb dX8_tellDue_93 hl (k := 1) rfl (iZ_add _ _) (by decide) rfl (fun ls hl => ?_)
            refine lv_goto (tgt := 33) hx hb dX8_tellDue_96 (by decide) ?_
            exact ih33 (M47, (nn + (-1))) ⟨(by show -1 ≤ (nn + (-1)) ∧ (nn + (-1)) ≤ 3 ∧ (¬ (kd = 0) → 0 ≤ (nn + (-1))); omega), (by show M47 = mU (f_tdN M (Int.toNat (4 * ss + kd))) 25 (Int.toNat (4 * ss + kd)) (s_lkN M ss kd (Int.toNat (3 - (nn + (-1))))); rw [s_lkN_succ _ _ _ (by omega), ← hh2]; first | (rw [if_neg (by omega)]; exact i6) | (rw [if_pos (by omega)]; subst_vars; exact mU_mU _ _ _ _ _) | omega)⟩ (by show ((nn + (-1)) + 1).toNat < (nn + 1).toNat; omega) H locs ⟨hP, hS⟩ ls (lv_sub hl [0, 2, 3, 4] rfl)
      refine z_if_ne (x := kd) (tgt := 42) hx hb (by omega) dX8_tellDue_35 (by decide) (fun c38 => ?_) (fun c38 => ?_)
      · refine lv_iconst (v := iZ 1) hx hb dX8_tellDue_42 (by decide) ?_
        exact K40 1 (by first | rfl | (rw [if_neg c38]; done) | omega | (subst_vars; first | rfl | (rw [if_neg c38]; done) | omega)) ls (lv_sub hl [0, 1, 2, 3] rfl)
      · refine lv_iconst (v := iZ 0) hx hb dX8_tellDue_38 (by decide) ?_
        refine lv_goto (tgt := 43) hx hb dX8_tellDue_39 (by decide) ?_
        exact K40 0 (by first | rfl | (rw [if_pos c38]; done) | omega | (subst_vars; first | rfl | (rw [if_pos c38]; done) | omega)) ls (lv_sub hl [0, 1, 2, 3] rfl)
set_option maxHeartbeats 4000000 in
set_option maxRecDepth 100000 in
theorem C_takes (l : Launch) (D : va_G) (C : mC) (h : Nat) (a : Nat → Nat) (M : Nat → Nat → Int) (st rw : Int) (hI : mI M) (h1 : 0 ≤ st ∧ st < 64) (h2 : 0 ≤ rw ∧ rw < 2147483648) (h3 : ∀ k : Nat, (k : Int) < 4 * M 5 0 → 0 ≤ M 25 k ∧ M 25 k ≤ 1000000) : Met l yX8_takes wsX8_takes ({ frames := 1, cells := 0, slots := 0, locals := 21 }) (va_Pc [.ref h, .int (iZ st), .int (iZ rw)] (mOk D C h a M)) (vp_Si (fun r => r = iZ (s_takes M st rw))) 0 0 (fun _ => False) := by
  refine Met.ofW (cc := cX8_takes) (maxL := 12) (ret := (some .int)) (by decide) rfl ?_
  intro p e s m args below meth c s₁ B hml hv
  obtain ⟨rfl, hP, hK⟩ := hv
  have hx := B.exec
  have hb := B.bytes
  have hr := B.returns
  have hts := atoms_spec (ws := wsX8_takes) B.pre
  have hown : s.vm.findClass RX8 = some m.cls := findClass_of_methodNamed B.named
  have hlocks := B.notSynchronized
  have hin : ∀ w ∈ wsX80, w ∈ wsX8_takes := fun _ w_h => (List.mem_cons_of_mem _ (List.mem_append_right _ w_h))
  have hl := lv_entry ([.ref h, .int (iZ st), .int (iZ rw)]) (n := 12) (Nat.le_of_ble_eq_true rfl)
  rw [lg_entry_eq]
  generalize (lg_sl ([.ref h, .int (iZ st), .int (iZ rw)]) ++ List.replicate (12 - (lg_sl ([.ref h, .int (iZ st), .int (iZ rw)])).length) Slot.unset).toArray = ls at hl ⊢
  replace hl : lv_has ls 12 [(0, .ref h), (1, .int (iZ st)), (2, .int (iZ rw))] := hl
  have hnw := mI_now hI
  have hf2 : 0 ≤ M 19 2 ∧ M 19 2 ≤ 20 := mI_fe hI (k := 0) (by omega)
  have hf3 : 0 ≤ M 19 3 ∧ M 19 3 ≤ 20 := mI_fe hI (k := 1) (by omega)
  have hf4 : 0 ≤ M 19 4 ∧ M 19 4 ≤ 20 := mI_fe hI (k := 2) (by omega)
  have hf5 : 0 ≤ M 19 5 ∧ M 19 5 ≤ 20 := mI_fe hI (k := 3) (by omega)
  refine lv_iconst (v := iZ 0) hx hb dX8_takes_0 (by decide) ?_
  refine W.eq (g2 := F0 m 1 ls [.int (iZ 0)]) rfl ?_
  refine lv_istore_n (lv' := [(3, .int (iZ 0)), (0, .ref h), (1, .int (iZ st)), (2, .int (iZ rw))]) hx hb dX8_takes_1 rfl hl (by decide) rfl (fun ls hl => ?_)
  refine lv_iload_n hx hb dX8_takes_2 rfl (lv_at hl 3 rfl) ?_
  refine lv_istore (lv' := [(4, .int (iZ rw)), (3, .int (iZ 0)), (0, .ref h), (1, .int (iZ st)), (2, .int (iZ rw))]) hx hb dX8_takes_3 hl (by decide) rfl (fun ls hl => ?_)
  refine lv_iconst (v := iZ 0) hx hb dX8_takes_5 (by decide) ?_
  refine lv_istore (lv' := [(5, .int (iZ 0)), (4, .int (iZ rw)), (3, .int (iZ 0)), (0, .ref h), (1, .int (iZ st)), (2, .int (iZ rw))]) hx hb dX8_takes_6 hl (by decide) rfl (fun ls hl => ?_)
  refine lv_iconst (v := iZ 0) hx hb dX8_takes_8 (by decide) ?_
  refine lv_istore (lv' := [(6, .int (iZ 0)), (5, .int (iZ 0)), (4, .int (iZ rw)), (3, .int (iZ 0)), (0, .ref h), (1, .int (iZ st)), (2, .int (iZ rw))]) hx hb dX8_takes_9 hl (by decide) rfl (fun ls hl => ?_)
  refine lv_iconst (v := iZ 0) hx hb dX8_takes_11 (by decide) ?_
  refine lv_istore (lv' := [(7, .int (iZ 0)), (6, .int (iZ 0)), (5, .int (iZ 0)), (4, .int (iZ rw)), (3, .int (iZ 0)), (0, .ref h), (1, .int (iZ st)), (2, .int (iZ rw))]) hx hb dX8_takes_12 hl (by decide) rfl (fun ls hl => ?_)
  refine lv_iconst (v := iZ 0) hx hb dX8_takes_14 (by decide) ?_
  refine lv_istore (lv' := [(8, .int (iZ 0)), (7, .int (iZ 0)), (6, .int (iZ 0)), (5, .int (iZ 0)), (4, .int (iZ rw)), (3, .int (iZ 0)), (0, .ref h), (1, .int (iZ st)), (2, .int (iZ rw))]) hx hb dX8_takes_15 hl (by decide) rfl (fun ls hl => ?_)
  refine lv_aload_n hx hb dX8_takes_17 rfl (lv_at hl 6 rfl) ?_
  refine W.eq (g2 := F0 m 18 ls [.ref h]) rfl ?_
  refine mq_get hx hb hts hin hown hK hP 5 (by decide) (hts (.fieldLink RX8 23 "WordFletchersModel" "sayings" "[I") (List.mem_cons_of_mem _ (List.mem_append_left _ (List.mem_of_getElem? (i := 0) rfl)))) rfl dX8_takes_18 ?_
  refine lv_iconst (v := iZ 0) hx hb dX8_takes_21 (by decide) ?_
  refine mq_iald hx hb hK hP 5 5 (n := 2) rfl (by decide) 0 rfl (by omega) dX8_takes_22 ?_
  refine lv_iconst (v := iZ 1) hx hb dX8_takes_23 (by decide) ?_
  refine z_isub hx hb dX8_takes_24 ?_
  refine lv_istore (lv' := [(9, .int (iZ ((M 5 0) - 1))), (8, .int (iZ 0)), (7, .int (iZ 0)), (6, .int (iZ 0)), (5, .int (iZ 0)), (4, .int (iZ rw)), (3, .int (iZ 0)), (0, .ref h), (1, .int (iZ st)), (2, .int (iZ rw))]) hx hb dX8_takes_25 hl (by decide) rfl (fun ls hl => ?_)
  replace hl : lv_has ls 12 [(9, .int (iZ ((M 5 0) - 1))), (8, .int (iZ (0 : Int))), (7, .int (iZ (0 : Int))), (6, .int (iZ (0 : Int))), (5, .int (iZ (0 : Int))), (4, .int (iZ rw)), (3, .int (iZ (0 : Int))), (0, .ref h), (1, .int (iZ st))] := lv_sub hl [0, 1, 2, 3, 4, 5, 6, 7, 8] rfl
  revert ls
  refine z_loop (σ := Int × Int × Int × Int × Int × Int × Int) (fun x9 => ((-1 ≤ x9.2.2.2.2.2.2 ∧ x9.2.2.2.2.2.2 ≤ M 5 0 - 1) ∧ (0 ≤ x9.2.1 ∧ x9.2.1 < 2147483648)) ∧ ((0 ≤ x9.1 ∧ x9.1 ≤ 1000000 * (M 5 0 - 1 - x9.2.2.2.2.2.2)) ∧ (0 ≤ x9.2.2.1 ∧ x9.2.2.1 ≤ 1000000 * (M 5 0 - 1 - x9.2.2.2.2.2.2)) ∧ (0 ≤ x9.2.2.2.1 ∧ x9.2.2.2.1 ≤ 1000000 * (M 5 0 - 1 - x9.2.2.2.2.2.2)) ∧ (0 ≤ x9.2.2.2.2.1 ∧ x9.2.2.2.2.1 ≤ 1000000 * (M 5 0 - 1 - x9.2.2.2.2.2.2)) ∧ (0 ≤ x9.2.2.2.2.2.1 ∧ x9.2.2.2.2.2.1 ≤ 1000000 * (M 5 0 - 1 - x9.2.2.2.2.2.2))) ∧ (x9.2.1 = s_tk M st rw (Int.toNat (M 5 0 - 1 - x9.2.2.2.2.2.2)) 0) ∧ (x9.1 = s_tk M st rw (Int.toNat (M 5 0 - 1 - x9.2.2.2.2.2.2)) 1) ∧ (x9.2.2.1 = s_tk M st rw (Int.toNat (M 5 0 - 1 - x9.2.2.2.2.2.2)) 2) ∧ (x9.2.2.2.1 = s_tk M st rw (Int.toNat (M 5 0 - 1 - x9.2.2.2.2.2.2)) 3) ∧ (x9.2.2.2.2.1 = s_tk M st rw (Int.toNat (M 5 0 - 1 - x9.2.2.2.2.2.2)) 4) ∧ (x9.2.2.2.2.2.1 = s_tk M st rw (Int.toNat (M 5 0 - 1 - x9.2.2.2.2.2.2)) 5)) (fun x9 => [(9, .int (iZ (x9.2.2.2.2.2.2))), (8, .int (iZ (x9.2.2.2.2.2.1))), (7, .int (iZ (x9.2.2.2.2.1))), (6, .int (iZ (x9.2.2.2.1))), (5, .int (iZ (x9.2.2.1))), (4, .int (iZ (x9.2.1))), (3, .int (iZ (x9.1))), (0, .ref h), (1, .int (iZ st))]) 12 (fun x9 => (x9.2.2.2.2.2.2 + 1).toNat) ((0 : Int), rw, (0 : Int), (0 : Int), (0 : Int), (0 : Int), ((M 5 0) - 1)) ⟨(by show (-1 ≤ ((M 5 0) - 1) ∧ ((M 5 0) - 1) ≤ M 5 0 - 1) ∧ (0 ≤ rw ∧ rw < 2147483648); omega), (by show (0 ≤ (0 : Int) ∧ (0 : Int) ≤ 1000000 * (M 5 0 - 1 - ((M 5 0) - 1))) ∧ (0 ≤ (0 : Int) ∧ (0 : Int) ≤ 1000000 * (M 5 0 - 1 - ((M 5 0) - 1))) ∧ (0 ≤ (0 : Int) ∧ (0 : Int) ≤ 1000000 * (M 5 0 - 1 - ((M 5 0) - 1))) ∧ (0 ≤ (0 : Int) ∧ (0 : Int) ≤ 1000000 * (M 5 0 - 1 - ((M 5 0) - 1))) ∧ (0 ≤ (0 : Int) ∧ (0 : Int) ≤ 1000000 * (M 5 0 - 1 - ((M 5 0) - 1))); omega), (by show rw = s_tk M st rw (Int.toNat (M 5 0 - 1 - ((M 5 0) - 1))) 0; have q9 : Int.toNat (M 5 0 - 1 - (M 5 0 - 1)) = 0 := (by omega); rw [q9]; rfl), (by show (0 : Int) = s_tk M st rw (Int.toNat (M 5 0 - 1 - ((M 5 0) - 1))) 1; have q9 : Int.toNat (M 5 0 - 1 - (M 5 0 - 1)) = 0 := (by omega); rw [q9]; rfl), (by show (0 : Int) = s_tk M st rw (Int.toNat (M 5 0 - 1 - ((M 5 0) - 1))) 2; have q9 : Int.toNat (M 5 0 - 1 - (M 5 0 - 1)) = 0 := (by omega); rw [q9]; rfl), (by show (0 : Int) = s_tk M st rw (Int.toNat (M 5 0 - 1 - ((M 5 0) - 1))) 3; have q9 : Int.toNat (M 5 0 - 1 - (M 5 0 - 1)) = 0 := (by omega); rw [q9]; rfl), (by show (0 : Int) = s_tk M st rw (Int.toNat (M 5 0 - 1 - ((M 5 0) - 1))) 4; have q9 : Int.toNat (M 5 0 - 1 - (M 5 0 - 1)) = 0 := (by omega); rw [q9]; rfl), (by show (0 : Int) = s_tk M st rw (Int.toNat (M 5 0 - 1 - ((M 5 0) - 1))) 5; have q9 : Int.toNat (M 5 0 - 1 - (M 5 0 - 1)) = 0 := (by omega); rw [q9]; rfl)⟩ ?_
  rintro ⟨su, vv, ga, gb, gc, gd, ss⟩ hI9 ih27 ls hl
  obtain ⟨i1, i2, j0, j1, j2, j3, j4, j5⟩ := hI9
  replace i1 : (-1 ≤ ss ∧ ss ≤ M 5 0 - 1) ∧ (0 ≤ vv ∧ vv < 2147483648) := i1
  replace i2 : (0 ≤ su ∧ su ≤ 1000000 * (M 5 0 - 1 - ss)) ∧ (0 ≤ ga ∧ ga ≤ 1000000 * (M 5 0 - 1 - ss)) ∧ (0 ≤ gb ∧ gb ≤ 1000000 * (M 5 0 - 1 - ss)) ∧ (0 ≤ gc ∧ gc ≤ 1000000 * (M 5 0 - 1 - ss)) ∧ (0 ≤ gd ∧ gd ≤ 1000000 * (M 5 0 - 1 - ss)) := i2
  replace j0 : vv = s_tk M st rw (Int.toNat (M 5 0 - 1 - ss)) 0 := j0
  replace j1 : su = s_tk M st rw (Int.toNat (M 5 0 - 1 - ss)) 1 := j1
  replace j2 : ga = s_tk M st rw (Int.toNat (M 5 0 - 1 - ss)) 2 := j2
  replace j3 : gb = s_tk M st rw (Int.toNat (M 5 0 - 1 - ss)) 3 := j3
  replace j4 : gc = s_tk M st rw (Int.toNat (M 5 0 - 1 - ss)) 4 := j4
  replace j5 : gd = s_tk M st rw (Int.toNat (M 5 0 - 1 - ss)) 5 := j5
  replace hl : lv_has ls 12 [(9, .int (iZ ss)), (8, .int (iZ gd)), (7, .int (iZ gc)), (6, .int (iZ gb)), (5, .int (iZ ga)), (4, .int (iZ vv)), (3, .int (iZ su)), (0, .ref h), (1, .int (iZ st))] := hl
  have h5 : 0 ≤ ss → 0 ≤ M 25 (Int.toNat (4 * ss + vv % 4)) ∧ M 25 (Int.toNat (4 * ss + vv % 4)) ≤ 1000000 := fun q => h3 _ (by omega)
  refine lv_iload hx hb dX8_takes_27 (lv_at hl 0 rfl) ?_
  refine z_if_lt (x := ss) (tgt := 145) hx hb (by omega) dX8_takes_29 (by decide) (fun c1 => ?_) (fun c1 => ?_)
  · refine lv_iload hx hb dX8_takes_145 (lv_at hl 4 rfl) ?_
    refine lv_aload_n hx hb dX8_takes_147 rfl (lv_at hl 7 rfl) ?_
    refine W.eq (g2 := F0 m 148 ls [.ref h, .int (iZ ga)]) rfl ?_
    refine mq_get hx hb hts hin hown hK hP 19 (by decide) (hts (.fieldLink RX8 44 "WordFletchersModel" "now" "[I") (List.mem_cons_of_mem _ (List.mem_append_left _ (List.mem_of_getElem? (i := 2) rfl)))) rfl dX8_takes_148 ?_
    refine lv_iconst (v := iZ 2) hx hb dX8_takes_151 (by decide) ?_
    refine mq_iald hx hb hK hP 19 12 (n := 29) rfl (by decide) 2 rfl (by omega) dX8_takes_152 ?_
    have K27 : ∀ (v26 : Int), (v26 = (if (M 19 2) < ga then 0 else (if (M 19 3) < gb then 0 else (if (M 19 4) < gc then 0 else (if (M 19 5) < gd then 0 else 1))))) → ∀ ls : Array Slot, lv_has ls 12 [(3, .int (iZ su))] → W p l e ((headSpec wsX8_takes ({ frames := 1, cells := 0, slots := 0, locals := 21 })).room) s m (([.ref h, .int (iZ st), .int (iZ rw)] : List Value).toArray) below meth c s.heap [] 0 0 (MQ below (vp_Si (fun r => r = iZ (s_takes M st rw))) (([.ref h, .int (iZ st), .int (iZ rw)] : List Value).toArray) s 0 0 (fun _ => False)) (F0 m 194 ls [.int (iZ v26)]) := by
      intro v26 hv26 ls hl
      refine lv_istore (lv' := [(9, .int (iZ v26)), (3, .int (iZ su))]) hx hb dX8_takes_194 hl (by decide) rfl (fun ls hl => ?_)
      refine lv_iload hx hb dX8_takes_196 (lv_at hl 0 rfl) ?_
      have K31 : ∀ (v30 : Int), (v30 = (if v26 = 0 then 1000000 else (if 1000000 ≤ su then 1000000 else su))) → ∀ ls : Array Slot, lv_has ls 12 [] → W p l e ((headSpec wsX8_takes ({ frames := 1, cells := 0, slots := 0, locals := 21 })).room) s m (([.ref h, .int (iZ st), .int (iZ rw)] : List Value).toArray) below meth c s.heap [] 0 0 (MQ below (vp_Si (fun r => r = iZ (s_takes M st rw))) (([.ref h, .int (iZ st), .int (iZ rw)] : List Value).toArray) s 0 0 (fun _ => False)) (F0 m 213 ls [.int (iZ v30)]) := by
        intro v30 hv30 ls hl
        exact mq_ret hx hb hr rfl (by have q : ss = -1 := (by omega); have q9 : Int.toNat (M 5 0 - 1 - ss) = Int.toNat (M 5 0) := (by omega); rw [q9] at j1 j2 j3 j4 j5; unfold s_takes; rw [← j1, ← j2, ← j3, ← j4, ← j5]; omega) dX8_takes_213 hlocks rfl
      refine z_if_eq (x := v26) (tgt := 211) hx hb (by omega) dX8_takes_198 (by decide) (fun c28 => ?_) (fun c28 => ?_)
      · refine z_ldc (n := 1000000) hx hb hown (hts (.constant RX8 181 (1000000)) (List.mem_cons_of_mem _ (List.mem_append_left _ (List.mem_of_getElem? (i := 3) rfl)))) (by decide) dX8_takes_211 ?_
        exact K31 1000000 (by first | rfl | (rw [if_pos c28]; done) | omega | (subst_vars; first | rfl | (rw [if_pos c28]; done) | omega)) ls (lv_sub hl [] rfl)
      · refine lv_iload_n hx hb dX8_takes_201 rfl (lv_at hl 1 rfl) ?_
        refine z_ldc (n := 1000000) hx hb hown (hts (.constant RX8 181 (1000000)) (List.mem_cons_of_mem _ (List.mem_append_left _ (List.mem_of_getElem? (i := 3) rfl)))) (by decide) dX8_takes_202 ?_
        refine z_icmp_ge (x := su) (y := 1000000) (tgt := 211) hx hb (by omega) (by omega) dX8_takes_204 (by decide) (fun c29 => ?_) (fun c29 => ?_)
        · refine z_ldc (n := 1000000) hx hb hown (hts (.constant RX8 181 (1000000)) (List.mem_cons_of_mem _ (List.mem_append_left _ (List.mem_of_getElem? (i := 3) rfl)))) (by decide) dX8_takes_211 ?_
          exact K31 1000000 (by first | rfl | (rw [if_neg c28, if_pos c29]; done) | omega | (subst_vars; first | rfl | (rw [if_neg c28, if_pos c29]; done) | omega)) ls (lv_sub hl [] rfl)
        · refine W.eq (g2 := F0 m 207 ls []) rfl ?_
          refine lv_iload_n hx hb dX8_takes_207 rfl (lv_at hl 1 rfl) ?_
          refine lv_goto (tgt := 213) hx hb dX8_takes_208 (by decide) ?_
          exact K31 su (by first | rfl | (rw [if_neg c28, if_neg c29]; done) | omega | (subst_vars; first | rfl | (rw [if_neg c28, if_neg c29]; done) | omega)) ls (lv_sub hl [] rfl)
    refine z_icmp_gt (x := ga) (y := (M 19 2)) (tgt := 193) hx hb (by omega) (by omega) dX8_takes_153 (by decide) (fun c22 => ?_) (fun c22 => ?_)
    · refine lv_iconst (v := iZ 0) hx hb dX8_takes_193 (by decide) ?_
      exact K27 0 (by first | rfl | (rw [if_pos c22]; done) | omega | (subst_vars; first | rfl | (rw [if_pos c22]; done) | omega)) ls (lv_sub hl [6] rfl)
    · refine lv_iload hx hb dX8_takes_156 (lv_at hl 3 rfl) ?_
      refine lv_aload_n hx hb dX8_takes_158 rfl (lv_at hl 7 rfl) ?_
      refine mq_get hx hb hts hin hown hK hP 19 (by decide) (hts (.fieldLink RX8 44 "WordFletchersModel" "now" "[I") (List.mem_cons_of_mem _ (List.mem_append_left _ (List.mem_of_getElem? (i := 2) rfl)))) rfl dX8_takes_159 ?_
      refine lv_iconst (v := iZ 3) hx hb dX8_takes_162 (by decide) ?_
      refine mq_iald hx hb hK hP 19 12 (n := 29) rfl (by decide) 3 rfl (by omega) dX8_takes_163 ?_
      refine z_icmp_gt (x := gb) (y := (M 19 3)) (tgt := 193) hx hb (by omega) (by omega) dX8_takes_164 (by decide) (fun c23 => ?_) (fun c23 => ?_)
      · refine lv_iconst (v := iZ 0) hx hb dX8_takes_193 (by decide) ?_
        exact K27 0 (by first | rfl | (rw [if_neg c22, if_pos c23]; done) | omega | (subst_vars; first | rfl | (rw [if_neg c22, if_pos c23]; done) | omega)) ls (lv_sub hl [6] rfl)
      · refine W.eq (g2 := F0 m 167 ls []) rfl ?_
        refine lv_iload hx hb dX8_takes_167 (lv_at hl 2 rfl) ?_
        refine lv_aload_n hx hb dX8_takes_169 rfl (lv_at hl 7 rfl) ?_
        refine mq_get hx hb hts hin hown hK hP 19 (by decide) (hts (.fieldLink RX8 44 "WordFletchersModel" "now" "[I") (List.mem_cons_of_mem _ (List.mem_append_left _ (List.mem_of_getElem? (i := 2) rfl)))) rfl dX8_takes_170 ?_
        refine lv_iconst (v := iZ 4) hx hb dX8_takes_173 (by decide) ?_
        refine mq_iald hx hb hK hP 19 12 (n := 29) rfl (by decide) 4 rfl (by omega) dX8_takes_174 ?_
        refine z_icmp_gt (x := gc) (y := (M 19 4)) (tgt := 193) hx hb (by omega) (by omega) dX8_takes_175 (by decide) (fun c24 => ?_) (fun c24 => ?_)
        · refine lv_iconst (v := iZ 0) hx hb dX8_takes_193 (by decide) ?_
          exact K27 0 (by first | rfl | (rw [if_neg c22, if_neg c23, if_pos c24]; done) | omega | (subst_vars; first | rfl | (rw [if_neg c22, if_neg c23, if_pos c24]; done) | omega)) ls (lv_sub hl [6] rfl)
        · refine lv_iload hx hb dX8_takes_178 (lv_at hl 1 rfl) ?_
          refine lv_aload_n hx hb dX8_takes_180 rfl (lv_at hl 7 rfl) ?_
          refine mq_get hx hb hts hin hown hK hP 19 (by decide) (hts (.fieldLink RX8 44 "WordFletchersModel" "now" "[I") (List.mem_cons_of_mem _ (List.mem_append_left _ (List.mem_of_getElem? (i := 2) rfl)))) rfl dX8_takes_181 ?_
          refine lv_iconst (v := iZ 5) hx hb dX8_takes_184 (by decide) ?_
          refine mq_iald hx hb hK hP 19 12 (n := 29) rfl (by decide) 5 rfl (by omega) dX8_takes_185 ?_
          refine W.eq (g2 := F0 m 186 ls [.int (iZ (M 19 5)), .int (iZ gd)]) rfl ?_
          refine z_icmp_gt (x := gd) (y := (M 19 5)) (tgt := 193) hx hb (by omega) (by omega) dX8_takes_186 (by decide) (fun c25 => ?_) (fun c25 => ?_)
          · refine lv_iconst (v := iZ 0) hx hb dX8_takes_193 (by decide) ?_
            exact K27 0 (by first | rfl | (rw [if_neg c22, if_neg c23, if_neg c24, if_pos c25]; done) | omega | (subst_vars; first | rfl | (rw [if_neg c22, if_neg c23, if_neg c24, if_pos c25]; done) | omega)) ls (lv_sub hl [6] rfl)
          · refine lv_iconst (v := iZ 1) hx hb dX8_takes_189 (by decide) ?_
            refine lv_goto (tgt := 194) hx hb dX8_takes_190 (by decide) ?_
            exact K27 1 (by first | rfl | (rw [if_neg c22, if_neg c23, if_neg c24, if_neg c25]; done) | omega | (subst_vars; first | rfl | (rw [if_neg c22, if_neg c23, if_neg c24, if_neg c25]; done) | omega)) ls (lv_sub hl [6] rfl)
  · refine lv_iload_n hx hb dX8_takes_32 rfl (lv_at hl 8 rfl) ?_
    refine lv_iload hx hb dX8_takes_33 (lv_at hl 0 rfl) ?_
    refine mq_cs (As := [.int (iZ st), .int (iZ ss)]) (rest := []) ⟨hx, hb, hml, hown, hts⟩ (C_has l st ss (by omega) (by omega)) (va_cwS 2 hts gX8_takes_X8_has rfl rfl rfl (by decide +kernel) ⟨Nat.le_of_ble_eq_true rfl, Nat.le_of_ble_eq_true rfl⟩) rfl rfl hl.1 (Nat.le_of_ble_eq_true rfl) ⟨Nat.le_of_ble_eq_true rfl, Nat.le_of_ble_eq_true rfl⟩ dX8_takes_35 ?_
    have K51 : ∀ (v45 : Int) (v46 : Int) (v47 : Int) (v48 : Int) (v49 : Int) (v50 : Int), (v45 = (if (st / zp ss % 2 = 1) then (gd + (if (vv % 4) = 3 then (M 25 (Int.toNat ((4 * ss) + (vv % 4)))) else 0)) else gd)) → (v46 = (if (st / zp ss % 2 = 1) then (gc + (if (vv % 4) = 2 then (M 25 (Int.toNat ((4 * ss) + (vv % 4)))) else 0)) else gc)) → (v47 = (if (st / zp ss % 2 = 1) then (gb + (if (vv % 4) = 1 then (M 25 (Int.toNat ((4 * ss) + (vv % 4)))) else 0)) else gb)) → (v48 = (if (st / zp ss % 2 = 1) then (ga + (if (vv % 4) = 0 then (M 25 (Int.toNat ((4 * ss) + (vv % 4)))) else 0)) else ga)) → (v49 = (if (st / zp ss % 2 = 1) then (vv / 4) else vv)) → (v50 = (if (st / zp ss % 2 = 1) then (su + (M 25 (Int.toNat ((4 * ss) + (vv % 4))))) else su)) → ∀ ls : Array Slot, lv_has ls 12 [(9, .int (iZ ss)), (8, .int (iZ v45)), (7, .int (iZ v46)), (6, .int (iZ v47)), (5, .int (iZ v48)), (4, .int (iZ v49)), (3, .int (iZ v50)), (0, .ref h), (1, .int (iZ st))] → W p l e ((headSpec wsX8_takes ({ frames := 1, cells := 0, slots := 0, locals := 21 })).room) s m (([.ref h, .int (iZ st), .int (iZ rw)] : List Value).toArray) below meth c s.heap [] 0 0 (MQ below (vp_Si (fun r => r = iZ (s_takes M st rw))) (([.ref h, .int (iZ st), .int (iZ rw)] : List Value).toArray) s 0 0 (fun _ => False)) (F0 m 139 ls []) := by
      intro v45 v46 v47 v48 v49 v50 hv45 hv46 hv47 hv48 hv49 hv50 ls hl
      refine lv_iinc (v := iZ (ss + (-1))) (lv' := [(9, .int (iZ (ss + (-1)))), (8, .int (iZ v45)), (7, .int (iZ v46)), (6, .int (iZ v47)), (5, .int (iZ v48)), (4, .int (iZ v49)), (3, .int (iZ v50)), (0, .ref h), (1, .int (iZ st))]) hx hb dX8_takes_139 hl (k := 0) rfl (iZ_add _ _) (by decide) rfl (fun ls hl => ?_)
      refine lv_goto (tgt := 27) hx hb dX8_takes_142 (by decide) ?_
      exact ih27 (v50, v49, v48, v47, v46, v45, (ss + (-1))) ⟨(by show (-1 ≤ (ss + (-1)) ∧ (ss + (-1)) ≤ M 5 0 - 1) ∧ (0 ≤ v49 ∧ v49 < 2147483648); omega), (by show (0 ≤ v50 ∧ v50 ≤ 1000000 * (M 5 0 - 1 - (ss + (-1)))) ∧ (0 ≤ v48 ∧ v48 ≤ 1000000 * (M 5 0 - 1 - (ss + (-1)))) ∧ (0 ≤ v47 ∧ v47 ≤ 1000000 * (M 5 0 - 1 - (ss + (-1)))) ∧ (0 ≤ v46 ∧ v46 ≤ 1000000 * (M 5 0 - 1 - (ss + (-1)))) ∧ (0 ≤ v45 ∧ v45 ≤ 1000000 * (M 5 0 - 1 - (ss + (-1)))); omega), (by show v49 = s_tk M st rw (Int.toNat (M 5 0 - 1 - (ss + (-1)))) 0; rw [s_tk_0 _ _ _ (by omega), ← j0]; omega), (by show v50 = s_tk M st rw (Int.toNat (M 5 0 - 1 - (ss + (-1)))) 1; rw [s_tk_1 _ _ _ (by omega), ← j0, ← j1]; omega), (by show v48 = s_tk M st rw (Int.toNat (M 5 0 - 1 - (ss + (-1)))) 2; rw [s_tk_2 _ _ _ (by omega) 0, ← j0, ← j2]; omega), (by show v47 = s_tk M st rw (Int.toNat (M 5 0 - 1 - (ss + (-1)))) 3; rw [s_tk_2 _ _ _ (by omega) 1, ← j0, ← j3]; omega), (by show v46 = s_tk M st rw (Int.toNat (M 5 0 - 1 - (ss + (-1)))) 4; rw [s_tk_2 _ _ _ (by omega) 2, ← j0, ← j4]; omega), (by show v45 = s_tk M st rw (Int.toNat (M 5 0 - 1 - (ss + (-1)))) 5; rw [s_tk_2 _ _ _ (by omega) 3, ← j0, ← j5]; omega)⟩ (by show ((ss + (-1)) + 1).toNat < (ss + 1).toNat; omega) ls (lv_sub hl [0, 1, 2, 3, 4, 5, 6, 7, 8] rfl)
    refine z_ifb_eq (P := (st / zp ss % 2 = 1)) (tgt := 139) hx hb dX8_takes_38 (by decide) (fun c32 => ?_) (fun c32 => ?_)
    · exact K51 gd gc gb ga vv su (by first | rfl | (rw [if_neg c32]; done) | omega | (subst_vars; first | rfl | (rw [if_neg c32]; done) | omega)) (by first | rfl | (rw [if_neg c32]; done) | omega | (subst_vars; first | rfl | (rw [if_neg c32]; done) | omega)) (by first | rfl | (rw [if_neg c32]; done) | omega | (subst_vars; first | rfl | (rw [if_neg c32]; done) | omega)) (by first | rfl | (rw [if_neg c32]; done) | omega | (subst_vars; first | rfl | (rw [if_neg c32]; done) | omega)) (by first | rfl | (rw [if_neg c32]; done) | omega | (subst_vars; first | rfl | (rw [if_neg c32]; done) | omega)) (by first | rfl | (rw [if_neg c32]; done) | omega | (subst_vars; first | rfl | (rw [if_neg c32]; done) | omega)) ls (lv_sub hl [0, 1, 2, 3, 4, 5, 6, 7, 8] rfl)
    · refine lv_iload hx hb dX8_takes_41 (lv_at hl 5 rfl) ?_
      refine lv_iconst (v := iZ 4) hx hb dX8_takes_43 (by decide) ?_
      refine z_irem hx hb (by omega) (by omega) dX8_takes_44 ?_
      refine lv_istore (lv' := [(10, .int (iZ (vv % 4))), (9, .int (iZ ss)), (8, .int (iZ gd)), (7, .int (iZ gc)), (6, .int (iZ gb)), (5, .int (iZ ga)), (4, .int (iZ vv)), (3, .int (iZ su)), (0, .ref h), (1, .int (iZ st))]) hx hb dX8_takes_45 hl (by decide) rfl (fun ls hl => ?_)
      refine lv_aload_n hx hb dX8_takes_47 rfl (lv_at hl 8 rfl) ?_
      refine W.eq (g2 := F0 m 48 ls [.ref h]) rfl ?_
      refine mq_get hx hb hts hin hown hK hP 25 (by decide) (hts (.fieldLink RX8 63 "WordFletchersModel" "least" "[I") (List.mem_cons_of_mem _ (List.mem_append_left _ (List.mem_of_getElem? (i := 1) rfl)))) rfl dX8_takes_48 ?_
      refine lv_iconst (v := iZ 4) hx hb dX8_takes_51 (by decide) ?_
      refine lv_iload hx hb dX8_takes_52 (lv_at hl 1 rfl) ?_
      refine z_imul hx hb dX8_takes_54 ?_
      refine lv_iload hx hb dX8_takes_55 (lv_at hl 0 rfl) ?_
      refine z_iadd hx hb dX8_takes_57 ?_
      refine mq_iald hx hb hK hP 25 18 (n := 24) rfl (by decide) (Int.toNat ((4 * ss) + (vv % 4))) rfl (by omega) dX8_takes_58 ?_
      refine lv_istore (lv' := [(11, .int (iZ (M 25 (Int.toNat ((4 * ss) + (vv % 4)))))), (10, .int (iZ (vv % 4))), (9, .int (iZ ss)), (8, .int (iZ gd)), (7, .int (iZ gc)), (6, .int (iZ gb)), (5, .int (iZ ga)), (4, .int (iZ vv)), (3, .int (iZ su)), (0, .ref h), (1, .int (iZ st))]) hx hb dX8_takes_59 hl (by decide) rfl (fun ls hl => ?_)
      refine lv_iload hx hb dX8_takes_61 (lv_at hl 7 rfl) ?_
      refine lv_iconst (v := iZ 4) hx hb dX8_takes_63 (by decide) ?_
      refine z_idiv hx hb (by omega) (by omega) dX8_takes_64 ?_
      refine lv_istore (lv' := [(4, .int (iZ (vv / 4))), (11, .int (iZ (M 25 (Int.toNat ((4 * ss) + (vv % 4)))))), (10, .int (iZ (vv % 4))), (9, .int (iZ ss)), (8, .int (iZ gd)), (7, .int (iZ gc)), (6, .int (iZ gb)), (5, .int (iZ ga)), (3, .int (iZ su)), (0, .ref h), (1, .int (iZ st))]) hx hb dX8_takes_65 hl (by decide) rfl (fun ls hl => ?_)
      refine W.eq (g2 := F0 m 67 ls []) rfl ?_
      refine lv_iload_n hx hb dX8_takes_67 rfl (lv_at hl 8 rfl) ?_
      refine lv_iload hx hb dX8_takes_68 (lv_at hl 1 rfl) ?_
      refine z_iadd hx hb dX8_takes_70 ?_
      refine lv_istore_n (lv' := [(3, .int (iZ (su + (M 25 (Int.toNat ((4 * ss) + (vv % 4))))))), (4, .int (iZ (vv / 4))), (11, .int (iZ (M 25 (Int.toNat ((4 * ss) + (vv % 4)))))), (10, .int (iZ (vv % 4))), (9, .int (iZ ss)), (8, .int (iZ gd)), (7, .int (iZ gc)), (6, .int (iZ gb)), (5, .int (iZ ga)), (0, .ref h), (1, .int (iZ st))]) hx hb dX8_takes_71 rfl hl (by decide) rfl (fun ls hl => ?_)
      refine lv_iload hx hb dX8_takes_72 (lv_at hl 8 rfl) ?_
      refine lv_iload hx hb dX8_takes_74 (lv_at hl 3 rfl) ?_
      have K35 : ∀ (v34 : Int), (v34 = (if (vv % 4) = 0 then (M 25 (Int.toNat ((4 * ss) + (vv % 4)))) else 0)) → ∀ ls : Array Slot, lv_has ls 12 [(3, .int (iZ (su + (M 25 (Int.toNat ((4 * ss) + (vv % 4))))))), (4, .int (iZ (vv / 4))), (11, .int (iZ (M 25 (Int.toNat ((4 * ss) + (vv % 4)))))), (10, .int (iZ (vv % 4))), (9, .int (iZ ss)), (8, .int (iZ gd)), (7, .int (iZ gc)), (6, .int (iZ gb)), (0, .ref h), (1, .int (iZ st))] → W p l e ((headSpec wsX8_takes ({ frames := 1, cells := 0, slots := 0, locals := 21 })).room) s m (([.ref h, .int (iZ st), .int (iZ rw)] : List Value).toArray) below meth c s.heap [] 0 0 (MQ below (vp_Si (fun r => r = iZ (s_takes M st rw))) (([.ref h, .int (iZ st), .int (iZ rw)] : List Value).toArray) s 0 0 (fun _ => False)) (F0 m 85 ls [.int (iZ v34), .int (iZ ga)]) := by
        intro v34 hv34 ls hl
        refine z_iadd hx hb dX8_takes_85 ?_
        refine lv_istore (lv' := [(5, .int (iZ (ga + v34))), (3, .int (iZ (su + (M 25 (Int.toNat ((4 * ss) + (vv % 4))))))), (4, .int (iZ (vv / 4))), (11, .int (iZ (M 25 (Int.toNat ((4 * ss) + (vv % 4)))))), (10, .int (iZ (vv % 4))), (9, .int (iZ ss)), (8, .int (iZ gd)), (7, .int (iZ gc)), (6, .int (iZ gb)), (0, .ref h), (1, .int (iZ st))]) hx hb dX8_takes_86 hl (by decide) rfl (fun ls hl => ?_)
        refine W.eq (g2 := F0 m 88 ls []) rfl ?_
        refine lv_iload hx hb dX8_takes_88 (lv_at hl 8 rfl) ?_
        refine lv_iload hx hb dX8_takes_90 (lv_at hl 4 rfl) ?_
        refine lv_iconst (v := iZ 1) hx hb dX8_takes_92 (by decide) ?_
        have K38 : ∀ (v37 : Int), (v37 = (if (vv % 4) = 1 then (M 25 (Int.toNat ((4 * ss) + (vv % 4)))) else 0)) → ∀ ls : Array Slot, lv_has ls 12 [(5, .int (iZ (ga + v34))), (3, .int (iZ (su + (M 25 (Int.toNat ((4 * ss) + (vv % 4))))))), (4, .int (iZ (vv / 4))), (11, .int (iZ (M 25 (Int.toNat ((4 * ss) + (vv % 4)))))), (10, .int (iZ (vv % 4))), (9, .int (iZ ss)), (8, .int (iZ gd)), (7, .int (iZ gc)), (0, .ref h), (1, .int (iZ st))] → W p l e ((headSpec wsX8_takes ({ frames := 1, cells := 0, slots := 0, locals := 21 })).room) s m (([.ref h, .int (iZ st), .int (iZ rw)] : List Value).toArray) below meth c s.heap [] 0 0 (MQ below (vp_Si (fun r => r = iZ (s_takes M st rw))) (([.ref h, .int (iZ st), .int (iZ rw)] : List Value).toArray) s 0 0 (fun _ => False)) (F0 m 102 ls [.int (iZ v37), .int (iZ gb)]) := by
          intro v37 hv37 ls hl
          refine z_iadd hx hb dX8_takes_102 ?_
          refine lv_istore (lv' := [(6, .int (iZ (gb + v37))), (5, .int (iZ (ga + v34))), (3, .int (iZ (su + (M 25 (Int.toNat ((4 * ss) + (vv % 4))))))), (4, .int (iZ (vv / 4))), (11, .int (iZ (M 25 (Int.toNat ((4 * ss) + (vv % 4)))))), (10, .int (iZ (vv % 4))), (9, .int (iZ ss)), (8, .int (iZ gd)), (7, .int (iZ gc)), (0, .ref h), (1, .int (iZ st))]) hx hb dX8_takes_103 hl (by decide) rfl (fun ls hl => ?_)
          refine lv_iload hx hb dX8_takes_105 (lv_at hl 8 rfl) ?_
          refine lv_iload hx hb dX8_takes_107 (lv_at hl 5 rfl) ?_
          refine lv_iconst (v := iZ 2) hx hb dX8_takes_109 (by decide) ?_
          refine W.eq (g2 := F0 m 110 ls [.int (iZ 2), .int (iZ (vv % 4)), .int (iZ gc)]) rfl ?_
          have K41 : ∀ (v40 : Int), (v40 = (if (vv % 4) = 2 then (M 25 (Int.toNat ((4 * ss) + (vv % 4)))) else 0)) → ∀ ls : Array Slot, lv_has ls 12 [(6, .int (iZ (gb + v37))), (5, .int (iZ (ga + v34))), (3, .int (iZ (su + (M 25 (Int.toNat ((4 * ss) + (vv % 4))))))), (4, .int (iZ (vv / 4))), (11, .int (iZ (M 25 (Int.toNat ((4 * ss) + (vv % 4)))))), (10, .int (iZ (vv % 4))), (9, .int (iZ ss)), (8, .int (iZ gd)), (0, .ref h), (1, .int (iZ st))] → W p l e ((headSpec wsX8_takes ({ frames := 1, cells := 0, slots := 0, locals := 21 })).room) s m (([.ref h, .int (iZ st), .int (iZ rw)] : List Value).toArray) below meth c s.heap [] 0 0 (MQ below (vp_Si (fun r => r = iZ (s_takes M st rw))) (([.ref h, .int (iZ st), .int (iZ rw)] : List Value).toArray) s 0 0 (fun _ => False)) (F0 m 119 ls [.int (iZ v40), .int (iZ gc)]) := by
            intro v40 hv40 ls hl
            refine z_iadd hx hb dX8_takes_119 ?_
            refine lv_istore (lv' := [(7, .int (iZ (gc + v40))), (6, .int (iZ (gb + v37))), (5, .int (iZ (ga + v34))), (3, .int (iZ (su + (M 25 (Int.toNat ((4 * ss) + (vv % 4))))))), (4, .int (iZ (vv / 4))), (11, .int (iZ (M 25 (Int.toNat ((4 * ss) + (vv % 4)))))), (10, .int (iZ (vv % 4))), (9, .int (iZ ss)), (8, .int (iZ gd)), (0, .ref h), (1, .int (iZ st))]) hx hb dX8_takes_120 hl (by decide) rfl (fun ls hl => ?_)
            refine lv_iload hx hb dX8_takes_122 (lv_at hl 8 rfl) ?_
            refine lv_iload hx hb dX8_takes_124 (lv_at hl 6 rfl) ?_
            refine lv_iconst (v := iZ 3) hx hb dX8_takes_126 (by decide) ?_
            have K44 : ∀ (v43 : Int), (v43 = (if (vv % 4) = 3 then (M 25 (Int.toNat ((4 * ss) + (vv % 4)))) else 0)) → ∀ ls : Array Slot, lv_has ls 12 [(7, .int (iZ (gc + v40))), (6, .int (iZ (gb + v37))), (5, .int (iZ (ga + v34))), (3, .int (iZ (su + (M 25 (Int.toNat ((4 * ss) + (vv % 4))))))), (4, .int (iZ (vv / 4))), (9, .int (iZ ss)), (0, .ref h), (1, .int (iZ st))] → W p l e ((headSpec wsX8_takes ({ frames := 1, cells := 0, slots := 0, locals := 21 })).room) s m (([.ref h, .int (iZ st), .int (iZ rw)] : List Value).toArray) below meth c s.heap [] 0 0 (MQ below (vp_Si (fun r => r = iZ (s_takes M st rw))) (([.ref h, .int (iZ st), .int (iZ rw)] : List Value).toArray) s 0 0 (fun _ => False)) (F0 m 136 ls [.int (iZ v43), .int (iZ gd)]) := by
              intro v43 hv43 ls hl
              refine z_iadd hx hb dX8_takes_136 ?_
              refine lv_istore (lv' := [(8, .int (iZ (gd + v43))), (7, .int (iZ (gc + v40))), (6, .int (iZ (gb + v37))), (5, .int (iZ (ga + v34))), (3, .int (iZ (su + (M 25 (Int.toNat ((4 * ss) + (vv % 4))))))), (4, .int (iZ (vv / 4))), (9, .int (iZ ss)), (0, .ref h), (1, .int (iZ st))]) hx hb dX8_takes_137 hl (by decide) rfl (fun ls hl => ?_)
              exact K51 (gd + v43) (gc + v40) (gb + v37) (ga + v34) (vv / 4) (su + (M 25 (Int.toNat ((4 * ss) + (vv % 4))))) (by first | rfl | (rw [if_pos c32]; done) | omega | (subst_vars; first | rfl | (rw [if_pos c32]; done) | omega)) (by first | rfl | (rw [if_pos c32]; done) | omega | (subst_vars; first | rfl | (rw [if_pos c32]; done) | omega)) (by first | rfl | (rw [if_pos c32]; done) | omega | (subst_vars; first | rfl | (rw [if_pos c32]; done) | omega)) (by first | rfl | (rw [if_pos c32]; done) | omega | (subst_vars; first | rfl | (rw [if_pos c32]; done) | omega)) (by first | rfl | (rw [if_pos c32]; done) | omega | (subst_vars; first | rfl | (rw [if_pos c32]; done) | omega)) (by first | rfl | (rw [if_pos c32]; done) | omega | (subst_vars; first | rfl | (rw [if_pos c32]; done) | omega)) ls (lv_sub hl [6, 0, 1, 2, 3, 5, 4, 7, 8] rfl)
            refine z_icmp_ne (x := (vv % 4)) (y := 3) (tgt := 135) hx hb (by omega) (by omega) dX8_takes_127 (by decide) (fun c42 => ?_) (fun c42 => ?_)
            · refine lv_iconst (v := iZ 0) hx hb dX8_takes_135 (by decide) ?_
              exact K44 0 (by first | rfl | (rw [if_neg c42]; done) | omega | (subst_vars; first | rfl | (rw [if_neg c42]; done) | omega)) ls (lv_sub hl [0, 1, 2, 3, 4, 7, 9, 10] rfl)
            · refine lv_iload hx hb dX8_takes_130 (lv_at hl 5 rfl) ?_
              refine W.eq (g2 := F0 m 132 ls [.int (iZ (M 25 (Int.toNat ((4 * ss) + (vv % 4))))), .int (iZ gd)]) rfl ?_
              refine lv_goto (tgt := 136) hx hb dX8_takes_132 (by decide) ?_
              exact K44 (M 25 (Int.toNat ((4 * ss) + (vv % 4)))) (by first | rfl | (rw [if_pos c42]; done) | omega | (subst_vars; first | rfl | (rw [if_pos c42]; done) | omega)) ls (lv_sub hl [0, 1, 2, 3, 4, 7, 9, 10] rfl)
          refine z_icmp_ne (x := (vv % 4)) (y := 2) (tgt := 118) hx hb (by omega) (by omega) dX8_takes_110 (by decide) (fun c39 => ?_) (fun c39 => ?_)
          · refine lv_iconst (v := iZ 0) hx hb dX8_takes_118 (by decide) ?_
            exact K41 0 (by first | rfl | (rw [if_neg c39]; done) | omega | (subst_vars; first | rfl | (rw [if_neg c39]; done) | omega)) ls (lv_sub hl [0, 1, 2, 3, 4, 5, 6, 7, 9, 10] rfl)
          · refine lv_iload hx hb dX8_takes_113 (lv_at hl 4 rfl) ?_
            refine lv_goto (tgt := 119) hx hb dX8_takes_115 (by decide) ?_
            exact K41 (M 25 (Int.toNat ((4 * ss) + (vv % 4)))) (by first | rfl | (rw [if_pos c39]; done) | omega | (subst_vars; first | rfl | (rw [if_pos c39]; done) | omega)) ls (lv_sub hl [0, 1, 2, 3, 4, 5, 6, 7, 9, 10] rfl)
        refine z_icmp_ne (x := (vv % 4)) (y := 1) (tgt := 101) hx hb (by omega) (by omega) dX8_takes_93 (by decide) (fun c36 => ?_) (fun c36 => ?_)
        · refine lv_iconst (v := iZ 0) hx hb dX8_takes_101 (by decide) ?_
          exact K38 0 (by first | rfl | (rw [if_neg c36]; done) | omega | (subst_vars; first | rfl | (rw [if_neg c36]; done) | omega)) ls (lv_sub hl [0, 1, 2, 3, 4, 5, 6, 7, 9, 10] rfl)
        · refine lv_iload hx hb dX8_takes_96 (lv_at hl 3 rfl) ?_
          refine lv_goto (tgt := 102) hx hb dX8_takes_98 (by decide) ?_
          exact K38 (M 25 (Int.toNat ((4 * ss) + (vv % 4)))) (by first | rfl | (rw [if_pos c36]; done) | omega | (subst_vars; first | rfl | (rw [if_pos c36]; done) | omega)) ls (lv_sub hl [0, 1, 2, 3, 4, 5, 6, 7, 9, 10] rfl)
      refine z_if_ne (x := (vv % 4)) (tgt := 84) hx hb (by omega) dX8_takes_76 (by decide) (fun c33 => ?_) (fun c33 => ?_)
      · refine lv_iconst (v := iZ 0) hx hb dX8_takes_84 (by decide) ?_
        exact K35 0 (by first | rfl | (rw [if_neg c33]; done) | omega | (subst_vars; first | rfl | (rw [if_neg c33]; done) | omega)) ls (lv_sub hl [0, 1, 2, 3, 4, 5, 6, 7, 9, 10] rfl)
      · refine lv_iload hx hb dX8_takes_79 (lv_at hl 2 rfl) ?_
        refine lv_goto (tgt := 85) hx hb dX8_takes_81 (by decide) ?_
        exact K35 (M 25 (Int.toNat ((4 * ss) + (vv % 4)))) (by first | rfl | (rw [if_pos c33]; done) | omega | (subst_vars; first | rfl | (rw [if_pos c33]; done) | omega)) ls (lv_sub hl [0, 1, 2, 3, 4, 5, 6, 7, 9, 10] rfl)
