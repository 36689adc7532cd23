set_option maxHeartbeats 4000000 in
set_option maxRecDepth 100000 in
theorem C_lets (l : Launch) (D : va_G) (C : mC) (h : Nat) (a : Nat → Nat) (M : Nat → Nat → Int) (pe sy fe nn sd : Int) (hI : mI M) (h0 : -2147483648 ≤ pe ∧ pe < 2147483648) (h1 : -2147483648 ≤ sy ∧ sy < 2147483648) (h2 : -2147483648 ≤ fe ∧ fe < 2147483648) (h3 : -2147483648 ≤ nn ∧ nn < 2147483648) (h4 : -2147483648 ≤ sd ∧ sd < 2147483648) (hN : va_D (fun _ => True) (mW C h a M)) : Met l yX8_lets wsX8_lets ({ frames := 2, cells := 0, slots := 0, locals := 52 }) (va_Pc [.ref h, .int (iZ pe), .int (iZ sy), .int (iZ fe), .int (iZ nn), .int (iZ sd)] (mOk D C h a M)) (va_Qi (fun r (_ : Unit) => r = iZ (s_lets M pe sy fe nn sd)) (fun _ t => mOk D C h a (f_lets M pe sy fe nn sd) t) (mA h a)) 0 0 (mA h a) := by
  refine Met.ofW (cc := cX8_lets) (maxL := 8) (ret := (some .int)) (by decide) rfl ?_
  intro p e s m args below meth c s₁ B hml hv
  obtain ⟨rfl, hP, hK⟩ := hv
  have hx := B.exec
  have hb := B.bytes
  have hr := B.returns
  have hts := atoms_spec (ws := wsX8_lets) B.pre
  have hown : s.vm.findClass RX8 = some m.cls := findClass_of_methodNamed B.named
  have hlocks := B.notSynchronized
  have hin : ∀ w ∈ wsX80, w ∈ wsX8_lets := fun _ w_h => (List.mem_cons_of_mem _ (List.mem_append_right _ w_h))
  have hl := lv_entry ([.ref h, .int (iZ pe), .int (iZ sy), .int (iZ fe), .int (iZ nn), .int (iZ sd)]) (n := 8) (Nat.le_of_ble_eq_true rfl)
  rw [lg_entry_eq]
  generalize (lg_sl ([.ref h, .int (iZ pe), .int (iZ sy), .int (iZ fe), .int (iZ nn), .int (iZ sd)]) ++ List.replicate (8 - (lg_sl ([.ref h, .int (iZ pe), .int (iZ sy), .int (iZ fe), .int (iZ nn), .int (iZ sd)])).length) Slot.unset).toArray = ls at hl ⊢
  replace hl : lv_has ls 8 [(0, .ref h), (1, .int (iZ pe)), (2, .int (iZ sy)), (3, .int (iZ fe)), (4, .int (iZ nn)), (5, .int (iZ sd))] := hl
  have hD : va_D (mA h a) (mW C h a M) := mD_own hN
  have hA : ∀ q, mA h a q → mA h a q := fun _ h9 => h9
  generalize hHe : s.heap = H at hP ⊢
  have hS : va_S (mA h a) s.heap H [] := by rw [hHe]; exact va_S.rf
  generalize hlo : ([] : List Loc) = locs at hS ⊢
  clear hHe hlo
  have hnw := mI_now hI
  have hfe : 0 ≤ fe ∧ fe ≤ 3 → 0 ≤ M 19 (Int.toNat (2 + fe)) ∧ M 19 (Int.toNat (2 + fe)) ≤ 20 := fun q => mI_fe hI ⟨q.1, by omega⟩
  have hkn : 0 ≤ sy ∧ sy < M 5 0 → 0 ≤ M 19 (Int.toNat (6 + sy)) ∧ M 19 (Int.toNat (6 + sy)) < 64 := fun q => mI_kn hI ⟨q.1, by omega⟩
  refine lv_aload_n hx hb dX8_lets_0 rfl (lv_at hl 0 rfl) ?_
  refine lv_iload_n hx hb dX8_lets_1 rfl (lv_at hl 1 rfl) ?_
  refine mq_ci (As := [.int (iZ pe)]) (rest := []) ⟨hx, hb, hml, hown, hts⟩ hK hP (C_isOne l D C h a M pe hI (by omega)) (cwV 1 hts gX8_lets_X8_isOne rfl rfl rfl (by decide +kernel) ⟨Nat.le_of_ble_eq_true rfl, Nat.le_of_ble_eq_true rfl⟩) rfl rfl hl.1 (Nat.le_of_ble_eq_true rfl) ⟨Nat.le_of_ble_eq_true rfl, Nat.le_of_ble_eq_true rfl⟩ dX8_lets_2 ?_
  refine z_ifb_eq (P := (0 ≤ pe ∧ pe < M 2 0)) (tgt := 27) hx hb dX8_lets_5 (by decide) (fun c1 => ?_) (fun c1 => ?_)
  · refine lv_iconst (v := iZ (-1)) hx hb dX8_lets_27 (by decide) ?_
    refine W.eq (g2 := F0 m 28 ls [.int (iZ (-1))]) rfl ?_
    exact mq_retM hx hb hK hP hS hr rfl (by unfold s_lets; first | omega | (rw [if_neg (by omega), if_neg (by omega), a8]; done) | omega) (by unfold f_lets; first | (rw [if_pos (by omega)]; done) | (rw [if_neg (by omega), if_pos (by omega)]; done) | (rw [if_neg (by omega), if_neg (by omega), a7, a8, a9, if_neg (by omega)]; done) | (rw [if_neg (by omega), if_neg (by omega), a7, a8, a9, if_pos (by omega), if_pos (by omega)]; subst_vars; rfl) | (rw [if_neg (by omega), if_neg (by omega), a7, a8, a9, if_pos (by omega), if_neg (by omega)]; subst_vars; rfl) | omega) dX8_lets_28 hlocks
  · refine lv_aload_n hx hb dX8_lets_8 rfl (lv_at hl 0 rfl) ?_
    refine lv_iload_n hx hb dX8_lets_9 rfl (lv_at hl 2 rfl) ?_
    refine mq_ci (As := [.int (iZ sy)]) (rest := []) ⟨hx, hb, hml, hown, hts⟩ hK hP (C_isSaying l D C h a M sy hI (by omega)) (cwV 1 hts gX8_lets_X8_isSaying rfl rfl rfl (by decide +kernel) ⟨Nat.le_of_ble_eq_true rfl, Nat.le_of_ble_eq_true rfl⟩) rfl rfl hl.1 (Nat.le_of_ble_eq_true rfl) ⟨Nat.le_of_ble_eq_true rfl, Nat.le_of_ble_eq_true rfl⟩ dX8_lets_10 ?_
    refine z_ifb_eq (P := (0 ≤ sy ∧ sy < M 5 0)) (tgt := 27) hx hb dX8_lets_13 (by decide) (fun c2 => ?_) (fun c2 => ?_)
    · refine lv_iconst (v := iZ (-1)) hx hb dX8_lets_27 (by decide) ?_
      exact mq_retM hx hb hK hP hS hr rfl (by unfold s_lets; first | omega | (rw [if_neg (by omega), if_neg (by omega), a8]; done) | omega) (by unfold f_lets; first | (rw [if_pos (by omega)]; done) | (rw [if_neg (by omega), if_pos (by omega)]; done) | (rw [if_neg (by omega), if_neg (by omega), a7, a8, a9, if_neg (by omega)]; done) | (rw [if_neg (by omega), if_neg (by omega), a7, a8, a9, if_pos (by omega), if_pos (by omega)]; subst_vars; rfl) | (rw [if_neg (by omega), if_neg (by omega), a7, a8, a9, if_pos (by omega), if_neg (by omega)]; subst_vars; rfl) | omega) dX8_lets_28 hlocks
    · refine lv_iload_n hx hb dX8_lets_16 rfl (lv_at hl 3 rfl) ?_
      refine lv_iload hx hb dX8_lets_17 (lv_at hl 4 rfl) ?_
      refine lv_iload hx hb dX8_lets_19 (lv_at hl 5 rfl) ?_
      refine mq_cs (As := [.int (iZ fe), .int (iZ nn), .int (iZ sd)]) (rest := []) ⟨hx, hb, hml, hown, hts⟩ (C_isShot l fe nn sd (by omega) (by omega) (by omega)) (va_cwS 3 hts gX8_lets_X8_isShot rfl rfl rfl (by decide +kernel) ⟨Nat.le_of_ble_eq_true rfl, Nat.le_of_ble_eq_true rfl⟩) rfl rfl hl.1 (Nat.le_of_ble_eq_true rfl) ⟨Nat.le_of_ble_eq_true rfl, Nat.le_of_ble_eq_true rfl⟩ dX8_lets_21 ?_
      refine z_ifb_ne (P := ((0 ≤ fe ∧ fe ≤ 3) ∧ (0 ≤ nn ∧ nn ≤ 3) ∧ (0 ≤ sd ∧ sd ≤ 1))) (tgt := 29) hx hb dX8_lets_24 (by decide) (fun c3 => ?_) (fun c3 => ?_)
      · refine W.eq (g2 := F0 m 29 ls []) rfl ?_
        refine lv_aload_n hx hb dX8_lets_29 rfl (lv_at hl 0 rfl) ?_
        refine mq_get hx hb hts hin hown hK hP 19 (by decide) (hts (.fieldLink RX8 44 "WordFletchersModel" "now" "[I") (List.mem_cons_of_mem _ (List.mem_append_left _ (List.mem_append_left _ (List.mem_of_getElem? (i := 0) rfl))))) rfl dX8_lets_30 ?_
        refine lv_bipush (v := iZ 6) hx hb dX8_lets_33 (by decide) ?_
        refine lv_iload_n hx hb dX8_lets_35 rfl (lv_at hl 2 rfl) ?_
        refine z_iadd hx hb dX8_lets_36 ?_
        refine mq_iald hx hb hK hP 19 12 (n := 29) rfl (by decide) (Int.toNat (6 + sy)) rfl (by omega) dX8_lets_37 ?_
        refine lv_iload_n hx hb dX8_lets_38 rfl (lv_at hl 1 rfl) ?_
        refine mq_cs (As := [.int (iZ (M 19 (Int.toNat (6 + sy)))), .int (iZ pe)]) (rest := []) ⟨hx, hb, hml, hown, hts⟩ (C_has l (M 19 (Int.toNat (6 + sy))) pe (by omega) (by omega)) (va_cwS 2 hts gX8_lets_X8_has rfl rfl rfl (by decide +kernel) ⟨Nat.le_of_ble_eq_true rfl, Nat.le_of_ble_eq_true rfl⟩) rfl rfl hl.1 (Nat.le_of_ble_eq_true rfl) ⟨Nat.le_of_ble_eq_true rfl, Nat.le_of_ble_eq_true rfl⟩ dX8_lets_39 ?_
        refine z_ifb_eq (P := ((M 19 (Int.toNat (6 + sy))) / zp pe % 2 = 1)) (tgt := 58) hx hb dX8_lets_42 (by decide) (fun c4 => ?_) (fun c4 => ?_)
        · refine lv_bipush (v := iZ (-2)) hx hb dX8_lets_58 (by decide) ?_
          exact mq_retM hx hb hK hP hS hr rfl (by unfold s_lets; first | omega | (rw [if_neg (by omega), if_neg (by omega), a8]; done) | omega) (by unfold f_lets; first | (rw [if_pos (by omega)]; done) | (rw [if_neg (by omega), if_pos (by omega)]; done) | (rw [if_neg (by omega), if_neg (by omega), a7, a8, a9, if_neg (by omega)]; done) | (rw [if_neg (by omega), if_neg (by omega), a7, a8, a9, if_pos (by omega), if_pos (by omega)]; subst_vars; rfl) | (rw [if_neg (by omega), if_neg (by omega), a7, a8, a9, if_pos (by omega), if_neg (by omega)]; subst_vars; rfl) | omega) dX8_lets_60 hlocks
        · refine lv_aload_n hx hb dX8_lets_45 rfl (lv_at hl 0 rfl) ?_
          refine W.eq (g2 := F0 m 46 ls [.ref h]) rfl ?_
          refine mq_get hx hb hts hin hown hK hP 19 (by decide) (hts (.fieldLink RX8 44 "WordFletchersModel" "now" "[I") (List.mem_cons_of_mem _ (List.mem_append_left _ (List.mem_append_left _ (List.mem_of_getElem? (i := 0) rfl))))) rfl dX8_lets_46 ?_
          refine lv_iconst (v := iZ 2) hx hb dX8_lets_49 (by decide) ?_
          refine lv_iload_n hx hb dX8_lets_50 rfl (lv_at hl 3 rfl) ?_
          refine z_iadd hx hb dX8_lets_51 ?_
          refine mq_iald hx hb hK hP 19 12 (n := 29) rfl (by decide) (Int.toNat (2 + fe)) rfl (by omega) dX8_lets_52 ?_
          refine lv_iload hx hb dX8_lets_53 (lv_at hl 4 rfl) ?_
          refine z_icmp_ge (x := (M 19 (Int.toNat (2 + fe)))) (y := nn) (tgt := 61) hx hb (by omega) (by omega) dX8_lets_55 (by decide) (fun c5 => ?_) (fun c5 => ?_)
          · refine lv_aload_n hx hb dX8_lets_61 rfl (lv_at hl 0 rfl) ?_
            refine mq_cv (As := []) (rest := []) ⟨hx, hb, hml, hown, hts⟩ hK hP hD hS hA (C_know l D C h a M  hI (hD.weaken (fun _ _ _ _ => trivial))) (cwV 0 hts gX8_lets_X8_know rfl rfl rfl (by decide +kernel) ⟨Nat.le_of_ble_eq_true rfl, Nat.le_of_ble_eq_true rfl⟩) rfl rfl hl.1 (Nat.le_of_ble_eq_true rfl) ⟨Nat.le_of_ble_eq_true rfl, Nat.le_of_ble_eq_true rfl⟩ dX8_lets_62 (fun H locs hP hD hS => ?_)
            obtain ⟨M6, hM6⟩ : ∃ z : Nat → Nat → Int, z = (f_know M) := ⟨_, rfl⟩
            rw [← hM6] at hP hD
            have a5 : M6 = f_know M := hM6
            have e1 : M6 19 = M 19 := by rw [hM6]; exact f_know_o M (by decide) (by decide)
            have k2 : M6 2 0 = M 2 0 := by rw [hM6, f_know_o M (by decide) (by decide)]
            have k5 : M6 5 0 = M 5 0 := by rw [hM6, f_know_o M (by decide) (by decide)]
            have e4 := congrFun e1 (Int.toNat (2 + fe))
            refine lv_aload_n hx hb dX8_lets_65 rfl (lv_at hl 0 rfl) ?_
            refine mq_get hx hb hts hin hown hK hP 19 (by decide) (hts (.fieldLink RX8 44 "WordFletchersModel" "now" "[I") (List.mem_cons_of_mem _ (List.mem_append_left _ (List.mem_append_left _ (List.mem_of_getElem? (i := 0) rfl))))) rfl dX8_lets_66 ?_
            refine lv_iconst (v := iZ 2) hx hb dX8_lets_69 (by decide) ?_
            refine W.eq (g2 := F0 m 70 ls [.int (iZ 2), .ref (a 19)]) rfl ?_
            refine lv_iload_n hx hb dX8_lets_70 rfl (lv_at hl 3 rfl) ?_
            refine z_iadd hx hb dX8_lets_71 ?_
            refine lv_dup2_11 hx hb dX8_lets_72 rfl rfl ?_
            refine mq_iald hx hb hK hP 19 12 (n := 29) rfl (by decide) (Int.toNat (2 + fe)) rfl (by omega) dX8_lets_73 ?_
            refine lv_iload hx hb dX8_lets_74 (lv_at hl 4 rfl) ?_
            refine z_isub hx hb dX8_lets_76 ?_
            refine mq_iast hx hb hK hP hD hS 19 12 (n := 29) rfl (fun k9 => mS_19 C h a _ k9 _) (by decide) (Int.toNat (2 + fe)) rfl (by omega) dX8_lets_77 (fun H locs hP hD hS => ?_)
            obtain ⟨M7, hM7⟩ : ∃ z : Nat → Nat → Int, z = (mU M6 19 (Int.toNat (2 + fe)) ((M6 19 (Int.toNat (2 + fe))) - nn)) := ⟨_, rfl⟩
            rw [← hM7] at hP hD
            have a6 : f_lt1 M fe nn = M7 := by rw [hM7, a5]; rfl
            have hI_M7 : mI M7 := by rw [← a6]; exact mI_lt1 hI (by omega) (by omega)
            have g2 : M7 2 0 = M 2 0 := by rw [hM7]; exact k2
            have g5 : M7 5 0 = M 5 0 := by rw [hM7]; exact k5
            have hnw2 := mI_now hI_M7
            have hkn2 := mI_kn hI_M7 (k := sy) (by omega)
            refine lv_aload_n hx hb dX8_lets_78 rfl (lv_at hl 0 rfl) ?_
            refine lv_iload_n hx hb dX8_lets_79 rfl (lv_at hl 1 rfl) ?_
            refine lv_iload_n hx hb dX8_lets_80 rfl (lv_at hl 2 rfl) ?_
            refine lv_iload_n hx hb dX8_lets_81 rfl (lv_at hl 3 rfl) ?_
            refine lv_iload hx hb dX8_lets_82 (lv_at hl 4 rfl) ?_
            refine W.eq (g2 := F0 m 84 ls [.int (iZ nn), .int (iZ fe), .int (iZ sy), .int (iZ pe), .ref h]) rfl ?_
            refine lv_iload hx hb dX8_lets_84 (lv_at hl 5 rfl) ?_
            refine lv_aload_n hx hb dX8_lets_86 rfl (lv_at hl 0 rfl) ?_
            refine lv_iconst (v := iZ 0) hx hb dX8_lets_87 (by decide) ?_
            refine mq_ci (As := [.int (iZ 0)]) (rest := [.int (iZ sd), .int (iZ nn), .int (iZ fe), .int (iZ sy), .int (iZ pe), .ref h]) ⟨hx, hb, hml, hown, hts⟩ hK hP (C_windIn l D C h a M7 0 hI_M7 (by omega)) (cwV 1 hts gX8_lets_X8_windIn rfl rfl rfl (by decide +kernel) ⟨Nat.le_of_ble_eq_true rfl, Nat.le_of_ble_eq_true rfl⟩) rfl rfl hl.1 (Nat.le_of_ble_eq_true rfl) ⟨Nat.le_of_ble_eq_true rfl, Nat.le_of_ble_eq_true rfl⟩ dX8_lets_88 ?_
            have hwi := mI_wd hI_M7 0
            refine mq_ci (As := [.int (iZ pe), .int (iZ sy), .int (iZ fe), .int (iZ nn), .int (iZ sd), .int (iZ (s_wind M7 0))]) (rest := []) ⟨hx, hb, hml, hown, hts⟩ hK hP (C_landsBy l D C h a M7 pe sy fe nn sd (s_wind M7 0) hI_M7 (by omega) (by omega) (by omega) (by omega) (by omega) (by omega)) (cwV 6 hts gX8_lets_X8_landsBy rfl rfl rfl (by decide +kernel) ⟨Nat.le_of_ble_eq_true rfl, Nat.le_of_ble_eq_true rfl⟩) rfl rfl hl.1 (Nat.le_of_ble_eq_true rfl) ⟨Nat.le_of_ble_eq_true rfl, Nat.le_of_ble_eq_true rfl⟩ dX8_lets_91 ?_
            have hld := s_land_bd (M7 3 (Int.toNat pe)) (M7 7 (Int.toNat sy)) (M7 6 (Int.toNat sy)) (M7 19 1) fe nn sd (s_wind M7 0)
            refine z_nm (fun spv hspv => ?_)
            have a7 : s_lsp M pe sy fe nn sd = spv := by rw [hspv]; unfold s_lsp; rw [a6]; rfl
            refine lv_istore (lv' := [(6, .int (iZ spv)), (0, .ref h), (1, .int (iZ pe)), (2, .int (iZ sy)), (3, .int (iZ fe)), (4, .int (iZ nn)), (5, .int (iZ sd))]) hx hb dX8_lets_94 hl (by decide) rfl (fun ls hl => ?_)
            refine lv_aload_n hx hb dX8_lets_96 rfl (lv_at hl 1 rfl) ?_
            refine lv_iload hx hb dX8_lets_97 (lv_at hl 0 rfl) ?_
            refine lv_iload_n hx hb dX8_lets_99 rfl (lv_at hl 2 rfl) ?_
            refine mq_ci (As := [.int (iZ spv), .int (iZ pe)]) (rest := []) ⟨hx, hb, hml, hown, hts⟩ hK hP (C_hearersOf l D C h a M7 spv pe hI_M7 (by omega) (by omega)) (cwV 2 hts gX8_lets_X8_hearersOf rfl rfl rfl (by decide +kernel) ⟨Nat.le_of_ble_eq_true rfl, Nat.le_of_ble_eq_true rfl⟩) rfl rfl hl.1 (Nat.le_of_ble_eq_true rfl) ⟨Nat.le_of_ble_eq_true rfl, Nat.le_of_ble_eq_true rfl⟩ dX8_lets_100 ?_
            have hhe := s_hearers_bd M7 spv pe (by omega)
            refine z_nm (fun stv hstv => ?_)
            have a8 : s_lst M pe sy fe nn sd = stv := by rw [hstv]; unfold s_lst; rw [a6, a7]
            refine lv_istore (lv' := [(7, .int (iZ stv)), (6, .int (iZ spv)), (0, .ref h), (1, .int (iZ pe)), (2, .int (iZ sy)), (3, .int (iZ fe)), (4, .int (iZ nn)), (5, .int (iZ sd))]) hx hb dX8_lets_103 hl (by decide) rfl (fun ls hl => ?_)
            refine lv_aload_n hx hb dX8_lets_105 rfl (lv_at hl 2 rfl) ?_
            refine W.eq (g2 := F0 m 106 ls [.ref h]) rfl ?_
            refine mq_get hx hb hts hin hown hK hP 19 (by decide) (hts (.fieldLink RX8 44 "WordFletchersModel" "now" "[I") (List.mem_cons_of_mem _ (List.mem_append_left _ (List.mem_append_left _ (List.mem_of_getElem? (i := 0) rfl))))) rfl dX8_lets_106 ?_
            refine lv_bipush (v := iZ 6) hx hb dX8_lets_109 (by decide) ?_
            refine lv_iload_n hx hb dX8_lets_111 rfl (lv_at hl 4 rfl) ?_
            refine z_iadd hx hb dX8_lets_112 ?_
            refine lv_dup2_11 hx hb dX8_lets_113 rfl rfl ?_
            refine mq_iald hx hb hK hP 19 12 (n := 29) rfl (by decide) (Int.toNat (6 + sy)) rfl (by omega) dX8_lets_114 ?_
            refine lv_iload hx hb dX8_lets_115 (lv_at hl 0 rfl) ?_
            refine z_ior hx hb (by omega) (by omega) dX8_lets_117 ?_
            refine mq_iast hx hb hK hP hD hS 19 12 (n := 29) rfl (fun k9 => mS_19 C h a _ k9 _) (by decide) (Int.toNat (6 + sy)) rfl (by omega) dX8_lets_118 (fun H locs hP hD hS => ?_)
            obtain ⟨M8, hM8⟩ : ∃ z : Nat → Nat → Int, z = (mU M7 19 (Int.toNat (6 + sy)) (zor (M7 19 (Int.toNat (6 + sy))) stv)) := ⟨_, rfl⟩
            rw [← hM8] at hP hD
            have a9 : f_lt2 M pe sy fe nn sd = M8 := by rw [hM8]; unfold f_lt2; rw [a6, a8]
            have g12 : M8 19 12 = M7 19 12 := by rw [hM8]; exact mU_ni _ _ _ _ (by omega)
            refine lv_iload hx hb dX8_lets_119 (lv_at hl 0 rfl) ?_
            refine z_if_ne (x := stv) (tgt := 192) hx hb (by omega) dX8_lets_121 (by decide) (fun c9 => ?_) (fun c9 => ?_)
            · refine lv_iload hx hb dX8_lets_192 (lv_at hl 0 rfl) ?_
              exact mq_retM hx hb hK hP hS hr rfl (by unfold s_lets; first | omega | (rw [if_neg (by omega), if_neg (by omega), a8]; done) | omega) (by unfold f_lets; first | (rw [if_pos (by omega)]; done) | (rw [if_neg (by omega), if_pos (by omega)]; done) | (rw [if_neg (by omega), if_neg (by omega), a7, a8, a9, if_neg (by omega)]; done) | (rw [if_neg (by omega), if_neg (by omega), a7, a8, a9, if_pos (by omega), if_pos (by omega)]; subst_vars; rfl) | (rw [if_neg (by omega), if_neg (by omega), a7, a8, a9, if_pos (by omega), if_neg (by omega)]; subst_vars; rfl) | omega) dX8_lets_194 hlocks
            · refine W.eq (g2 := F0 m 124 ls []) rfl ?_
              refine lv_iload hx hb dX8_lets_124 (lv_at hl 1 rfl) ?_
              refine lv_bipush (v := iZ (-9)) hx hb dX8_lets_126 (by decide) ?_
              refine z_icmp_eq (x := spv) (y := (-9)) (tgt := 192) hx hb (by omega) (by omega) dX8_lets_128 (by decide) (fun c20 => ?_) (fun c20 => ?_)
              · refine lv_iload hx hb dX8_lets_192 (lv_at hl 0 rfl) ?_
                refine W.eq (g2 := F0 m 194 ls [.int (iZ stv)]) rfl ?_
                exact mq_retM hx hb hK hP hS hr rfl (by unfold s_lets; first | omega | (rw [if_neg (by omega), if_neg (by omega), a8]; done) | omega) (by unfold f_lets; first | (rw [if_pos (by omega)]; done) | (rw [if_neg (by omega), if_pos (by omega)]; done) | (rw [if_neg (by omega), if_neg (by omega), a7, a8, a9, if_neg (by omega)]; done) | (rw [if_neg (by omega), if_neg (by omega), a7, a8, a9, if_pos (by omega), if_pos (by omega)]; subst_vars; rfl) | (rw [if_neg (by omega), if_neg (by omega), a7, a8, a9, if_pos (by omega), if_neg (by omega)]; subst_vars; rfl) | omega) dX8_lets_194 hlocks
              · refine lv_aload_n hx hb dX8_lets_131 rfl (lv_at hl 2 rfl) ?_
                refine mq_get hx hb hts hin hown hK hP 19 (by decide) (hts (.fieldLink RX8 44 "WordFletchersModel" "now" "[I") (List.mem_cons_of_mem _ (List.mem_append_left _ (List.mem_append_left _ (List.mem_of_getElem? (i := 0) rfl))))) rfl dX8_lets_132 ?_
                refine lv_bipush (v := iZ 12) hx hb dX8_lets_135 (by decide) ?_
                refine mq_iald hx hb hK hP 19 12 (n := 29) rfl (by decide) 12 rfl (by omega) dX8_lets_137 ?_
                refine lv_bipush (v := iZ 8) hx hb dX8_lets_138 (by decide) ?_
                refine z_icmp_ne (x := (M8 19 12)) (y := 8) (tgt := 148) hx hb (by omega) (by omega) dX8_lets_140 (by decide) (fun c30 => ?_) (fun c30 => ?_)
                · refine lv_aload_n hx hb dX8_lets_148 rfl (lv_at hl 2 rfl) ?_
                  refine mq_get hx hb hts hin hown hK hP 19 (by decide) (hts (.fieldLink RX8 44 "WordFletchersModel" "now" "[I") (List.mem_cons_of_mem _ (List.mem_append_left _ (List.mem_append_left _ (List.mem_of_getElem? (i := 0) rfl))))) rfl dX8_lets_149 ?_
                  refine W.eq (g2 := F0 m 152 ls [.ref (a 19)]) rfl ?_
                  refine lv_bipush (v := iZ 13) hx hb dX8_lets_152 (by decide) ?_
                  refine lv_aload_n hx hb dX8_lets_154 rfl (lv_at hl 2 rfl) ?_
                  refine mq_get hx hb hts hin hown hK hP 19 (by decide) (hts (.fieldLink RX8 44 "WordFletchersModel" "now" "[I") (List.mem_cons_of_mem _ (List.mem_append_left _ (List.mem_append_left _ (List.mem_of_getElem? (i := 0) rfl))))) rfl dX8_lets_155 ?_
                  refine lv_bipush (v := iZ 12) hx hb dX8_lets_158 (by decide) ?_
                  refine mq_iald hx hb hK hP 19 12 (n := 29) rfl (by decide) 12 rfl (by omega) dX8_lets_160 ?_
                  refine z_iadd hx hb dX8_lets_161 ?_
                  refine lv_iload_n hx hb dX8_lets_162 rfl (lv_at hl 4 rfl) ?_
                  refine mq_iast hx hb hK hP hD hS 19 12 (n := 29) rfl (fun k9 => mS_19 C h a _ k9 _) (by decide) (Int.toNat (13 + (M8 19 12))) rfl (by omega) dX8_lets_163 (fun H locs hP hD hS => ?_)
                  obtain ⟨M32, hM32⟩ : ∃ z : Nat → Nat → Int, z = (mU M8 19 (Int.toNat (13 + (M8 19 12))) sy) := ⟨_, rfl⟩
                  rw [← hM32] at hP hD
                  have g14 : M32 19 12 = M8 19 12 := by rw [hM32]; exact mU_ni _ _ _ _ (by omega)
                  refine lv_aload_n hx hb dX8_lets_164 rfl (lv_at hl 2 rfl) ?_
                  refine mq_get hx hb hts hin hown hK hP 19 (by decide) (hts (.fieldLink RX8 44 "WordFletchersModel" "now" "[I") (List.mem_cons_of_mem _ (List.mem_append_left _ (List.mem_append_left _ (List.mem_of_getElem? (i := 0) rfl))))) rfl dX8_lets_165 ?_
                  refine lv_bipush (v := iZ 21) hx hb dX8_lets_168 (by decide) ?_
                  refine lv_aload_n hx hb dX8_lets_170 rfl (lv_at hl 2 rfl) ?_
                  refine W.eq (g2 := F0 m 171 ls [.ref h, .int (iZ 21), .ref (a 19)]) rfl ?_
                  refine mq_get hx hb hts hin hown hK hP 19 (by decide) (hts (.fieldLink RX8 44 "WordFletchersModel" "now" "[I") (List.mem_cons_of_mem _ (List.mem_append_left _ (List.mem_append_left _ (List.mem_of_getElem? (i := 0) rfl))))) rfl dX8_lets_171 ?_
                  refine lv_bipush (v := iZ 12) hx hb dX8_lets_174 (by decide) ?_
                  refine mq_iald hx hb hK hP 19 12 (n := 29) rfl (by decide) 12 rfl (by omega) dX8_lets_176 ?_
                  refine z_iadd hx hb dX8_lets_177 ?_
                  refine lv_iload hx hb dX8_lets_178 (lv_at hl 1 rfl) ?_
                  refine mq_iast hx hb hK hP hD hS 19 12 (n := 29) rfl (fun k9 => mS_19 C h a _ k9 _) (by decide) (Int.toNat (21 + (M32 19 12))) rfl (by omega) dX8_lets_180 (fun H locs hP hD hS => ?_)
                  obtain ⟨M33, hM33⟩ : ∃ z : Nat → Nat → Int, z = (mU M32 19 (Int.toNat (21 + (M32 19 12))) spv) := ⟨_, rfl⟩
                  rw [← hM33] at hP hD
                  have g15 : M33 19 12 = M32 19 12 := by rw [hM33]; exact mU_ni _ _ _ _ (by omega)
                  refine lv_aload_n hx hb dX8_lets_181 rfl (lv_at hl 2 rfl) ?_
                  refine mq_get hx hb hts hin hown hK hP 19 (by decide) (hts (.fieldLink RX8 44 "WordFletchersModel" "now" "[I") (List.mem_cons_of_mem _ (List.mem_append_left _ (List.mem_append_left _ (List.mem_of_getElem? (i := 0) rfl))))) rfl dX8_lets_182 ?_
                  refine lv_bipush (v := iZ 12) hx hb dX8_lets_185 (by decide) ?_
                  refine lv_dup2_11 hx hb dX8_lets_187 rfl rfl ?_
                  refine mq_iald hx hb hK hP 19 12 (n := 29) rfl (by decide) 12 rfl (by omega) dX8_lets_188 ?_
                  refine lv_iconst (v := iZ 1) hx hb dX8_lets_189 (by decide) ?_
                  refine W.eq (g2 := F0 m 190 ls [.int (iZ 1), .int (iZ (M33 19 12)), .int (iZ 12), .ref (a 19)]) rfl ?_
                  refine z_iadd hx hb dX8_lets_190 ?_
                  refine mq_iast hx hb hK hP hD hS 19 12 (n := 29) rfl (fun k9 => mS_19 C h a _ k9 _) (by decide) 12 rfl (by omega) dX8_lets_191 (fun H locs hP hD hS => ?_)
                  obtain ⟨M34, hM34⟩ : ∃ z : Nat → Nat → Int, z = (mU M33 19 12 ((M33 19 12) + 1)) := ⟨_, rfl⟩
                  rw [← hM34] at hP hD
                  refine lv_iload hx hb dX8_lets_192 (lv_at hl 0 rfl) ?_
                  exact mq_retM hx hb hK hP hS hr rfl (by unfold s_lets; first | omega | (rw [if_neg (by omega), if_neg (by omega), a8]; done) | omega) (by unfold f_lets; first | (rw [if_pos (by omega)]; done) | (rw [if_neg (by omega), if_pos (by omega)]; done) | (rw [if_neg (by omega), if_neg (by omega), a7, a8, a9, if_neg (by omega)]; done) | (rw [if_neg (by omega), if_neg (by omega), a7, a8, a9, if_pos (by omega), if_pos (by omega)]; subst_vars; rfl) | (rw [if_neg (by omega), if_neg (by omega), a7, a8, a9, if_pos (by omega), if_neg (by omega)]; subst_vars; rfl) | omega) dX8_lets_194 hlocks
                · refine lv_aload_n hx hb dX8_lets_143 rfl (lv_at hl 2 rfl) ?_
                  refine lv_iconst (v := iZ 0) hx hb dX8_lets_144 (by decide) ?_
                  refine mq_cv (As := [.int (iZ 0)]) (rest := []) ⟨hx, hb, hml, hown, hts⟩ hK hP hD hS hA (C_takeUp l D C h a M8 0 (by omega) (hD.weaken (fun _ _ _ _ => trivial))) (cwV 1 hts gX8_lets_X8_takeUp rfl rfl rfl (by decide +kernel) ⟨Nat.le_of_ble_eq_true rfl, Nat.le_of_ble_eq_true rfl⟩) rfl rfl hl.1 (Nat.le_of_ble_eq_true rfl) ⟨Nat.le_of_ble_eq_true rfl, Nat.le_of_ble_eq_true rfl⟩ dX8_lets_145 (fun H locs hP hD hS => ?_)
                  obtain ⟨M35, hM35⟩ : ∃ z : Nat → Nat → Int, z = (f_take M8 0) := ⟨_, rfl⟩
                  rw [← hM35] at hP hD
                  have g13 : M35 19 12 = M8 19 12 - 1 := by rw [hM35]; exact f_take_12 _ _
                  refine lv_aload_n hx hb dX8_lets_148 rfl (lv_at hl 2 rfl) ?_
                  refine mq_get hx hb hts hin hown hK hP 19 (by decide) (hts (.fieldLink RX8 44 "WordFletchersModel" "now" "[I") (List.mem_cons_of_mem _ (List.mem_append_left _ (List.mem_append_left _ (List.mem_of_getElem? (i := 0) rfl))))) rfl dX8_lets_149 ?_
                  refine lv_bipush (v := iZ 13) hx hb dX8_lets_152 (by decide) ?_
                  refine lv_aload_n hx hb dX8_lets_154 rfl (lv_at hl 2 rfl) ?_
                  refine mq_get hx hb hts hin hown hK hP 19 (by decide) (hts (.fieldLink RX8 44 "WordFletchersModel" "now" "[I") (List.mem_cons_of_mem _ (List.mem_append_left _ (List.mem_append_left _ (List.mem_of_getElem? (i := 0) rfl))))) rfl dX8_lets_155 ?_
                  refine W.eq (g2 := F0 m 158 ls [.ref (a 19), .int (iZ 13), .ref (a 19)]) rfl ?_
                  refine lv_bipush (v := iZ 12) hx hb dX8_lets_158 (by decide) ?_
                  refine mq_iald hx hb hK hP 19 12 (n := 29) rfl (by decide) 12 rfl (by omega) dX8_lets_160 ?_
                  refine z_iadd hx hb dX8_lets_161 ?_
                  refine lv_iload_n hx hb dX8_lets_162 rfl (lv_at hl 4 rfl) ?_
                  refine mq_iast hx hb hK hP hD hS 19 12 (n := 29) rfl (fun k9 => mS_19 C h a _ k9 _) (by decide) (Int.toNat (13 + (M35 19 12))) rfl (by omega) dX8_lets_163 (fun H locs hP hD hS => ?_)
                  obtain ⟨M36, hM36⟩ : ∃ z : Nat → Nat → Int, z = (mU M35 19 (Int.toNat (13 + (M35 19 12))) sy) := ⟨_, rfl⟩
                  rw [← hM36] at hP hD
                  have g14 : M36 19 12 = M35 19 12 := by rw [hM36]; exact mU_ni _ _ _ _ (by omega)
                  refine lv_aload_n hx hb dX8_lets_164 rfl (lv_at hl 2 rfl) ?_
                  refine mq_get hx hb hts hin hown hK hP 19 (by decide) (hts (.fieldLink RX8 44 "WordFletchersModel" "now" "[I") (List.mem_cons_of_mem _ (List.mem_append_left _ (List.mem_append_left _ (List.mem_of_getElem? (i := 0) rfl))))) rfl dX8_lets_165 ?_
                  refine lv_bipush (v := iZ 21) hx hb dX8_lets_168 (by decide) ?_
                  refine lv_aload_n hx hb dX8_lets_170 rfl (lv_at hl 2 rfl) ?_
                  refine mq_get hx hb hts hin hown hK hP 19 (by decide) (hts (.fieldLink RX8 44 "WordFletchersModel" "now" "[I") (List.mem_cons_of_mem _ (List.mem_append_left _ (List.mem_append_left _ (List.mem_of_getElem? (i := 0) rfl))))) rfl dX8_lets_171 ?_
                  refine lv_bipush (v := iZ 12) hx hb dX8_lets_174 (by decide) ?_
                  refine mq_iald hx hb hK hP 19 12 (n := 29) rfl (by decide) 12 rfl (by omega) dX8_lets_176 ?_
                  refine W.eq (g2 := F0 m 177 ls [.int (iZ (M36 19 12)), .int (iZ 21), .ref (a 19)]) rfl ?_
                  refine z_iadd hx hb dX8_lets_177 ?_
                  refine lv_iload hx hb dX8_lets_178 (lv_at hl 1 rfl) ?_
                  refine mq_iast hx hb hK hP hD hS 19 12 (n := 29) rfl (fun k9 => mS_19 C h a _ k9 _) (by decide) (Int.toNat (21 + (M36 19 12))) rfl (by omega) dX8_lets_180 (fun H locs hP hD hS => ?_)
                  obtain ⟨M37, hM37⟩ : ∃ z : Nat → Nat → Int, z = (mU M36 19 (Int.toNat (21 + (M36 19 12))) spv) := ⟨_, rfl⟩
                  rw [← hM37] at hP hD
                  have g15 : M37 19 12 = M36 19 12 := by rw [hM37]; exact mU_ni _ _ _ _ (by omega)
                  refine lv_aload_n hx hb dX8_lets_181 rfl (lv_at hl 2 rfl) ?_
                  refine mq_get hx hb hts hin hown hK hP 19 (by decide) (hts (.fieldLink RX8 44 "WordFletchersModel" "now" "[I") (List.mem_cons_of_mem _ (List.mem_append_left _ (List.mem_append_left _ (List.mem_of_getElem? (i := 0) rfl))))) rfl dX8_lets_182 ?_
                  refine lv_bipush (v := iZ 12) hx hb dX8_lets_185 (by decide) ?_
                  refine lv_dup2_11 hx hb dX8_lets_187 rfl rfl ?_
                  refine mq_iald hx hb hK hP 19 12 (n := 29) rfl (by decide) 12 rfl (by omega) dX8_lets_188 ?_
                  refine lv_iconst (v := iZ 1) hx hb dX8_lets_189 (by decide) ?_
                  refine z_iadd hx hb dX8_lets_190 ?_
                  refine mq_iast hx hb hK hP hD hS 19 12 (n := 29) rfl (fun k9 => mS_19 C h a _ k9 _) (by decide) 12 rfl (by omega) dX8_lets_191 (fun H locs hP hD hS => ?_)
                  obtain ⟨M38, hM38⟩ : ∃ z : Nat → Nat → Int, z = (mU M37 19 12 ((M37 19 12) + 1)) := ⟨_, rfl⟩
                  rw [← hM38] at hP hD
                  refine lv_iload hx hb dX8_lets_192 (lv_at hl 0 rfl) ?_
                  refine W.eq (g2 := F0 m 194 ls [.int (iZ stv)]) rfl ?_
                  exact mq_retM hx hb hK hP hS hr rfl (by unfold s_lets; first | omega | (rw [if_neg (by omega), if_neg (by omega), a8]; done) | omega) (by unfold f_lets; first | (rw [if_pos (by omega)]; done) | (rw [if_neg (by omega), if_pos (by omega)]; done) | (rw [if_neg (by omega), if_neg (by omega), a7, a8, a9, if_neg (by omega)]; done) | (rw [if_neg (by omega), if_neg (by omega), a7, a8, a9, if_pos (by omega), if_pos (by omega)]; subst_vars; rfl) | (rw [if_neg (by omega), if_neg (by omega), a7, a8, a9, if_pos (by omega), if_neg (by omega)]; subst_vars; rfl) | omega) dX8_lets_194 hlocks
          · refine lv_bipush (v := iZ (-2)) hx hb dX8_lets_58 (by decide) ?_
            exact mq_retM hx hb hK hP hS hr rfl (by unfold s_lets; first | omega | (rw [if_neg (by omega), if_neg (by omega), a8]; done) | omega) (by unfold f_lets; first | (rw [if_pos (by omega)]; done) | (rw [if_neg (by omega), if_pos (by omega)]; done) | (rw [if_neg (by omega), if_neg (by omega), a7, a8, a9, if_neg (by omega)]; done) | (rw [if_neg (by omega), if_neg (by omega), a7, a8, a9, if_pos (by omega), if_pos (by omega)]; subst_vars; rfl) | (rw [if_neg (by omega), if_neg (by omega), a7, a8, a9, if_pos (by omega), if_neg (by omega)]; subst_vars; rfl) | omega) dX8_lets_60 hlocks
      · refine lv_iconst (v := iZ (-1)) hx hb dX8_lets_27 (by decide) ?_
        exact mq_retM hx hb hK hP hS hr rfl (by unfold s_lets; first | omega | (rw [if_neg (by omega), if_neg (by omega), a8]; done) | omega) (by unfold f_lets; first | (rw [if_pos (by omega)]; done) | (rw [if_neg (by omega), if_pos (by omega)]; done) | (rw [if_neg (by omega), if_neg (by omega), a7, a8, a9, if_neg (by omega)]; done) | (rw [if_neg (by omega), if_neg (by omega), a7, a8, a9, if_pos (by omega), if_pos (by omega)]; subst_vars; rfl) | (rw [if_neg (by omega), if_neg (by omega), a7, a8, a9, if_pos (by omega), if_neg (by omega)]; subst_vars; rfl) | omega) dX8_lets_28 hlocks
set_option maxHeartbeats 4000000 in
set_option maxRecDepth 100000 in
theorem C_trace (l : Launch) (D : va_G) (C : mC) (h : Nat) (a : Nat → Nat) (M : Nat → Nat → Int) : Met l yX8_trace wsX8_trace ({ frames := 0, cells := 0, slots := 0, locals := 0 }) (va_Pc [.ref h] (mOk D C h a M)) (vp_Sl (fun r => r = iL (M 29 0))) 0 0 (fun _ => False) := by
  refine Met.ofW (cc := cX8_trace) (maxL := 1) (ret := (some .long)) (by decide) rfl ?_
  intro p e s m args below meth c s₁ B hml hv
  obtain ⟨rfl, hP, hK⟩ := hv
  have hx := B.exec
  have hb := B.bytes
  have hr := B.returns
  have hts := atoms_spec (ws := wsX8_trace) B.pre
  have hown : s.vm.findClass RX8 = some m.cls := findClass_of_methodNamed B.named
  have hlocks := B.notSynchronized
  have hin : ∀ w ∈ wsX80, w ∈ wsX8_trace := fun _ w_h => (List.mem_cons_of_mem _ (List.mem_append_right _ w_h))
  have hl := lv_entry ([.ref h]) (n := 1) (Nat.le_of_ble_eq_true rfl)
  rw [lg_entry_eq]
  generalize (lg_sl ([.ref h]) ++ List.replicate (1 - (lg_sl ([.ref h])).length) Slot.unset).toArray = ls at hl ⊢
  replace hl : lv_has ls 1 [(0, .ref h)] := hl
  refine lv_aload_n hx hb dX8_trace_0 rfl (lv_at hl 0 rfl) ?_
  refine mq_get hx hb hts hin hown hK hP 29 (by decide) (hts (.fieldLink RX8 207 "WordFletchersModel" "trace" "J") (List.mem_cons_of_mem _ (List.mem_append_left _ (List.mem_of_getElem? (i := 0) rfl)))) rfl dX8_trace_1 ?_
  exact mq_retL hx hb hr rfl dX8_trace_4 hlocks rfl
set_option maxHeartbeats 4000000 in
set_option maxRecDepth 100000 in
theorem C_mark (l : Launch) (D : va_G) (C : mC) (h : Nat) (a : Nat → Nat) (M : Nat → Nat → Int) (kd pe : Int) (hI : mI M) (h1 : -2147483648 ≤ kd ∧ kd < 2147483648) (h2 : -2147483648 ≤ pe ∧ pe < 2147483648) (hN : va_D (fun _ => True) (mW C h a M)) : Met l yX8_mark wsX8_mark ({ frames := 3, cells := 0, slots := 0, locals := 67 }) (va_Pc [.ref h, .int (iZ kd), .int (iZ pe)] (mOk D C h a M)) (va_Qi (fun r (_ : Unit) => r = iZ (s_mark M kd pe)) (fun _ t => mOk D C h a (f_mark M kd pe) t) (mA h a)) 0 0 (mA h a) := by
  refine Met.ofW (cc := cX8_mark) (maxL := 7) (ret := (some .int)) (by decide) rfl ?_
  intro p e s m args below meth c s₁ B hml hv
  obtain ⟨rfl, hP, hK⟩ := hv
  have hx := B.exec
  have hb := B.bytes
  have hr := B.returns
  have hts := atoms_spec (ws := wsX8_mark) B.pre
  have hown : s.vm.findClass RX8 = some m.cls := findClass_of_methodNamed B.named
  have hlocks := B.notSynchronized
  have hin : ∀ w ∈ wsX80, w ∈ wsX8_mark := fun _ w_h => (List.mem_cons_of_mem _ (List.mem_append_right _ w_h))
  have hl := lv_entry ([.ref h, .int (iZ kd), .int (iZ pe)]) (n := 7) (Nat.le_of_ble_eq_true rfl)
  rw [lg_entry_eq]
  generalize (lg_sl ([.ref h, .int (iZ kd), .int (iZ pe)]) ++ List.replicate (7 - (lg_sl ([.ref h, .int (iZ kd), .int (iZ pe)])).length) Slot.unset).toArray = ls at hl ⊢
  replace hl : lv_has ls 7 [(0, .ref h), (1, .int (iZ kd)), (2, .int (iZ pe))] := hl
  have hD : va_D (mA h a) (mW C h a M) := mD_own hN
  have hA : ∀ q, mA h a q → mA h a q := fun _ h9 => h9
  generalize hHe : s.heap = H at hP ⊢
  have hS : va_S (mA h a) s.heap H [] := by rw [hHe]; exact va_S.rf
  generalize hlo : ([] : List Loc) = locs at hS ⊢
  clear hHe hlo
  have hnw := mI_now hI
  have hbb := s_bodies_bd kd
  have hI_M : mI M := hI
  refine lv_iload_n hx hb dX8_mark_0 rfl (lv_at hl 1 rfl) ?_
  refine lv_iconst (v := iZ 0) hx hb dX8_mark_1 (by decide) ?_
  refine lv_iconst (v := iZ 5) hx hb dX8_mark_2 (by decide) ?_
  refine mq_cs (As := [.int (iZ kd), .int (iZ 0), .int (iZ 5)]) (rest := []) ⟨hx, hb, hml, hown, hts⟩ (C_in l kd 0 5 (by omega) (by omega) (by omega)) (va_cwS 3 hts gX8_mark_X8_in rfl rfl rfl (by decide +kernel) ⟨Nat.le_of_ble_eq_true rfl, Nat.le_of_ble_eq_true rfl⟩) rfl rfl hl.1 (Nat.le_of_ble_eq_true rfl) ⟨Nat.le_of_ble_eq_true rfl, Nat.le_of_ble_eq_true rfl⟩ dX8_mark_3 ?_
  refine W.eq (g2 := F0 m 6 ls [.int (iZ (if (0 ≤ kd ∧ kd ≤ 5) then 1 else 0))]) rfl ?_
  refine z_ifb_eq (P := (0 ≤ kd ∧ kd ≤ 5)) (tgt := 17) hx hb dX8_mark_6 (by decide) (fun c1 => ?_) (fun c1 => ?_)
  · refine z_ldc (n := (-1000000)) hx hb hown (hts (Cond.constant RX8 154 (-1000000)) (List.mem_cons_of_mem _ (List.mem_append_left _ (List.mem_append_left _ (List.mem_of_getElem? (i := 0) rfl))))) (by decide) dX8_mark_17 ?_
    exact mq_retM hx hb hK hP hS hr rfl (by unfold s_mark; first | omega | (rw [if_neg (by omega), ← hbo]; unfold s_mkv; have r1 := congrFun (q3 19 (by decide)) 2; have r2 := congrFun (q3 19 (by decide)) 3; have r3 := congrFun (q3 19 (by decide)) 4; have r4 := congrFun (q3 19 (by decide)) 5; have r6 : s_bits (s_one Mb pe 2) = s_bits (s_kn M pe) := (by rw [s_one_2 Mb (pe := pe) (by omega)]; unfold s_kn; rw [q3 19 (by decide), q3 5 (by decide)]); omega) | omega) (by unfold f_mark; first | (rw [if_pos (by omega)]; done) | (have q : kk = 6 := (by omega); rw [if_neg (by omega), i2, q, hbo]; rfl) | omega) dX8_mark_19 hlocks
  · refine lv_aload_n hx hb dX8_mark_9 rfl (lv_at hl 0 rfl) ?_
    refine lv_iload_n hx hb dX8_mark_10 rfl (lv_at hl 2 rfl) ?_
    refine mq_ci (As := [.int (iZ pe)]) (rest := []) ⟨hx, hb, hml, hown, hts⟩ hK hP (C_isOne l D C h a M pe hI (by omega)) (cwV 1 hts gX8_mark_X8_isOne rfl rfl rfl (by decide +kernel) ⟨Nat.le_of_ble_eq_true rfl, Nat.le_of_ble_eq_true rfl⟩) rfl rfl hl.1 (Nat.le_of_ble_eq_true rfl) ⟨Nat.le_of_ble_eq_true rfl, Nat.le_of_ble_eq_true rfl⟩ dX8_mark_11 ?_
    refine z_ifb_ne (P := (0 ≤ pe ∧ pe < M 2 0)) (tgt := 20) hx hb dX8_mark_14 (by decide) (fun c2 => ?_) (fun c2 => ?_)
    · refine lv_iload_n hx hb dX8_mark_20 rfl (lv_at hl 1 rfl) ?_
      refine mq_cs (As := [.int (iZ kd)]) (rest := []) ⟨hx, hb, hml, hown, hts⟩ (C_bodiesOf l kd (by omega)) (va_cwS 1 hts gX8_mark_X8_bodiesOf rfl rfl rfl (by decide +kernel) ⟨Nat.le_of_ble_eq_true rfl, Nat.le_of_ble_eq_true rfl⟩) rfl rfl hl.1 (Nat.le_of_ble_eq_true rfl) ⟨Nat.le_of_ble_eq_true rfl, Nat.le_of_ble_eq_true rfl⟩ dX8_mark_21 ?_
      refine z_nm (fun bo hbo => ?_)
      refine lv_istore_n (lv' := [(3, .int (iZ bo)), (0, .ref h), (1, .int (iZ kd)), (2, .int (iZ pe))]) hx hb dX8_mark_24 rfl hl (by decide) rfl (fun ls hl => ?_)
      refine lv_lconst (v := iL 1) hx hb dX8_mark_25 (by decide) ?_
      refine lv_lstore (lv' := [(4, .long (iL 1)), (3, .int (iZ bo)), (0, .ref h), (1, .int (iZ kd)), (2, .int (iZ pe))]) hx hb dX8_mark_26 hl (by decide) rfl (fun ls hl => ?_)
      refine W.eq (g2 := F0 m 28 ls []) rfl ?_
      refine lv_iconst (v := iZ 0) hx hb dX8_mark_28 (by decide) ?_
      refine lv_istore (lv' := [(6, .int (iZ 0)), (4, .long (iL 1)), (3, .int (iZ bo)), (0, .ref h), (1, .int (iZ kd)), (2, .int (iZ pe))]) hx hb dX8_mark_29 hl (by decide) rfl (fun ls hl => ?_)
      replace hl : lv_has ls 7 [(6, .int (iZ (0 : Int))), (4, .long (iL (1 : Int))), (3, .int (iZ bo)), (0, .ref h), (2, .int (iZ pe))] := lv_sub hl [0, 1, 2, 3, 5] rfl
      replace hP := And.intro hP hS
      clear hS
      revert ls
      revert hP
      revert H locs
      refine z_loopH (σ := (Nat → Nat → Int) × Int × Int) (fun x9 => (0 ≤ x9.2.2 ∧ x9.2.2 ≤ 6) ∧ (x9.1 = mU M 29 0 (M 29 0 + s_trN bo (Int.toNat x9.2.2))) ∧ (x9.2.1 = zt x9.2.2)) (fun x9 H9 locs9 => va_P D vwCl (mW C h a (x9.1)) H9 ∧ va_S (mA h a) s.heap H9 locs9) (fun x9 => [(6, .int (iZ (x9.2.2))), (4, .long (iL (x9.2.1))), (3, .int (iZ bo)), (0, .ref h), (2, .int (iZ pe))]) 7 (fun x9 => (6 - x9.2.2).toNat) (M, (1 : Int), (0 : Int)) ⟨(by show 0 ≤ (0 : Int) ∧ (0 : Int) ≤ 6; omega), (by show M = mU M 29 0 (M 29 0 + s_trN bo (Int.toNat (0 : Int))); exact (mU_id M 29 0 (show M 29 0 + 0 = M 29 0 by omega)).symm), (by show (1 : Int) = zt (0 : Int); rfl)⟩ ?_
      rintro ⟨Mb, un, kk⟩ hI9 ih31 H locs hPS ls hl
      have hP : va_P D vwCl (mW C h a Mb) H := hPS.1
      have hS : va_S (mA h a) s.heap H locs := hPS.2
      clear hPS
      have hD : va_D (mA h a) (mW C h a Mb) := mD_re hD
      obtain ⟨i1, i2, i3⟩ := hI9
      replace i1 : 0 ≤ kk ∧ kk ≤ 6 := i1
      replace i2 : Mb = mU M 29 0 (M 29 0 + s_trN bo (Int.toNat kk)) := i2
      replace i3 : un = zt kk := i3
      replace hl : lv_has ls 7 [(6, .int (iZ kk)), (4, .long (iL un)), (3, .int (iZ bo)), (0, .ref h), (2, .int (iZ pe))] := hl
      have q3 : ∀ f, f ≠ 29 → Mb f = M f := fun f hf => by rw [i2]; funext j9; simp [mU, hf]
      have hI_Mb : mI Mb := mI_o29 hI q3
      have g2 := congrFun (q3 2 (by decide)) 0
      have g5 := congrFun (q3 5 (by decide)) 0
      have gd := congrFun (q3 19 (by decide)) 1
      have gp := congrFun (q3 3 (by decide)) (Int.toNat pe)
      have t29 : Mb 29 0 = M 29 0 + s_trN bo (Int.toNat kk) := by rw [i2]; exact mU_eq _ _ _ _
      refine lv_iload hx hb dX8_mark_31 (lv_at hl 0 rfl) ?_
      refine lv_bipush (v := iZ 6) hx hb dX8_mark_33 (by decide) ?_
      refine z_icmp_ge (x := kk) (y := 6) (tgt := 76) hx hb (by omega) (by omega) dX8_mark_35 (by decide) (fun c3 => ?_) (fun c3 => ?_)
      · refine lv_aload_n hx hb dX8_mark_76 rfl (lv_at hl 3 rfl) ?_
        refine W.eq (g2 := F0 m 77 ls [.ref h]) rfl ?_
        refine mq_get hx hb hts hin hown hK hP 3 (by decide) (hts (.fieldLink RX8 17 "WordFletchersModel" "place" "[I") (List.mem_cons_of_mem _ (List.mem_append_left _ (List.mem_append_left _ (List.mem_of_getElem? (i := 3) rfl))))) rfl dX8_mark_77 ?_
        refine lv_iload_n hx hb dX8_mark_80 rfl (lv_at hl 4 rfl) ?_
        refine mq_iald hx hb hK hP 3 3 (n := 12) rfl (by decide) (Int.toNat pe) rfl (by omega) dX8_mark_81 ?_
        have hpb := mI_pe hI (k := pe) (by omega)
        refine lv_istore (lv' := [(6, .int (iZ (Mb 3 (Int.toNat pe)))), (4, .long (iL un)), (3, .int (iZ bo)), (0, .ref h), (2, .int (iZ pe))]) hx hb dX8_mark_82 hl (by decide) rfl (fun ls hl => ?_)
        refine lv_iload hx hb dX8_mark_84 (lv_at hl 0 rfl) ?_
        refine lv_iload_n hx hb dX8_mark_86 rfl (lv_at hl 2 rfl) ?_
        refine lv_iconst (v := iZ 1) hx hb dX8_mark_87 (by decide) ?_
        refine mq_cs (As := [.int (iZ bo), .int (iZ 1)]) (rest := [.int (iZ (Mb 3 (Int.toNat pe)))]) ⟨hx, hb, hml, hown, hts⟩ (C_has l bo 1 (by omega) (by omega)) (va_cwS 2 hts gX8_mark_X8_has rfl rfl rfl (by decide +kernel) ⟨Nat.le_of_ble_eq_true rfl, Nat.le_of_ble_eq_true rfl⟩) rfl rfl hl.1 (Nat.le_of_ble_eq_true rfl) ⟨Nat.le_of_ble_eq_true rfl, Nat.le_of_ble_eq_true rfl⟩ dX8_mark_88 ?_
        have K10 : ∀ (v9 : Int), (v9 = (if (bo / zp 1 % 2 = 1) then s_bits (s_one Mb pe 2) else 0)) → ∀ ls : Array Slot, lv_has ls 7 [(3, .int (iZ bo)), (0, .ref h), (2, .int (iZ pe))] → W p l e ((headSpec wsX8_mark ({ frames := 3, cells := 0, slots := 0, locals := 67 })).room) s m (([.ref h, .int (iZ kd), .int (iZ pe)] : List Value).toArray) below meth c H locs 0 0 (MQ below (va_Qi (fun r (_ : Unit) => r = iZ (s_mark M kd pe)) (fun _ t => mOk D C h a (f_mark M kd pe) t) (mA h a)) (([.ref h, .int (iZ kd), .int (iZ pe)] : List Value).toArray) s 0 0 (mA h a)) (F0 m 107 ls [.int (iZ v9), .int (iZ (Mb 3 (Int.toNat pe)))]) := by
          intro v9 hv9 ls hl
          refine z_iadd hx hb dX8_mark_107 ?_
          refine lv_istore (lv' := [(6, .int (iZ ((Mb 3 (Int.toNat pe)) + v9))), (3, .int (iZ bo)), (0, .ref h), (2, .int (iZ pe))]) hx hb dX8_mark_108 hl (by decide) rfl (fun ls hl => ?_)
          refine lv_iload hx hb dX8_mark_110 (lv_at hl 0 rfl) ?_
          refine lv_iload_n hx hb dX8_mark_112 rfl (lv_at hl 1 rfl) ?_
          refine lv_iconst (v := iZ 2) hx hb dX8_mark_113 (by decide) ?_
          refine mq_cs (As := [.int (iZ bo), .int (iZ 2)]) (rest := [.int (iZ ((Mb 3 (Int.toNat pe)) + v9))]) ⟨hx, hb, hml, hown, hts⟩ (C_has l bo 2 (by omega) (by omega)) (va_cwS 2 hts gX8_mark_X8_has rfl rfl rfl (by decide +kernel) ⟨Nat.le_of_ble_eq_true rfl, Nat.le_of_ble_eq_true rfl⟩) rfl rfl hl.1 (Nat.le_of_ble_eq_true rfl) ⟨Nat.le_of_ble_eq_true rfl, Nat.le_of_ble_eq_true rfl⟩ dX8_mark_114 ?_
          have K13 : ∀ (v12 : Int), (v12 = (if (bo / zp 2 % 2 = 1) then (Mb 19 1) else 0)) → ∀ ls : Array Slot, lv_has ls 7 [(3, .int (iZ bo)), (0, .ref h), (2, .int (iZ pe))] → W p l e ((headSpec wsX8_mark ({ frames := 3, cells := 0, slots := 0, locals := 67 })).room) s m (([.ref h, .int (iZ kd), .int (iZ pe)] : List Value).toArray) below meth c H locs 0 0 (MQ below (va_Qi (fun r (_ : Unit) => r = iZ (s_mark M kd pe)) (fun _ t => mOk D C h a (f_mark M kd pe) t) (mA h a)) (([.ref h, .int (iZ kd), .int (iZ pe)] : List Value).toArray) s 0 0 (mA h a)) (F0 m 130 ls [.int (iZ v12), .int (iZ ((Mb 3 (Int.toNat pe)) + v9))]) := by
            intro v12 hv12 ls hl
            refine z_isub hx hb dX8_mark_130 ?_
            refine lv_istore (lv' := [(6, .int (iZ (((Mb 3 (Int.toNat pe)) + v9) - v12))), (3, .int (iZ bo)), (0, .ref h), (2, .int (iZ pe))]) hx hb dX8_mark_131 hl (by decide) rfl (fun ls hl => ?_)
            refine lv_iload_n hx hb dX8_mark_133 rfl (lv_at hl 1 rfl) ?_
            refine lv_iconst (v := iZ 3) hx hb dX8_mark_134 (by decide) ?_
            refine mq_cs (As := [.int (iZ bo), .int (iZ 3)]) (rest := []) ⟨hx, hb, hml, hown, hts⟩ (C_has l bo 3 (by omega) (by omega)) (va_cwS 2 hts gX8_mark_X8_has rfl rfl rfl (by decide +kernel) ⟨Nat.le_of_ble_eq_true rfl, Nat.le_of_ble_eq_true rfl⟩) rfl rfl hl.1 (Nat.le_of_ble_eq_true rfl) ⟨Nat.le_of_ble_eq_true rfl, Nat.le_of_ble_eq_true rfl⟩ dX8_mark_135 ?_
            have K16 : ∀ (v15 : Int), (v15 = (if (bo / zp 3 % 2 = 1) then (2 * (((Mb 3 (Int.toNat pe)) + v9) - v12)) else (((Mb 3 (Int.toNat pe)) + v9) - v12))) → ∀ ls : Array Slot, lv_has ls 7 [(3, .int (iZ bo)), (0, .ref h), (2, .int (iZ pe))] → W p l e ((headSpec wsX8_mark ({ frames := 3, cells := 0, slots := 0, locals := 67 })).room) s m (([.ref h, .int (iZ kd), .int (iZ pe)] : List Value).toArray) below meth c H locs 0 0 (MQ below (va_Qi (fun r (_ : Unit) => r = iZ (s_mark M kd pe)) (fun _ t => mOk D C h a (f_mark M kd pe) t) (mA h a)) (([.ref h, .int (iZ kd), .int (iZ pe)] : List Value).toArray) s 0 0 (mA h a)) (F0 m 150 ls [.int (iZ v15)]) := by
              intro v15 hv15 ls hl
              refine lv_istore (lv' := [(6, .int (iZ v15)), (3, .int (iZ bo)), (0, .ref h), (2, .int (iZ pe))]) hx hb dX8_mark_150 hl (by decide) rfl (fun ls hl => ?_)
              refine lv_iload hx hb dX8_mark_152 (lv_at hl 0 rfl) ?_
              refine lv_iload_n hx hb dX8_mark_154 rfl (lv_at hl 1 rfl) ?_
              refine lv_iconst (v := iZ 4) hx hb dX8_mark_155 (by decide) ?_
              refine mq_cs (As := [.int (iZ bo), .int (iZ 4)]) (rest := [.int (iZ v15)]) ⟨hx, hb, hml, hown, hts⟩ (C_has l bo 4 (by omega) (by omega)) (va_cwS 2 hts gX8_mark_X8_has rfl rfl rfl (by decide +kernel) ⟨Nat.le_of_ble_eq_true rfl, Nat.le_of_ble_eq_true rfl⟩) rfl rfl hl.1 (Nat.le_of_ble_eq_true rfl) ⟨Nat.le_of_ble_eq_true rfl, Nat.le_of_ble_eq_true rfl⟩ dX8_mark_156 ?_
              have K19 : ∀ (v18 : Int), (v18 = (if (bo / zp 4 % 2 = 1) then pe else 0)) → ∀ ls : Array Slot, lv_has ls 7 [(3, .int (iZ bo)), (0, .ref h)] → W p l e ((headSpec wsX8_mark ({ frames := 3, cells := 0, slots := 0, locals := 67 })).room) s m (([.ref h, .int (iZ kd), .int (iZ pe)] : List Value).toArray) below meth c H locs 0 0 (MQ below (va_Qi (fun r (_ : Unit) => r = iZ (s_mark M kd pe)) (fun _ t => mOk D C h a (f_mark M kd pe) t) (mA h a)) (([.ref h, .int (iZ kd), .int (iZ pe)] : List Value).toArray) s 0 0 (mA h a)) (F0 m 167 ls [.int (iZ v18), .int (iZ v15)]) := by
                intro v18 hv18 ls hl
                refine z_iadd hx hb dX8_mark_167 ?_
                refine lv_istore (lv' := [(6, .int (iZ (v15 + v18))), (3, .int (iZ bo)), (0, .ref h)]) hx hb dX8_mark_168 hl (by decide) rfl (fun ls hl => ?_)
                refine lv_iload hx hb dX8_mark_170 (lv_at hl 0 rfl) ?_
                refine lv_iload_n hx hb dX8_mark_172 rfl (lv_at hl 1 rfl) ?_
                refine lv_iconst (v := iZ 5) hx hb dX8_mark_173 (by decide) ?_
                refine mq_cs (As := [.int (iZ bo), .int (iZ 5)]) (rest := [.int (iZ (v15 + v18))]) ⟨hx, hb, hml, hown, hts⟩ (C_has l bo 5 (by omega) (by omega)) (va_cwS 2 hts gX8_mark_X8_has rfl rfl rfl (by decide +kernel) ⟨Nat.le_of_ble_eq_true rfl, Nat.le_of_ble_eq_true rfl⟩) rfl rfl hl.1 (Nat.le_of_ble_eq_true rfl) ⟨Nat.le_of_ble_eq_true rfl, Nat.le_of_ble_eq_true rfl⟩ dX8_mark_174 ?_
                have K22 : ∀ (v21 : Int), (v21 = (if (bo / zp 5 % 2 = 1) then ((((Mb 19 2) + (Mb 19 3)) + (Mb 19 4)) + (Mb 19 5)) else 0)) → ∀ ls : Array Slot, lv_has ls 7 [] → W p l e ((headSpec wsX8_mark ({ frames := 3, cells := 0, slots := 0, locals := 67 })).room) s m (([.ref h, .int (iZ kd), .int (iZ pe)] : List Value).toArray) below meth c H locs 0 0 (MQ below (va_Qi (fun r (_ : Unit) => r = iZ (s_mark M kd pe)) (fun _ t => mOk D C h a (f_mark M kd pe) t) (mA h a)) (([.ref h, .int (iZ kd), .int (iZ pe)] : List Value).toArray) s 0 0 (mA h a)) (F0 m 211 ls [.int (iZ v21), .int (iZ (v15 + v18))]) := by
                  intro v21 hv21 ls hl
                  refine z_iadd hx hb dX8_mark_211 ?_
                  refine lv_istore (lv' := [(6, .int (iZ ((v15 + v18) + v21)))]) hx hb dX8_mark_212 hl (by decide) rfl (fun ls hl => ?_)
                  refine lv_iload hx hb dX8_mark_214 (lv_at hl 0 rfl) ?_
                  exact mq_retM hx hb hK hP hS hr rfl (by unfold s_mark; first | omega | (rw [if_neg (by omega), ← hbo]; unfold s_mkv; have r1 := congrFun (q3 19 (by decide)) 2; have r2 := congrFun (q3 19 (by decide)) 3; have r3 := congrFun (q3 19 (by decide)) 4; have r4 := congrFun (q3 19 (by decide)) 5; have r6 : s_bits (s_one Mb pe 2) = s_bits (s_kn M pe) := (by rw [s_one_2 Mb (pe := pe) (by omega)]; unfold s_kn; rw [q3 19 (by decide), q3 5 (by decide)]); omega) | omega) (by unfold f_mark; first | (rw [if_pos (by omega)]; done) | (have q : kk = 6 := (by omega); rw [if_neg (by omega), i2, q, hbo]; rfl) | omega) dX8_mark_216 hlocks
                refine z_ifb_eq (P := (bo / zp 5 % 2 = 1)) (tgt := 210) hx hb dX8_mark_177 (by decide) (fun c20 => ?_) (fun c20 => ?_)
                · refine lv_iconst (v := iZ 0) hx hb dX8_mark_210 (by decide) ?_
                  exact K22 0 (by first | rfl | (rw [if_neg c20]; done) | omega | (subst_vars; first | rfl | (rw [if_neg c20]; done) | omega)) ls (lv_sub hl [] rfl)
                · refine lv_aload_n hx hb dX8_mark_180 rfl (lv_at hl 2 rfl) ?_
                  refine mq_get hx hb hts hin hown hK hP 19 (by decide) (hts (.fieldLink RX8 44 "WordFletchersModel" "now" "[I") (List.mem_cons_of_mem _ (List.mem_append_left _ (List.mem_append_left _ (List.mem_of_getElem? (i := 4) rfl))))) rfl dX8_mark_181 ?_
                  refine lv_iconst (v := iZ 2) hx hb dX8_mark_184 (by decide) ?_
                  refine W.eq (g2 := F0 m 185 ls [.int (iZ 2), .ref (a 19), .int (iZ (v15 + v18))]) rfl ?_
                  refine mq_iald hx hb hK hP 19 12 (n := 29) rfl (by decide) 2 rfl (by omega) dX8_mark_185 ?_
                  refine lv_aload_n hx hb dX8_mark_186 rfl (lv_at hl 2 rfl) ?_
                  refine mq_get hx hb hts hin hown hK hP 19 (by decide) (hts (.fieldLink RX8 44 "WordFletchersModel" "now" "[I") (List.mem_cons_of_mem _ (List.mem_append_left _ (List.mem_append_left _ (List.mem_of_getElem? (i := 4) rfl))))) rfl dX8_mark_187 ?_
                  refine lv_iconst (v := iZ 3) hx hb dX8_mark_190 (by decide) ?_
                  refine mq_iald hx hb hK hP 19 12 (n := 29) rfl (by decide) 3 rfl (by omega) dX8_mark_191 ?_
                  refine z_iadd hx hb dX8_mark_192 ?_
                  refine lv_aload_n hx hb dX8_mark_193 rfl (lv_at hl 2 rfl) ?_
                  refine mq_get hx hb hts hin hown hK hP 19 (by decide) (hts (.fieldLink RX8 44 "WordFletchersModel" "now" "[I") (List.mem_cons_of_mem _ (List.mem_append_left _ (List.mem_append_left _ (List.mem_of_getElem? (i := 4) rfl))))) rfl dX8_mark_194 ?_
                  refine lv_iconst (v := iZ 4) hx hb dX8_mark_197 (by decide) ?_
                  refine mq_iald hx hb hK hP 19 12 (n := 29) rfl (by decide) 4 rfl (by omega) dX8_mark_198 ?_
                  refine z_iadd hx hb dX8_mark_199 ?_
                  refine lv_aload_n hx hb dX8_mark_200 rfl (lv_at hl 2 rfl) ?_
                  refine W.eq (g2 := F0 m 201 ls [.ref h, .int (iZ (((Mb 19 2) + (Mb 19 3)) + (Mb 19 4))), .int (iZ (v15 + v18))]) rfl ?_
                  refine mq_get hx hb hts hin hown hK hP 19 (by decide) (hts (.fieldLink RX8 44 "WordFletchersModel" "now" "[I") (List.mem_cons_of_mem _ (List.mem_append_left _ (List.mem_append_left _ (List.mem_of_getElem? (i := 4) rfl))))) rfl dX8_mark_201 ?_
                  refine lv_iconst (v := iZ 5) hx hb dX8_mark_204 (by decide) ?_
                  refine mq_iald hx hb hK hP 19 12 (n := 29) rfl (by decide) 5 rfl (by omega) dX8_mark_205 ?_
                  refine z_iadd hx hb dX8_mark_206 ?_
                  refine lv_goto (tgt := 211) hx hb dX8_mark_207 (by decide) ?_
                  exact K22 ((((Mb 19 2) + (Mb 19 3)) + (Mb 19 4)) + (Mb 19 5)) (by first | rfl | (rw [if_pos c20]; done) | omega | (subst_vars; first | rfl | (rw [if_pos c20]; done) | omega)) ls (lv_sub hl [] rfl)
              refine z_ifb_eq (P := (bo / zp 4 % 2 = 1)) (tgt := 166) hx hb dX8_mark_159 (by decide) (fun c17 => ?_) (fun c17 => ?_)
              · refine lv_iconst (v := iZ 0) hx hb dX8_mark_166 (by decide) ?_
                exact K19 0 (by first | rfl | (rw [if_neg c17]; done) | omega | (subst_vars; first | rfl | (rw [if_neg c17]; done) | omega)) ls (lv_sub hl [1, 2] rfl)
              · refine lv_iload_n hx hb dX8_mark_162 rfl (lv_at hl 3 rfl) ?_
                refine W.eq (g2 := F0 m 163 ls [.int (iZ pe), .int (iZ v15)]) rfl ?_
                refine lv_goto (tgt := 167) hx hb dX8_mark_163 (by decide) ?_
                exact K19 pe (by first | rfl | (rw [if_pos c17]; done) | omega | (subst_vars; first | rfl | (rw [if_pos c17]; done) | omega)) ls (lv_sub hl [1, 2] rfl)
            refine z_ifb_eq (P := (bo / zp 3 % 2 = 1)) (tgt := 148) hx hb dX8_mark_138 (by decide) (fun c14 => ?_) (fun c14 => ?_)
            · refine lv_iload hx hb dX8_mark_148 (lv_at hl 0 rfl) ?_
              exact K16 (((Mb 3 (Int.toNat pe)) + v9) - v12) (by first | rfl | (rw [if_neg c14]; done) | omega | (subst_vars; first | rfl | (rw [if_neg c14]; done) | omega)) ls (lv_sub hl [1, 2, 3] rfl)
            · refine W.eq (g2 := F0 m 141 ls []) rfl ?_
              refine lv_iconst (v := iZ 2) hx hb dX8_mark_141 (by decide) ?_
              refine lv_iload hx hb dX8_mark_142 (lv_at hl 0 rfl) ?_
              refine z_imul hx hb dX8_mark_144 ?_
              refine lv_goto (tgt := 150) hx hb dX8_mark_145 (by decide) ?_
              exact K16 (2 * (((Mb 3 (Int.toNat pe)) + v9) - v12)) (by first | rfl | (rw [if_pos c14]; done) | omega | (subst_vars; first | rfl | (rw [if_pos c14]; done) | omega)) ls (lv_sub hl [1, 2, 3] rfl)
          refine z_ifb_eq (P := (bo / zp 2 % 2 = 1)) (tgt := 129) hx hb dX8_mark_117 (by decide) (fun c11 => ?_) (fun c11 => ?_)
          · refine lv_iconst (v := iZ 0) hx hb dX8_mark_129 (by decide) ?_
            exact K13 0 (by first | rfl | (rw [if_neg c11]; done) | omega | (subst_vars; first | rfl | (rw [if_neg c11]; done) | omega)) ls (lv_sub hl [1, 2, 3] rfl)
          · refine W.eq (g2 := F0 m 120 ls [.int (iZ ((Mb 3 (Int.toNat pe)) + v9))]) rfl ?_
            refine lv_aload_n hx hb dX8_mark_120 rfl (lv_at hl 2 rfl) ?_
            refine mq_get hx hb hts hin hown hK hP 19 (by decide) (hts (.fieldLink RX8 44 "WordFletchersModel" "now" "[I") (List.mem_cons_of_mem _ (List.mem_append_left _ (List.mem_append_left _ (List.mem_of_getElem? (i := 4) rfl))))) rfl dX8_mark_121 ?_
            refine lv_iconst (v := iZ 1) hx hb dX8_mark_124 (by decide) ?_
            refine mq_iald hx hb hK hP 19 12 (n := 29) rfl (by decide) 1 rfl (by omega) dX8_mark_125 ?_
            refine lv_goto (tgt := 130) hx hb dX8_mark_126 (by decide) ?_
            exact K13 (Mb 19 1) (by first | rfl | (rw [if_pos c11]; done) | omega | (subst_vars; first | rfl | (rw [if_pos c11]; done) | omega)) ls (lv_sub hl [1, 2, 3] rfl)
        refine z_ifb_eq (P := (bo / zp 1 % 2 = 1)) (tgt := 106) hx hb dX8_mark_91 (by decide) (fun c8 => ?_) (fun c8 => ?_)
        · refine lv_iconst (v := iZ 0) hx hb dX8_mark_106 (by decide) ?_
          exact K10 0 (by first | rfl | (rw [if_neg c8]; done) | omega | (subst_vars; first | rfl | (rw [if_neg c8]; done) | omega)) ls (lv_sub hl [2, 3, 4] rfl)
        · refine lv_aload_n hx hb dX8_mark_94 rfl (lv_at hl 3 rfl) ?_
          refine lv_iload_n hx hb dX8_mark_95 rfl (lv_at hl 4 rfl) ?_
          refine W.eq (g2 := F0 m 96 ls [.int (iZ pe), .ref h, .int (iZ (Mb 3 (Int.toNat pe)))]) rfl ?_
          refine lv_iconst (v := iZ 2) hx hb dX8_mark_96 (by decide) ?_
          refine mq_ci (As := [.int (iZ pe), .int (iZ 2)]) (rest := [.int (iZ (Mb 3 (Int.toNat pe)))]) ⟨hx, hb, hml, hown, hts⟩ hK hP (C_one l D C h a Mb pe 2 hI_Mb (by omega) (by omega)) (cwV 2 hts gX8_mark_X8_one rfl rfl rfl (by decide +kernel) ⟨Nat.le_of_ble_eq_true rfl, Nat.le_of_ble_eq_true rfl⟩) rfl rfl hl.1 (Nat.le_of_ble_eq_true rfl) ⟨Nat.le_of_ble_eq_true rfl, Nat.le_of_ble_eq_true rfl⟩ dX8_mark_97 ?_
          have ho1 := s_one_2 Mb (pe := pe) (by omega)
          have hkb := s_kn_bd Mb pe (by omega)
          have ho2 : s_kn Mb pe = s_kn M pe := by unfold s_kn; rw [q3 19 (by decide), q3 5 (by decide)]
          refine mq_cs (As := [.int (iZ (s_one Mb pe 2))]) (rest := [.int (iZ (Mb 3 (Int.toNat pe)))]) ⟨hx, hb, hml, hown, hts⟩ (C_bitsOf l (s_one Mb pe 2) (by omega)) (va_cwS 1 hts gX8_mark_X8_bitsOf rfl rfl rfl (by decide +kernel) ⟨Nat.le_of_ble_eq_true rfl, Nat.le_of_ble_eq_true rfl⟩) rfl rfl hl.1 (Nat.le_of_ble_eq_true rfl) ⟨Nat.le_of_ble_eq_true rfl, Nat.le_of_ble_eq_true rfl⟩ dX8_mark_100 ?_
          have hbi := s_bits_bd (s_one Mb pe 2)
          refine lv_goto (tgt := 107) hx hb dX8_mark_103 (by decide) ?_
          exact K10 (s_bits (s_one Mb pe 2)) (by first | rfl | (rw [if_pos c8]; done) | omega | (subst_vars; first | rfl | (rw [if_pos c8]; done) | omega)) ls (lv_sub hl [2, 3, 4] rfl)
      · refine lv_aload_n hx hb dX8_mark_38 rfl (lv_at hl 3 rfl) ?_
        refine lv_dup hx hb dX8_mark_39 rfl ?_
        refine mq_get hx hb hts hin hown hK hP 29 (by decide) (hts (.fieldLink RX8 207 "WordFletchersModel" "trace" "J") (List.mem_cons_of_mem _ (List.mem_append_left _ (List.mem_append_left _ (List.mem_of_getElem? (i := 1) rfl))))) rfl dX8_mark_40 ?_
        refine W.eq (g2 := F0 m 43 ls [.long (iL (Mb 29 0)), .ref h]) rfl ?_
        refine lv_iload_n hx hb dX8_mark_43 rfl (lv_at hl 2 rfl) ?_
        refine lv_iload hx hb dX8_mark_44 (lv_at hl 0 rfl) ?_
        refine mq_cs (As := [.int (iZ bo), .int (iZ kk)]) (rest := [.long (iL (Mb 29 0)), .ref h]) ⟨hx, hb, hml, hown, hts⟩ (C_has l bo kk (by omega) (by omega)) (va_cwS 2 hts gX8_mark_X8_has rfl rfl rfl (by decide +kernel) ⟨Nat.le_of_ble_eq_true rfl, Nat.le_of_ble_eq_true rfl⟩) rfl rfl hl.1 (Nat.le_of_ble_eq_true rfl) ⟨Nat.le_of_ble_eq_true rfl, Nat.le_of_ble_eq_true rfl⟩ dX8_mark_46 ?_
        have K25 : ∀ (v24 : Int), (v24 = (if (bo / zp kk % 2 = 1) then un else 0)) → ∀ ls : Array Slot, lv_has ls 7 [(6, .int (iZ kk)), (4, .long (iL un)), (3, .int (iZ bo)), (0, .ref h), (2, .int (iZ pe))] → W p l e ((headSpec wsX8_mark ({ frames := 3, cells := 0, slots := 0, locals := 67 })).room) s m (([.ref h, .int (iZ kd), .int (iZ pe)] : List Value).toArray) below meth c H locs 0 0 (MQ below (va_Qi (fun r (_ : Unit) => r = iZ (s_mark M kd pe)) (fun _ t => mOk D C h a (f_mark M kd pe) t) (mA h a)) (([.ref h, .int (iZ kd), .int (iZ pe)] : List Value).toArray) s 0 0 (mA h a)) (F0 m 58 ls [.long (iL v24), .long (iL (Mb 29 0)), .ref h]) := by
          intro v24 hv24 ls hl
          refine z_ladd hx hb dX8_mark_58 ?_
          refine mq_putL hx hb hts hin hown hK hP hD hS (hts (.fieldLink RX8 207 "WordFletchersModel" "trace" "J") (List.mem_cons_of_mem _ (List.mem_append_left _ (List.mem_append_left _ (List.mem_of_getElem? (i := 1) rfl))))) dX8_mark_59 (fun H locs hP hD hS => ?_)
          obtain ⟨M26, hM26⟩ : ∃ z : Nat → Nat → Int, z = (mU Mb 29 0 (Mb 29 0 + v24)) := ⟨_, rfl⟩
          rw [← hM26] at hP hD
          refine lv_lload hx hb dX8_mark_62 (lv_at hl 1 rfl) ?_
          refine z_ldc2_w (n := 10) hx hb hown (hts (Cond.constantLong RX8 211 (10)) (List.mem_cons_of_mem _ (List.mem_append_left _ (List.mem_append_left _ (List.mem_of_getElem? (i := 2) rfl))))) (by decide) dX8_mark_64 ?_
          refine z_lmul hx hb dX8_mark_67 ?_
          refine W.eq (g2 := F0 m 68 ls [.long (iL (un * 10))]) rfl ?_
          refine lv_lstore (lv' := [(4, .long (iL (un * 10))), (6, .int (iZ kk)), (3, .int (iZ bo)), (0, .ref h), (2, .int (iZ pe))]) hx hb dX8_mark_68 hl (by decide) rfl (fun ls hl => ?_)
          refine lv_iinc (v := iZ (kk + 1)) (lv' := [(6, .int (iZ (kk + 1))), (4, .long (iL (un * 10))), (3, .int (iZ bo)), (0, .ref h), (2, .int (iZ pe))]) hx hb dX8_mark_70 hl (k := 1) rfl (iZ_add _ _) (by decide) rfl (fun ls hl => ?_)
          refine lv_goto (tgt := 31) hx hb dX8_mark_73 (by decide) ?_
          exact ih31 (M26, (un * 10), (kk + 1)) ⟨(by show 0 ≤ (kk + 1) ∧ (kk + 1) ≤ 6; omega), (by show M26 = mU M 29 0 (M 29 0 + s_trN bo (Int.toNat (kk + 1))); rw [s_trN_succ _ (by omega)]; subst_vars; rw [mU_mU, mU_eq]; congr 1; omega), (by show (un * 10) = zt (kk + 1); rw [zt_succ (by omega), i3])⟩ (by show (6 - (kk + 1)).toNat < (6 - kk).toNat; omega) H locs ⟨hP, hS⟩ ls (lv_sub hl [0, 1, 2, 3, 4] rfl)
        refine z_ifb_eq (P := (bo / zp kk % 2 = 1)) (tgt := 57) hx hb dX8_mark_49 (by decide) (fun c23 => ?_) (fun c23 => ?_)
        · refine lv_lconst (v := iL 0) hx hb dX8_mark_57 (by decide) ?_
          exact K25 0 (by first | rfl | (rw [if_neg c23]; done) | omega | (subst_vars; first | rfl | (rw [if_neg c23]; done) | omega)) ls (lv_sub hl [0, 1, 2, 3, 4] rfl)
        · refine lv_lload hx hb dX8_mark_52 (lv_at hl 1 rfl) ?_
          refine lv_goto (tgt := 58) hx hb dX8_mark_54 (by decide) ?_
          exact K25 un (by first | rfl | (rw [if_pos c23]; done) | omega | (subst_vars; first | rfl | (rw [if_pos c23]; done) | omega)) ls (lv_sub hl [0, 1, 2, 3, 4] rfl)
    · refine z_ldc (n := (-1000000)) hx hb hown (hts (Cond.constant RX8 154 (-1000000)) (List.mem_cons_of_mem _ (List.mem_append_left _ (List.mem_append_left _ (List.mem_of_getElem? (i := 0) rfl))))) (by decide) dX8_mark_17 ?_
      exact mq_retM hx hb hK hP hS hr rfl (by unfold s_mark; first | omega | (rw [if_neg (by omega), ← hbo]; unfold s_mkv; have r1 := congrFun (q3 19 (by decide)) 2; have r2 := congrFun (q3 19 (by decide)) 3; have r3 := congrFun (q3 19 (by decide)) 4; have r4 := congrFun (q3 19 (by decide)) 5; have r6 : s_bits (s_one Mb pe 2) = s_bits (s_kn M pe) := (by rw [s_one_2 Mb (pe := pe) (by omega)]; unfold s_kn; rw [q3 19 (by decide), q3 5 (by decide)]); omega) | omega) (by unfold f_mark; first | (rw [if_pos (by omega)]; done) | (have q : kk = 6 := (by omega); rw [if_neg (by omega), i2, q, hbo]; rfl) | omega) dX8_mark_19 hlocks
