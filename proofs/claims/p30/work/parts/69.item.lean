set_option maxHeartbeats 4000000 in
set_option maxRecDepth 100000 in
theorem C_item (l : Launch) (D : va_G) (C : mC) (h : Nat) (a : Nat → Nat) (M : Nat → Nat → Int) (wd : Int) (hp : pI M) (h1 : 0 ≤ wd ∧ wd ≤ 999) (h2 : wd = 112 → M 2 1 < 6) (h3 : wd = 115 → M 5 1 < 6) (hN : va_D (fun _ => True) (mW C h a M)) : Met l yX8_item wsX8_item ({ frames := 5, cells := 0, slots := 0, locals := 108 }) (va_Pc [.ref h, .int (iZ wd)] (mOk D C h a M)) (va_Qv (fun (_ : Unit) => True) (fun _ t => mOk D C h a (f_item M wd) t) (mA h a)) 0 0 (mA h a) := by
  refine Met.ofW (cc := cX8_item) (maxL := 5) (ret := none) (by decide) rfl ?_
  intro p e s m args below meth c s₁ B hml hv
  obtain ⟨rfl, hP, hK⟩ := hv
  have hx := B.exec
  have hb := B.bytes
  have hr := B.returns
  have hts := atoms_spec (ws := wsX8_item) B.pre
  have hown : s.vm.findClass RX8 = some m.cls := findClass_of_methodNamed B.named
  have hlocks := B.notSynchronized
  have hin : ∀ w ∈ wsX80, w ∈ wsX8_item := fun _ w_h => (List.mem_cons_of_mem _ (List.mem_append_right _ w_h))
  have hl := lv_entry ([.ref h, .int (iZ wd)]) (n := 5) (Nat.le_of_ble_eq_true rfl)
  rw [lg_entry_eq]
  generalize (lg_sl ([.ref h, .int (iZ wd)]) ++ List.replicate (5 - (lg_sl ([.ref h, .int (iZ wd)])).length) Slot.unset).toArray = ls at hl ⊢
  replace hl : lv_has ls 5 [(0, .ref h), (1, .int (iZ wd))] := hl
  have hD : va_D (mA h a) (mW C h a M) := mD_own hN
  have hA : ∀ q, mA h a q → mA h a q := fun _ h9 => h9
  generalize hHe : s.heap = H at hP ⊢
  have hS : va_S (mA h a) s.heap H [] := by rw [hHe]; exact va_S.rf
  generalize hlo : ([] : List Loc) = locs at hS ⊢
  clear hHe hlo
  obtain ⟨p1, p2, p3, p4, p5, p6, p7, p8, p9, p10⟩ := id hp
  refine lv_iload_n hx hb dX8_item_0 rfl (lv_at hl 1 rfl) ?_
  by_cases c1 : wd = 112
  · refine lv_lookup (off := 35) (tgt := 36) hx hb dX8_item_1 (by decide) (by rw [iZ_toInt (by omega), c1]; rfl) (by decide) ?_
    refine W.eq (g2 := F0 m 36 ls []) rfl ?_
    refine lv_aload_n hx hb dX8_item_36 rfl (lv_at hl 0 rfl) ?_
    refine mq_get hx hb hts hin hown hK hP 3 (by decide) (hts (.fieldLink RX8 17 "WordFletchersModel" "place" "[I") (List.mem_cons_of_mem _ (List.mem_append_left _ (List.mem_append_left _ (List.mem_of_getElem? (i := 0) rfl))))) rfl dX8_item_37 ?_
    refine lv_bipush (v := iZ 6) hx hb dX8_item_40 (by decide) ?_
    refine lv_aload_n hx hb dX8_item_42 rfl (lv_at hl 0 rfl) ?_
    refine mq_get hx hb hts hin hown hK hP 2 (by decide) (hts (.fieldLink RX8 13 "WordFletchersModel" "people" "[I") (List.mem_cons_of_mem _ (List.mem_append_left _ (List.mem_append_left _ (List.mem_of_getElem? (i := 1) rfl))))) rfl dX8_item_43 ?_
    refine lv_iconst (v := iZ 1) hx hb dX8_item_46 (by decide) ?_
    refine mq_iald hx hb hK hP 2 2 (n := 2) rfl (by decide) 1 rfl (by omega) dX8_item_47 ?_
    refine z_iadd hx hb dX8_item_48 ?_
    refine lv_aload_n hx hb dX8_item_49 rfl (lv_at hl 0 rfl) ?_
    refine lv_iconst (v := iZ 0) hx hb dX8_item_50 (by decide) ?_
    refine lv_bipush (v := iZ 30) hx hb dX8_item_51 (by decide) ?_
    refine mq_cm (As := [.int (iZ 0), .int (iZ 30)]) (rest := [.int (iZ (6 + (M 2 1))), .ref (a 3)]) ⟨hx, hb, hml, hown, hts⟩ hK hP hD hS hA (C_number l D C h a M 0 30 hp (by omega) (by omega) (hD.weaken (fun _ _ _ _ => trivial))) (cwV 2 hts gX8_item_X8_number rfl rfl rfl (by decide +kernel) ⟨Nat.le_of_ble_eq_true rfl, Nat.le_of_ble_eq_true rfl⟩) rfl rfl hl.1 (Nat.le_of_ble_eq_true rfl) ⟨Nat.le_of_ble_eq_true rfl, Nat.le_of_ble_eq_true rfl⟩ dX8_item_53 (fun H locs hP hD hS => ?_)
    obtain ⟨M2, hM2⟩ : ∃ z : Nat → Nat → Int, z = (f_num M 0 30) := ⟨_, rfl⟩
    rw [← hM2] at hP hD
    have hp_M2 : pI M2 := by rw [hM2]; exact pI_num hp _ _
    have o21_M2 := congrFun (show M2 2 = M 2 by rw [hM2]; exact f_num_o _ _ _ (by decide)) 1
    have o51_M2 := congrFun (show M2 5 = M 5 by rw [hM2]; exact f_num_o _ _ _ (by decide)) 1
    have hq_M2 := hp_M2.2.2.2.2.2.2.1
    refine W.eq (g2 := F0 m 56 ls [.int (iZ (M 15 0)), .int (iZ (6 + (M 2 1))), .ref (a 3)]) rfl ?_
    refine mq_iast hx hb hK hP hD hS 3 3 (n := 12) rfl (fun k9 => mS_3 C h a _ k9 _) (by decide) (Int.toNat (6 + (M 2 1))) rfl (by omega) dX8_item_56 (fun H locs hP hD hS => ?_)
    obtain ⟨M3, hM3⟩ : ∃ z : Nat → Nat → Int, z = (mU M2 3 (Int.toNat (6 + (M 2 1))) (M 15 0)) := ⟨_, rfl⟩
    rw [← hM3] at hP hD
    have hp_M3 : pI M3 := by rw [hM3]; exact hp_M2
    have o21_M3 : M3 2 1 = M2 2 1 := by rw [hM3]; rfl
    have o51_M3 : M3 5 1 = M2 5 1 := by rw [hM3]; rfl
    have hq_M3 := hp_M3.2.2.2.2.2.2.1
    refine lv_aload_n hx hb dX8_item_57 rfl (lv_at hl 0 rfl) ?_
    refine mq_get hx hb hts hin hown hK hP 4 (by decide) (hts (.fieldLink RX8 20 "WordFletchersModel" "ear" "[I") (List.mem_cons_of_mem _ (List.mem_append_left _ (List.mem_append_left _ (List.mem_of_getElem? (i := 2) rfl))))) rfl dX8_item_58 ?_
    refine lv_bipush (v := iZ 6) hx hb dX8_item_61 (by decide) ?_
    refine lv_aload_n hx hb dX8_item_63 rfl (lv_at hl 0 rfl) ?_
    refine mq_get hx hb hts hin hown hK hP 2 (by decide) (hts (.fieldLink RX8 13 "WordFletchersModel" "people" "[I") (List.mem_cons_of_mem _ (List.mem_append_left _ (List.mem_append_left _ (List.mem_of_getElem? (i := 1) rfl))))) rfl dX8_item_64 ?_
    refine lv_iconst (v := iZ 1) hx hb dX8_item_67 (by decide) ?_
    refine mq_iald hx hb hK hP 2 2 (n := 2) rfl (by decide) 1 rfl (by omega) dX8_item_68 ?_
    refine z_iadd hx hb dX8_item_69 ?_
    refine lv_aload_n hx hb dX8_item_70 rfl (lv_at hl 0 rfl) ?_
    refine lv_iconst (v := iZ 0) hx hb dX8_item_71 (by decide) ?_
    refine lv_iconst (v := iZ 5) hx hb dX8_item_72 (by decide) ?_
    refine W.eq (g2 := F0 m 73 ls [.int (iZ 5), .int (iZ 0), .ref h, .int (iZ (6 + (M3 2 1))), .ref (a 4)]) rfl ?_
    refine mq_cm (As := [.int (iZ 0), .int (iZ 5)]) (rest := [.int (iZ (6 + (M3 2 1))), .ref (a 4)]) ⟨hx, hb, hml, hown, hts⟩ hK hP hD hS hA (C_number l D C h a M3 0 5 hp_M3 (by omega) (by omega) (hD.weaken (fun _ _ _ _ => trivial))) (cwV 2 hts gX8_item_X8_number rfl rfl rfl (by decide +kernel) ⟨Nat.le_of_ble_eq_true rfl, Nat.le_of_ble_eq_true rfl⟩) rfl rfl hl.1 (Nat.le_of_ble_eq_true rfl) ⟨Nat.le_of_ble_eq_true rfl, Nat.le_of_ble_eq_true rfl⟩ dX8_item_73 (fun H locs hP hD hS => ?_)
    obtain ⟨M4, hM4⟩ : ∃ z : Nat → Nat → Int, z = (f_num M3 0 5) := ⟨_, rfl⟩
    rw [← hM4] at hP hD
    have hp_M4 : pI M4 := by rw [hM4]; exact pI_num hp_M3 _ _
    have o21_M4 := congrFun (show M4 2 = M3 2 by rw [hM4]; exact f_num_o _ _ _ (by decide)) 1
    have o51_M4 := congrFun (show M4 5 = M3 5 by rw [hM4]; exact f_num_o _ _ _ (by decide)) 1
    have hq_M4 := hp_M4.2.2.2.2.2.2.1
    refine mq_iast hx hb hK hP hD hS 4 4 (n := 12) rfl (fun k9 => mS_4 C h a _ k9 _) (by decide) (Int.toNat (6 + (M3 2 1))) rfl (by omega) dX8_item_76 (fun H locs hP hD hS => ?_)
    obtain ⟨M5, hM5⟩ : ∃ z : Nat → Nat → Int, z = (mU M4 4 (Int.toNat (6 + (M3 2 1))) (M3 15 0)) := ⟨_, rfl⟩
    rw [← hM5] at hP hD
    have hp_M5 : pI M5 := by rw [hM5]; exact hp_M4
    have o21_M5 : M5 2 1 = M4 2 1 := by rw [hM5]; rfl
    have o51_M5 : M5 5 1 = M4 5 1 := by rw [hM5]; rfl
    have hq_M5 := hp_M5.2.2.2.2.2.2.1
    refine lv_aload_n hx hb dX8_item_77 rfl (lv_at hl 0 rfl) ?_
    refine mq_get hx hb hts hin hown hK hP 2 (by decide) (hts (.fieldLink RX8 13 "WordFletchersModel" "people" "[I") (List.mem_cons_of_mem _ (List.mem_append_left _ (List.mem_append_left _ (List.mem_of_getElem? (i := 1) rfl))))) rfl dX8_item_78 ?_
    refine lv_iconst (v := iZ 1) hx hb dX8_item_81 (by decide) ?_
    refine lv_dup2_11 hx hb dX8_item_82 rfl rfl ?_
    refine mq_iald hx hb hK hP 2 2 (n := 2) rfl (by decide) 1 rfl (by omega) dX8_item_83 ?_
    refine lv_iconst (v := iZ 1) hx hb dX8_item_84 (by decide) ?_
    refine z_iadd hx hb dX8_item_85 ?_
    refine mq_iast hx hb hK hP hD hS 2 2 (n := 2) rfl (fun k9 => mS_2 C h a _ k9 _) (by decide) 1 rfl (by omega) dX8_item_86 (fun H locs hP hD hS => ?_)
    obtain ⟨M6, hM6⟩ : ∃ z : Nat → Nat → Int, z = (mU M5 2 1 ((M5 2 1) + 1)) := ⟨_, rfl⟩
    rw [← hM6] at hP hD
    refine lv_goto (tgt := 195) hx hb dX8_item_87 (by decide) ?_
    exact mq_retV hx hb hK hP hS hr (by unfold f_item; first | (rw [if_pos (by omega)]; subst_vars; rfl) | (rw [if_neg (by omega), if_pos (by omega)]; subst_vars; rfl) | (rw [if_neg (by omega), if_neg (by omega), if_pos (by omega)]; assumption) | (rw [if_neg (by omega), if_neg (by omega), if_neg (by omega)]; unfold f_itf; rw [hB3]; first | (rw [if_neg (by omega)]; done) | (rw [if_pos (by omega), hA3]; assumption)) | omega) dX8_item_195 hlocks
  by_cases c7 : wd = 115
  · refine lv_lookup (off := 89) (tgt := 90) hx hb dX8_item_1 (by decide) (by rw [iZ_toInt (by omega), c7]; rfl) (by decide) ?_
    refine W.eq (g2 := F0 m 90 ls []) rfl ?_
    refine lv_bipush (v := iZ 6) hx hb dX8_item_90 (by decide) ?_
    refine lv_aload_n hx hb dX8_item_92 rfl (lv_at hl 0 rfl) ?_
    refine mq_get hx hb hts hin hown hK hP 5 (by decide) (hts (.fieldLink RX8 23 "WordFletchersModel" "sayings" "[I") (List.mem_cons_of_mem _ (List.mem_append_left _ (List.mem_append_left _ (List.mem_of_getElem? (i := 3) rfl))))) rfl dX8_item_93 ?_
    refine lv_iconst (v := iZ 1) hx hb dX8_item_96 (by decide) ?_
    refine mq_iald hx hb hK hP 5 5 (n := 2) rfl (by decide) 1 rfl (by omega) dX8_item_97 ?_
    refine z_iadd hx hb dX8_item_98 ?_
    refine lv_istore_n (lv' := [(2, .int (iZ (6 + (M 5 1)))), (0, .ref h), (1, .int (iZ wd))]) hx hb dX8_item_99 rfl hl (by decide) rfl (fun ls hl => ?_)
    refine lv_aload_n hx hb dX8_item_100 rfl (lv_at hl 1 rfl) ?_
    refine mq_get hx hb hts hin hown hK hP 6 (by decide) (hts (.fieldLink RX8 26 "WordFletchersModel" "weight" "[I") (List.mem_cons_of_mem _ (List.mem_append_left _ (List.mem_append_left _ (List.mem_of_getElem? (i := 4) rfl))))) rfl dX8_item_101 ?_
    refine lv_iload_n hx hb dX8_item_104 rfl (lv_at hl 0 rfl) ?_
    refine lv_aload_n hx hb dX8_item_105 rfl (lv_at hl 1 rfl) ?_
    refine lv_iconst (v := iZ 1) hx hb dX8_item_106 (by decide) ?_
    refine W.eq (g2 := F0 m 107 ls [.int (iZ 1), .ref h, .int (iZ (6 + (M 5 1))), .ref (a 6)]) rfl ?_
    refine lv_bipush (v := iZ 9) hx hb dX8_item_107 (by decide) ?_
    refine mq_cm (As := [.int (iZ 1), .int (iZ 9)]) (rest := [.int (iZ (6 + (M 5 1))), .ref (a 6)]) ⟨hx, hb, hml, hown, hts⟩ hK hP hD hS hA (C_number l D C h a M 1 9 hp (by omega) (by omega) (hD.weaken (fun _ _ _ _ => trivial))) (cwV 2 hts gX8_item_X8_number rfl rfl rfl (by decide +kernel) ⟨Nat.le_of_ble_eq_true rfl, Nat.le_of_ble_eq_true rfl⟩) rfl rfl hl.1 (Nat.le_of_ble_eq_true rfl) ⟨Nat.le_of_ble_eq_true rfl, Nat.le_of_ble_eq_true rfl⟩ dX8_item_109 (fun H locs hP hD hS => ?_)
    obtain ⟨M8, hM8⟩ : ∃ z : Nat → Nat → Int, z = (f_num M 1 9) := ⟨_, rfl⟩
    rw [← hM8] at hP hD
    have hp_M8 : pI M8 := by rw [hM8]; exact pI_num hp _ _
    have o21_M8 := congrFun (show M8 2 = M 2 by rw [hM8]; exact f_num_o _ _ _ (by decide)) 1
    have o51_M8 := congrFun (show M8 5 = M 5 by rw [hM8]; exact f_num_o _ _ _ (by decide)) 1
    have hq_M8 := hp_M8.2.2.2.2.2.2.1
    refine mq_iast hx hb hK hP hD hS 6 6 (n := 12) rfl (fun k9 => mS_6 C h a _ k9 _) (by decide) (Int.toNat (6 + (M 5 1))) rfl (by omega) dX8_item_112 (fun H locs hP hD hS => ?_)
    obtain ⟨M9, hM9⟩ : ∃ z : Nat → Nat → Int, z = (mU M8 6 (Int.toNat (6 + (M 5 1))) (M 15 0)) := ⟨_, rfl⟩
    rw [← hM9] at hP hD
    have hp_M9 : pI M9 := by rw [hM9]; exact hp_M8
    have o21_M9 : M9 2 1 = M8 2 1 := by rw [hM9]; rfl
    have o51_M9 : M9 5 1 = M8 5 1 := by rw [hM9]; rfl
    have hq_M9 := hp_M9.2.2.2.2.2.2.1
    refine lv_aload_n hx hb dX8_item_113 rfl (lv_at hl 1 rfl) ?_
    refine mq_get hx hb hts hin hown hK hP 7 (by decide) (hts (.fieldLink RX8 29 "WordFletchersModel" "twist" "[I") (List.mem_cons_of_mem _ (List.mem_append_left _ (List.mem_append_left _ (List.mem_of_getElem? (i := 5) rfl))))) rfl dX8_item_114 ?_
    refine lv_iload_n hx hb dX8_item_117 rfl (lv_at hl 0 rfl) ?_
    refine lv_aload_n hx hb dX8_item_118 rfl (lv_at hl 1 rfl) ?_
    refine lv_iconst (v := iZ 0) hx hb dX8_item_119 (by decide) ?_
    refine lv_iconst (v := iZ 3) hx hb dX8_item_120 (by decide) ?_
    refine mq_cm (As := [.int (iZ 0), .int (iZ 3)]) (rest := [.int (iZ (6 + (M 5 1))), .ref (a 7)]) ⟨hx, hb, hml, hown, hts⟩ hK hP hD hS hA (C_number l D C h a M9 0 3 hp_M9 (by omega) (by omega) (hD.weaken (fun _ _ _ _ => trivial))) (cwV 2 hts gX8_item_X8_number rfl rfl rfl (by decide +kernel) ⟨Nat.le_of_ble_eq_true rfl, Nat.le_of_ble_eq_true rfl⟩) rfl rfl hl.1 (Nat.le_of_ble_eq_true rfl) ⟨Nat.le_of_ble_eq_true rfl, Nat.le_of_ble_eq_true rfl⟩ dX8_item_121 (fun H locs hP hD hS => ?_)
    obtain ⟨M10, hM10⟩ : ∃ z : Nat → Nat → Int, z = (f_num M9 0 3) := ⟨_, rfl⟩
    rw [← hM10] at hP hD
    have hp_M10 : pI M10 := by rw [hM10]; exact pI_num hp_M9 _ _
    have o21_M10 := congrFun (show M10 2 = M9 2 by rw [hM10]; exact f_num_o _ _ _ (by decide)) 1
    have o51_M10 := congrFun (show M10 5 = M9 5 by rw [hM10]; exact f_num_o _ _ _ (by decide)) 1
    have hq_M10 := hp_M10.2.2.2.2.2.2.1
    refine mq_iast hx hb hK hP hD hS 7 7 (n := 12) rfl (fun k9 => mS_7 C h a _ k9 _) (by decide) (Int.toNat (6 + (M 5 1))) rfl (by omega) dX8_item_124 (fun H locs hP hD hS => ?_)
    obtain ⟨M11, hM11⟩ : ∃ z : Nat → Nat → Int, z = (mU M10 7 (Int.toNat (6 + (M 5 1))) (M9 15 0)) := ⟨_, rfl⟩
    rw [← hM11] at hP hD
    have hp_M11 : pI M11 := by rw [hM11]; exact hp_M10
    have o21_M11 : M11 2 1 = M10 2 1 := by rw [hM11]; rfl
    have o51_M11 : M11 5 1 = M10 5 1 := by rw [hM11]; rfl
    have hq_M11 := hp_M11.2.2.2.2.2.2.1
    refine lv_aload_n hx hb dX8_item_125 rfl (lv_at hl 1 rfl) ?_
    refine W.eq (g2 := F0 m 126 ls [.ref h]) rfl ?_
    refine mq_get hx hb hts hin hown hK hP 8 (by decide) (hts (.fieldLink RX8 32 "WordFletchersModel" "first" "[I") (List.mem_cons_of_mem _ (List.mem_append_left _ (List.mem_append_left _ (List.mem_of_getElem? (i := 6) rfl))))) rfl dX8_item_126 ?_
    refine lv_iload_n hx hb dX8_item_129 rfl (lv_at hl 0 rfl) ?_
    refine lv_aload_n hx hb dX8_item_130 rfl (lv_at hl 1 rfl) ?_
    refine lv_iconst (v := iZ 0) hx hb dX8_item_131 (by decide) ?_
    refine lv_aload_n hx hb dX8_item_132 rfl (lv_at hl 1 rfl) ?_
    refine mq_get hx hb hts hin hown hK hP 2 (by decide) (hts (.fieldLink RX8 13 "WordFletchersModel" "people" "[I") (List.mem_cons_of_mem _ (List.mem_append_left _ (List.mem_append_left _ (List.mem_of_getElem? (i := 1) rfl))))) rfl dX8_item_133 ?_
    refine lv_iconst (v := iZ 1) hx hb dX8_item_136 (by decide) ?_
    refine mq_iald hx hb hK hP 2 2 (n := 2) rfl (by decide) 1 rfl (by omega) dX8_item_137 ?_
    refine lv_iconst (v := iZ 1) hx hb dX8_item_138 (by decide) ?_
    refine z_isub hx hb dX8_item_139 ?_
    refine mq_cm (As := [.int (iZ 0), .int (iZ ((M11 2 1) - 1))]) (rest := [.int (iZ (6 + (M 5 1))), .ref (a 8)]) ⟨hx, hb, hml, hown, hts⟩ hK hP hD hS hA (C_number l D C h a M11 0 ((M11 2 1) - 1) hp_M11 (by omega) (by omega) (hD.weaken (fun _ _ _ _ => trivial))) (cwV 2 hts gX8_item_X8_number rfl rfl rfl (by decide +kernel) ⟨Nat.le_of_ble_eq_true rfl, Nat.le_of_ble_eq_true rfl⟩) rfl rfl hl.1 (Nat.le_of_ble_eq_true rfl) ⟨Nat.le_of_ble_eq_true rfl, Nat.le_of_ble_eq_true rfl⟩ dX8_item_140 (fun H locs hP hD hS => ?_)
    obtain ⟨M12, hM12⟩ : ∃ z : Nat → Nat → Int, z = (f_num M11 0 ((M11 2 1) - 1)) := ⟨_, rfl⟩
    rw [← hM12] at hP hD
    have hp_M12 : pI M12 := by rw [hM12]; exact pI_num hp_M11 _ _
    have o21_M12 := congrFun (show M12 2 = M11 2 by rw [hM12]; exact f_num_o _ _ _ (by decide)) 1
    have o51_M12 := congrFun (show M12 5 = M11 5 by rw [hM12]; exact f_num_o _ _ _ (by decide)) 1
    have hq_M12 := hp_M12.2.2.2.2.2.2.1
    refine mq_iast hx hb hK hP hD hS 8 8 (n := 12) rfl (fun k9 => mS_8 C h a _ k9 _) (by decide) (Int.toNat (6 + (M 5 1))) rfl (by omega) dX8_item_143 (fun H locs hP hD hS => ?_)
    obtain ⟨M13, hM13⟩ : ∃ z : Nat → Nat → Int, z = (mU M12 8 (Int.toNat (6 + (M 5 1))) (M11 15 0)) := ⟨_, rfl⟩
    rw [← hM13] at hP hD
    have hp_M13 : pI M13 := by rw [hM13]; exact hp_M12
    have o21_M13 : M13 2 1 = M12 2 1 := by rw [hM13]; rfl
    have o51_M13 : M13 5 1 = M12 5 1 := by rw [hM13]; rfl
    have hq_M13 := hp_M13.2.2.2.2.2.2.1
    refine W.eq (g2 := F0 m 144 ls []) rfl ?_
    refine lv_aload_n hx hb dX8_item_144 rfl (lv_at hl 1 rfl) ?_
    refine mq_get hx hb hts hin hown hK hP 5 (by decide) (hts (.fieldLink RX8 23 "WordFletchersModel" "sayings" "[I") (List.mem_cons_of_mem _ (List.mem_append_left _ (List.mem_append_left _ (List.mem_of_getElem? (i := 3) rfl))))) rfl dX8_item_145 ?_
    refine lv_iconst (v := iZ 1) hx hb dX8_item_148 (by decide) ?_
    refine lv_dup2_11 hx hb dX8_item_149 rfl rfl ?_
    refine mq_iald hx hb hK hP 5 5 (n := 2) rfl (by decide) 1 rfl (by omega) dX8_item_150 ?_
    refine lv_iconst (v := iZ 1) hx hb dX8_item_151 (by decide) ?_
    refine z_iadd hx hb dX8_item_152 ?_
    refine mq_iast hx hb hK hP hD hS 5 5 (n := 2) rfl (fun k9 => mS_5 C h a _ k9 _) (by decide) 1 rfl (by omega) dX8_item_153 (fun H locs hP hD hS => ?_)
    obtain ⟨M14, hM14⟩ : ∃ z : Nat → Nat → Int, z = (mU M13 5 1 ((M13 5 1) + 1)) := ⟨_, rfl⟩
    rw [← hM14] at hP hD
    refine lv_goto (tgt := 195) hx hb dX8_item_154 (by decide) ?_
    exact mq_retV hx hb hK hP hS hr (by unfold f_item; first | (rw [if_pos (by omega)]; subst_vars; rfl) | (rw [if_neg (by omega), if_pos (by omega)]; subst_vars; rfl) | (rw [if_neg (by omega), if_neg (by omega), if_pos (by omega)]; assumption) | (rw [if_neg (by omega), if_neg (by omega), if_neg (by omega)]; unfold f_itf; rw [hB3]; first | (rw [if_neg (by omega)]; done) | (rw [if_pos (by omega), hA3]; assumption)) | omega) dX8_item_195 hlocks
  by_cases c15 : wd = 119
  · refine lv_lookup (off := 156) (tgt := 157) hx hb dX8_item_1 (by decide) (by rw [iZ_toInt (by omega), c15]; rfl) (by decide) ?_
    refine lv_aload_n hx hb dX8_item_157 rfl (lv_at hl 0 rfl) ?_
    refine mq_cv (As := []) (rest := []) ⟨hx, hb, hml, hown, hts⟩ hK hP hD hS hA (C_blow l D C h a M  hp (hD.weaken (fun _ _ _ _ => trivial))) (cwV 0 hts gX8_item_X8_blow rfl rfl rfl (by decide +kernel) ⟨Nat.le_of_ble_eq_true rfl, Nat.le_of_ble_eq_true rfl⟩) rfl rfl hl.1 (Nat.le_of_ble_eq_true rfl) ⟨Nat.le_of_ble_eq_true rfl, Nat.le_of_ble_eq_true rfl⟩ dX8_item_158 (fun H locs hP hD hS => ?_)
    obtain ⟨M16, hM16⟩ : ∃ z : Nat → Nat → Int, z = (f_blow M) := ⟨_, rfl⟩
    rw [← hM16] at hP hD
    refine W.eq (g2 := F0 m 161 ls []) rfl ?_
    refine lv_goto (tgt := 195) hx hb dX8_item_161 (by decide) ?_
    exact mq_retV hx hb hK hP hS hr (by unfold f_item; first | (rw [if_pos (by omega)]; subst_vars; rfl) | (rw [if_neg (by omega), if_pos (by omega)]; subst_vars; rfl) | (rw [if_neg (by omega), if_neg (by omega), if_pos (by omega)]; assumption) | (rw [if_neg (by omega), if_neg (by omega), if_neg (by omega)]; unfold f_itf; rw [hB3]; first | (rw [if_neg (by omega)]; done) | (rw [if_pos (by omega), hA3]; assumption)) | omega) dX8_item_195 hlocks
  refine lv_lookup (off := 163) (tgt := 164) hx hb dX8_item_1 (by decide) (by rw [iZ_toInt (by omega)]; first | (simp [Op.lookupswitch.offset, Ne.symm c1, Ne.symm c7, Ne.symm c15, c1, c7, c15]; done) | (simp [Op.lookupswitch.offset, Ne.symm c1, Ne.symm c7, Ne.symm c15, c1, c7, c15]; rfl)) (by decide) ?_
  refine lv_aload_n hx hb dX8_item_164 rfl (lv_at hl 0 rfl) ?_
  refine lv_iconst (v := iZ 0) hx hb dX8_item_165 (by decide) ?_
  refine lv_iconst (v := iZ 3) hx hb dX8_item_166 (by decide) ?_
  refine mq_cm (As := [.int (iZ 0), .int (iZ 3)]) (rest := []) ⟨hx, hb, hml, hown, hts⟩ hK hP hD hS hA (C_number l D C h a M 0 3 hp (by omega) (by omega) (hD.weaken (fun _ _ _ _ => trivial))) (cwV 2 hts gX8_item_X8_number rfl rfl rfl (by decide +kernel) ⟨Nat.le_of_ble_eq_true rfl, Nat.le_of_ble_eq_true rfl⟩) rfl rfl hl.1 (Nat.le_of_ble_eq_true rfl) ⟨Nat.le_of_ble_eq_true rfl, Nat.le_of_ble_eq_true rfl⟩ dX8_item_167 (fun H locs hP hD hS => ?_)
  obtain ⟨M18, hM18⟩ : ∃ z : Nat → Nat → Int, z = (f_num M 0 3) := ⟨_, rfl⟩
  rw [← hM18] at hP hD
  have hp_M18 : pI M18 := by rw [hM18]; exact pI_num hp _ _
  have o21_M18 := congrFun (show M18 2 = M 2 by rw [hM18]; exact f_num_o _ _ _ (by decide)) 1
  have o51_M18 := congrFun (show M18 5 = M 5 by rw [hM18]; exact f_num_o _ _ _ (by decide)) 1
  have hq_M18 := hp_M18.2.2.2.2.2.2.1
  have hA3 : f_num M 0 3 = M18 := hM18.symm
  refine lv_istore_n (lv' := [(3, .int (iZ (M 15 0))), (0, .ref h), (1, .int (iZ wd))]) hx hb dX8_item_170 rfl hl (by decide) rfl (fun ls hl => ?_)
  refine lv_aload_n hx hb dX8_item_171 rfl (lv_at hl 1 rfl) ?_
  refine lv_iconst (v := iZ 0) hx hb dX8_item_172 (by decide) ?_
  refine lv_bipush (v := iZ 20) hx hb dX8_item_173 (by decide) ?_
  refine mq_cm (As := [.int (iZ 0), .int (iZ 20)]) (rest := []) ⟨hx, hb, hml, hown, hts⟩ hK hP hD hS hA (C_number l D C h a M18 0 20 hp_M18 (by omega) (by omega) (hD.weaken (fun _ _ _ _ => trivial))) (cwV 2 hts gX8_item_X8_number rfl rfl rfl (by decide +kernel) ⟨Nat.le_of_ble_eq_true rfl, Nat.le_of_ble_eq_true rfl⟩) rfl rfl hl.1 (Nat.le_of_ble_eq_true rfl) ⟨Nat.le_of_ble_eq_true rfl, Nat.le_of_ble_eq_true rfl⟩ dX8_item_175 (fun H locs hP hD hS => ?_)
  obtain ⟨M19, hM19⟩ : ∃ z : Nat → Nat → Int, z = (f_num M18 0 20) := ⟨_, rfl⟩
  rw [← hM19] at hP hD
  have hp_M19 : pI M19 := by rw [hM19]; exact pI_num hp_M18 _ _
  have o21_M19 := congrFun (show M19 2 = M18 2 by rw [hM19]; exact f_num_o _ _ _ (by decide)) 1
  have o51_M19 := congrFun (show M19 5 = M18 5 by rw [hM19]; exact f_num_o _ _ _ (by decide)) 1
  have hq_M19 := hp_M19.2.2.2.2.2.2.1
  have hB3 : f_num (f_num M 0 3) 0 20 = M19 := by rw [hA3]; exact hM19.symm
  have ok2 : M19 16 0 = 0 → 0 ≤ M 15 0 ∧ M 15 0 ≤ 3 := fun z9 => by have a9 := f_num_ok (show f_num (f_num M 0 3) 0 20 16 0 = 0 by rw [hB3]; exact z9); have b9 := f_num_ok a9.1; exact ⟨b9.2.2.1, b9.2.2.2⟩
  obtain ⟨u1, u2, u3, u4, u5, u6, u7, u8, u9, u10⟩ := id hp_M19
  refine lv_istore (lv' := [(4, .int (iZ (M18 15 0))), (3, .int (iZ (M 15 0))), (0, .ref h), (1, .int (iZ wd))]) hx hb dX8_item_178 hl (by decide) rfl (fun ls hl => ?_)
  refine W.eq (g2 := F0 m 180 ls []) rfl ?_
  refine lv_aload_n hx hb dX8_item_180 rfl (lv_at hl 2 rfl) ?_
  refine mq_get hx hb hts hin hown hK hP 16 (by decide) (hts (.fieldLink RX8 96 "WordFletchersModel" "isWrong" "Z") (List.mem_cons_of_mem _ (List.mem_append_left _ (List.mem_append_left _ (List.mem_of_getElem? (i := 7) rfl))))) rfl dX8_item_181 ?_
  refine z_if_ne (x := (M19 16 0)) (tgt := 195) hx hb (by omega) dX8_item_184 (by decide) (fun c20 => ?_) (fun c20 => ?_)
  · exact mq_retV hx hb hK hP hS hr (by unfold f_item; first | (rw [if_pos (by omega)]; subst_vars; rfl) | (rw [if_neg (by omega), if_pos (by omega)]; subst_vars; rfl) | (rw [if_neg (by omega), if_neg (by omega), if_pos (by omega)]; assumption) | (rw [if_neg (by omega), if_neg (by omega), if_neg (by omega)]; unfold f_itf; rw [hB3]; first | (rw [if_neg (by omega)]; done) | (rw [if_pos (by omega), hA3]; assumption)) | omega) dX8_item_195 hlocks
  · refine lv_aload_n hx hb dX8_item_187 rfl (lv_at hl 2 rfl) ?_
    refine mq_get hx hb hts hin hown hK hP 11 (by decide) (hts (.fieldLink RX8 41 "WordFletchersModel" "plenty" "[I") (List.mem_cons_of_mem _ (List.mem_append_left _ (List.mem_append_left _ (List.mem_of_getElem? (i := 8) rfl))))) rfl dX8_item_188 ?_
    refine lv_iload_n hx hb dX8_item_191 rfl (lv_at hl 1 rfl) ?_
    refine W.eq (g2 := F0 m 192 ls [.int (iZ (M 15 0)), .ref (a 11)]) rfl ?_
    refine lv_iload hx hb dX8_item_192 (lv_at hl 0 rfl) ?_
    refine mq_iast hx hb hK hP hD hS 11 11 (n := 4) rfl (fun k9 => mS_11 C h a _ k9 _) (by decide) (Int.toNat (M 15 0)) rfl (by omega) dX8_item_194 (fun H locs hP hD hS => ?_)
    obtain ⟨M22, hM22⟩ : ∃ z : Nat → Nat → Int, z = (mU M19 11 (Int.toNat (M 15 0)) (M18 15 0)) := ⟨_, rfl⟩
    rw [← hM22] at hP hD
    exact mq_retV hx hb hK hP hS hr (by unfold f_item; first | (rw [if_pos (by omega)]; subst_vars; rfl) | (rw [if_neg (by omega), if_pos (by omega)]; subst_vars; rfl) | (rw [if_neg (by omega), if_neg (by omega), if_pos (by omega)]; assumption) | (rw [if_neg (by omega), if_neg (by omega), if_neg (by omega)]; unfold f_itf; rw [hB3]; first | (rw [if_neg (by omega)]; done) | (rw [if_pos (by omega), hA3]; assumption)) | omega) dX8_item_195 hlocks
