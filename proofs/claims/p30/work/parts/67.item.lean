set_option maxHeartbeats 4000000 in
set_option maxRecDepth 100000 in
theorem C_blow (l : Launch) (D : va_G) (C : mC) (h : Nat) (a : Nat → Nat) (M : Nat → Nat → Int) (hp : pI M) (hN : va_D (fun _ => True) (mW C h a M)) : Met l yX8_blow wsX8_blow ({ frames := 4, cells := 0, slots := 0, locals := 87 }) (va_Pc [.ref h] (mOk D C h a M)) (va_Qv (fun (_ : Unit) => True) (fun _ t => mOk D C h a (f_blow M) t) (mA h a)) 0 0 (mA h a) := by
  refine Met.ofW (cc := cX8_blow) (maxL := 2) (ret := none) (by decide) rfl ?_
  intro p e s m args below meth c s₁ B hml hv
  obtain ⟨rfl, hP, hK⟩ := hv
  have hx := B.exec
  have hb := B.bytes
  have hr := B.returns
  have hts := atoms_spec (ws := wsX8_blow) B.pre
  have hown : s.vm.findClass RX8 = some m.cls := findClass_of_methodNamed B.named
  have hlocks := B.notSynchronized
  have hin : ∀ w ∈ wsX80, w ∈ wsX8_blow := fun _ w_h => (List.mem_cons_of_mem _ (List.mem_append_right _ w_h))
  have hl := lv_entry ([.ref h]) (n := 2) (Nat.le_of_ble_eq_true rfl)
  rw [lg_entry_eq]
  generalize (lg_sl ([.ref h]) ++ List.replicate (2 - (lg_sl ([.ref h])).length) Slot.unset).toArray = ls at hl ⊢
  replace hl : lv_has ls 2 [(0, .ref h)] := hl
  have hD : va_D (mA h a) (mW C h a M) := mD_own hN
  have hA : ∀ q, mA h a q → mA h a q := fun _ h9 => h9
  generalize hHe : s.heap = H at hP ⊢
  have hS : va_S (mA h a) s.heap H [] := by rw [hHe]; exact va_S.rf
  generalize hlo : ([] : List Loc) = locs at hS ⊢
  clear hHe hlo
  obtain ⟨p1, p2, p3, p4, p5, p6, p7, p8, p9, p10⟩ := id hp
  refine lv_aload_n hx hb dX8_blow_0 rfl (lv_at hl 0 rfl) ?_
  refine mq_get hx hb hts hin hown hK hP 9 (by decide) (hts (.fieldLink RX8 35 "WordFletchersModel" "winds" "[I") (List.mem_cons_of_mem _ (List.mem_append_left _ (List.mem_append_left _ (List.mem_of_getElem? (i := 0) rfl))))) rfl dX8_blow_1 ?_
  refine lv_iconst (v := iZ 1) hx hb dX8_blow_4 (by decide) ?_
  refine lv_iconst (v := iZ 0) hx hb dX8_blow_5 (by decide) ?_
  refine mq_iast hx hb hK hP hD hS 9 9 (n := 2) rfl (fun k9 => mS_9 C h a _ k9 _) (by decide) 1 rfl (by omega) dX8_blow_6 (fun H locs hP hD hS => ?_)
  obtain ⟨M1, hM1⟩ : ∃ z : Nat → Nat → Int, z = (mU M 9 1 0) := ⟨_, rfl⟩
  rw [← hM1] at hP hD
  have n9 : M1 9 1 = 0 := by rw [hM1]; exact mU_eq _ _ _ _
  refine lv_aload_n hx hb dX8_blow_7 rfl (lv_at hl 0 rfl) ?_
  refine W.eq (g2 := F0 m 8 ls [.ref h]) rfl ?_
  refine lv_iconst (v := iZ 1) hx hb dX8_blow_8 (by decide) ?_
  refine mq_put (ty := .boolean) hx hb hts hin hown hK hP hD hS 18 (by decide) (hts (.fieldLink RX8 107 "WordFletchersModel" "isBlown" "Z") (List.mem_cons_of_mem _ (List.mem_append_left _ (List.mem_append_left _ (List.mem_of_getElem? (i := 1) rfl))))) rfl (by decide +kernel) (z_nbool (by omega)) (z_fbool (by omega)) (mS_18 C h a _ _) dX8_blow_9 (fun H locs hP hD hS => ?_)
  obtain ⟨M2, hM2⟩ : ∃ z : Nat → Nat → Int, z = (mU M1 18 0 1) := ⟨_, rfl⟩
  rw [← hM2] at hP hD
  have hp_M2 : pI M2 := by rw [hM2]; subst_vars; exact ⟨p1, p2, p3, p4, p5, Or.inr rfl, p7, p8, by rw [mU_nf _ _ _ _ (by decide), mU_eq]; omega, p10⟩
  have n92 : M2 9 1 = 0 := by rw [hM2]; exact n9
  have hbw : f_blow M = f_blN 6 M2 := by subst_vars; rfl
  replace hl : lv_has ls 2 [(0, .ref h)] := lv_sub hl [0] rfl
  replace hP := And.intro hP hS
  clear hS
  revert ls
  revert hP
  revert H locs
  refine z_loopH (σ := (Nat → Nat → Int)) (fun x9 => (0 ≤ x9 9 1 ∧ x9 9 1 ≤ 5) ∧ (pI x9) ∧ (f_blow M = f_blN (Int.toNat (6 - x9 9 1)) x9)) (fun x9 H9 locs9 => va_P D vwCl (mW C h a x9) H9 ∧ va_S (mA h a) s.heap H9 locs9) (fun x9 => [(0, .ref h)]) 2 (fun x9 => (6 - x9 9 1).toNat) M2 ⟨(by show 0 ≤ M2 9 1 ∧ M2 9 1 ≤ 5; omega), (by show pI M2; assumption), (by show f_blow M = f_blN (Int.toNat (6 - M2 9 1)) M2; rw [n92]; exact hbw)⟩ ?_
  rintro Ma hI9 ih12 H locs hPS ls hl
  have hP : va_P D vwCl (mW C h a Ma) H := hPS.1
  have hS : va_S (mA h a) s.heap H locs := hPS.2
  clear hPS
  have hD : va_D (mA h a) (mW C h a Ma) := mD_re hD
  obtain ⟨b1, hp_Ma, b2⟩ := hI9
  replace b1 : 0 ≤ Ma 9 1 ∧ Ma 9 1 ≤ 5 := b1
  replace hp_Ma : pI Ma := hp_Ma
  replace b2 : f_blow M = f_blN (Int.toNat (6 - Ma 9 1)) Ma := b2
  replace hl : lv_has ls 2 [(0, .ref h)] := hl
  obtain ⟨z1, z2, z3, z4, z5, z6, z7, z8, z9, z10⟩ := id hp_Ma
  refine lv_aload_n hx hb dX8_blow_12 rfl (lv_at hl 0 rfl) ?_
  refine lv_iconst (v := iZ 0) hx hb dX8_blow_13 (by decide) ?_
  refine lv_bipush (v := iZ 8) hx hb dX8_blow_14 (by decide) ?_
  refine mq_cm (As := [.int (iZ 0), .int (iZ 8)]) (rest := []) ⟨hx, hb, hml, hown, hts⟩ hK hP hD hS hA (C_number l D C h a Ma 0 8 hp_Ma (by omega) (by omega) (hD.weaken (fun _ _ _ _ => trivial))) (cwV 2 hts gX8_blow_X8_number rfl rfl rfl (by decide +kernel) ⟨Nat.le_of_ble_eq_true rfl, Nat.le_of_ble_eq_true rfl⟩) rfl rfl hl.1 (Nat.le_of_ble_eq_true rfl) ⟨Nat.le_of_ble_eq_true rfl, Nat.le_of_ble_eq_true rfl⟩ dX8_blow_16 (fun H locs hP hD hS => ?_)
  obtain ⟨M3, hM3⟩ : ∃ z : Nat → Nat → Int, z = (f_num Ma 0 8) := ⟨_, rfl⟩
  rw [← hM3] at hP hD
  have hpN : pI M3 := by rw [hM3]; exact pI_num hp_Ma _ _
  obtain ⟨u1, u2, u3, u4, u5, u6, u7, u8, u9, u10⟩ := id hpN
  have o91 := congrFun (show M3 9 = Ma 9 by rw [hM3]; exact f_num_o _ _ _ (by decide)) 1
  have hn0 : f_num Ma 0 8 = M3 := hM3.symm
  refine lv_istore_n (lv' := [(1, .int (iZ (Ma 15 0))), (0, .ref h)]) hx hb dX8_blow_19 rfl hl (by decide) rfl (fun ls hl => ?_)
  refine lv_aload_n hx hb dX8_blow_20 rfl (lv_at hl 1 rfl) ?_
  refine mq_get hx hb hts hin hown hK hP 16 (by decide) (hts (.fieldLink RX8 96 "WordFletchersModel" "isWrong" "Z") (List.mem_cons_of_mem _ (List.mem_append_left _ (List.mem_append_left _ (List.mem_of_getElem? (i := 2) rfl))))) rfl dX8_blow_21 ?_
  refine z_if_ne (x := (M3 16 0)) (tgt := 54) hx hb (by omega) dX8_blow_24 (by decide) (fun c4 => ?_) (fun c4 => ?_)
  · refine lv_aload_n hx hb dX8_blow_54 rfl (lv_at hl 1 rfl) ?_
    refine mq_get hx hb hts hin hown hK hP 16 (by decide) (hts (.fieldLink RX8 96 "WordFletchersModel" "isWrong" "Z") (List.mem_cons_of_mem _ (List.mem_append_left _ (List.mem_append_left _ (List.mem_of_getElem? (i := 2) rfl))))) rfl dX8_blow_55 ?_
    refine z_if_ne (x := (M3 16 0)) (tgt := 80) hx hb (by omega) dX8_blow_58 (by decide) (fun c7 => ?_) (fun c7 => ?_)
    · exact mq_retV hx hb hK hP hS hr (by rw [b2, f_blN_step _ (by omega)]; first | (exfalso; omega) | (rw [w1, if_neg (by omega)]; done) | (have w1 : f_bl1 Ma = f_num Ma 0 8 := (by unfold f_bl1; rw [hn0]; exact if_neg (by omega)); rw [w1, hn0, if_neg (by omega)]; done) | omega) dX8_blow_80 hlocks
    · refine lv_aload_n hx hb dX8_blow_61 rfl (lv_at hl 1 rfl) ?_
      refine mq_get hx hb hts hin hown hK hP 14 (by decide) (hts (.fieldLink RX8 93 "WordFletchersModel" "sort" "I") (List.mem_cons_of_mem _ (List.mem_append_left _ (List.mem_append_left _ (List.mem_of_getElem? (i := 4) rfl))))) rfl dX8_blow_62 ?_
      refine W.eq (g2 := F0 m 65 ls [.int (iZ (M3 14 0))]) rfl ?_
      refine lv_iconst (v := iZ 2) hx hb dX8_blow_65 (by decide) ?_
      refine z_icmp_ne (x := (M3 14 0)) (y := 2) (tgt := 80) hx hb (by omega) (by omega) dX8_blow_66 (by decide) (fun c8 => ?_) (fun c8 => ?_)
      · exact mq_retV hx hb hK hP hS hr (by rw [b2, f_blN_step _ (by omega)]; first | (exfalso; omega) | (rw [w1, if_neg (by omega)]; done) | (have w1 : f_bl1 Ma = f_num Ma 0 8 := (by unfold f_bl1; rw [hn0]; exact if_neg (by omega)); rw [w1, hn0, if_neg (by omega)]; done) | omega) dX8_blow_80 hlocks
      · refine lv_aload_n hx hb dX8_blow_69 rfl (lv_at hl 1 rfl) ?_
        refine mq_get hx hb hts hin hown hK hP 9 (by decide) (hts (.fieldLink RX8 35 "WordFletchersModel" "winds" "[I") (List.mem_cons_of_mem _ (List.mem_append_left _ (List.mem_append_left _ (List.mem_of_getElem? (i := 0) rfl))))) rfl dX8_blow_70 ?_
        refine lv_iconst (v := iZ 1) hx hb dX8_blow_73 (by decide) ?_
        refine mq_iald hx hb hK hP 9 9 (n := 2) rfl (by decide) 1 rfl (by omega) dX8_blow_74 ?_
        refine lv_bipush (v := iZ 6) hx hb dX8_blow_75 (by decide) ?_
        refine z_icmp_lt (x := (M3 9 1)) (y := 6) (tgt := 12) hx hb (by omega) (by omega) dX8_blow_77 (by decide) (fun c9 => ?_) (fun c9 => ?_)
        · exact ih12 M3 ⟨(by show 0 ≤ M3 9 1 ∧ M3 9 1 ≤ 5; omega), (by show pI M3; assumption), (by show f_blow M = f_blN (Int.toNat (6 - M3 9 1)) M3; first | (exfalso; omega) | (rw [b2, f_blN_step _ (by omega), w1, if_pos (by omega)]; congr 2; omega) | omega)⟩ (by show (6 - M3 9 1).toNat < (6 - Ma 9 1).toNat; omega) H locs ⟨hP, hS⟩ ls (lv_sub hl [1] rfl)
        · exact mq_retV hx hb hK hP hS hr (by rw [b2, f_blN_step _ (by omega)]; first | (exfalso; omega) | (rw [w1, if_neg (by omega)]; done) | (have w1 : f_bl1 Ma = f_num Ma 0 8 := (by unfold f_bl1; rw [hn0]; exact if_neg (by omega)); rw [w1, hn0, if_neg (by omega)]; done) | omega) dX8_blow_80 hlocks
  · refine lv_aload_n hx hb dX8_blow_27 rfl (lv_at hl 1 rfl) ?_
    refine mq_get hx hb hts hin hown hK hP 10 (by decide) (hts (.fieldLink RX8 38 "WordFletchersModel" "wind" "[I") (List.mem_cons_of_mem _ (List.mem_append_left _ (List.mem_append_left _ (List.mem_of_getElem? (i := 3) rfl))))) rfl dX8_blow_28 ?_
    refine W.eq (g2 := F0 m 31 ls [.ref (a 10)]) rfl ?_
    refine lv_bipush (v := iZ 6) hx hb dX8_blow_31 (by decide) ?_
    refine lv_aload_n hx hb dX8_blow_33 rfl (lv_at hl 1 rfl) ?_
    refine mq_get hx hb hts hin hown hK hP 9 (by decide) (hts (.fieldLink RX8 35 "WordFletchersModel" "winds" "[I") (List.mem_cons_of_mem _ (List.mem_append_left _ (List.mem_append_left _ (List.mem_of_getElem? (i := 0) rfl))))) rfl dX8_blow_34 ?_
    refine lv_iconst (v := iZ 1) hx hb dX8_blow_37 (by decide) ?_
    refine mq_iald hx hb hK hP 9 9 (n := 2) rfl (by decide) 1 rfl (by omega) dX8_blow_38 ?_
    refine z_iadd hx hb dX8_blow_39 ?_
    refine lv_iload_n hx hb dX8_blow_40 rfl (lv_at hl 0 rfl) ?_
    refine lv_iconst (v := iZ 4) hx hb dX8_blow_41 (by decide) ?_
    refine z_isub hx hb dX8_blow_42 ?_
    refine mq_iast hx hb hK hP hD hS 10 10 (n := 12) rfl (fun k9 => mS_10 C h a _ k9 _) (by decide) (Int.toNat (6 + (M3 9 1))) rfl (by omega) dX8_blow_43 (fun H locs hP hD hS => ?_)
    obtain ⟨M10, hM10⟩ : ∃ z : Nat → Nat → Int, z = (mU M3 10 (Int.toNat (6 + (M3 9 1))) (Ma 15 0 - 4)) := ⟨_, rfl⟩
    rw [← hM10] at hP hD
    have w43 : M10 9 1 = M3 9 1 := by rw [hM10]; rfl
    refine lv_aload_n hx hb dX8_blow_44 rfl (lv_at hl 1 rfl) ?_
    refine mq_get hx hb hts hin hown hK hP 9 (by decide) (hts (.fieldLink RX8 35 "WordFletchersModel" "winds" "[I") (List.mem_cons_of_mem _ (List.mem_append_left _ (List.mem_append_left _ (List.mem_of_getElem? (i := 0) rfl))))) rfl dX8_blow_45 ?_
    refine W.eq (g2 := F0 m 48 ls [.ref (a 9)]) rfl ?_
    refine lv_iconst (v := iZ 1) hx hb dX8_blow_48 (by decide) ?_
    refine lv_dup2_11 hx hb dX8_blow_49 rfl rfl ?_
    refine mq_iald hx hb hK hP 9 9 (n := 2) rfl (by decide) 1 rfl (by omega) dX8_blow_50 ?_
    refine lv_iconst (v := iZ 1) hx hb dX8_blow_51 (by decide) ?_
    refine z_iadd hx hb dX8_blow_52 ?_
    refine mq_iast hx hb hK hP hD hS 9 9 (n := 2) rfl (fun k9 => mS_9 C h a _ k9 _) (by decide) 1 rfl (by omega) dX8_blow_53 (fun H locs hP hD hS => ?_)
    obtain ⟨M11, hM11⟩ : ∃ z : Nat → Nat → Int, z = (mU M10 9 1 ((M10 9 1) + 1)) := ⟨_, rfl⟩
    rw [← hM11] at hP hD
    have w1 : f_bl1 Ma = M11 := by unfold f_bl1; rw [hn0, if_pos (by omega)]; subst_vars; rfl
    have w53 : M11 9 1 = M10 9 1 + 1 := by rw [hM11]; exact mU_eq _ _ _ _
    have w54 : M11 16 0 = 0 := by rw [← w1]; unfold f_bl1; rw [hn0, if_pos (by omega)]; show _ = (0 : Int); unfold f_bw; rw [mU_nf _ _ _ _ (by decide), mU_nf _ _ _ _ (by decide)]; omega
    have hp_M11 : pI M11 := ⟨(by rw [← w1]; unfold f_bl1; rw [hn0, if_pos (by omega)]; exact u1), (by rw [← w1]; unfold f_bl1; rw [hn0, if_pos (by omega)]; exact u2), (by rw [← w1]; unfold f_bl1; rw [hn0, if_pos (by omega)]; exact u3), (by rw [← w1]; unfold f_bl1; rw [hn0, if_pos (by omega)]; exact u4), Or.inl w54, (by rw [← w1]; unfold f_bl1; rw [hn0, if_pos (by omega)]; exact u6), (by rw [← w1]; unfold f_bl1; rw [hn0, if_pos (by omega)]; exact u7), (by rw [← w1]; unfold f_bl1; rw [hn0, if_pos (by omega)]; exact u8), by omega, (by rw [← w1]; unfold f_bl1; rw [hn0, if_pos (by omega)]; exact u10)⟩
    obtain ⟨y1, y2, y3, y4, y5, y6, y7, y8, y9, y10⟩ := id hp_M11
    refine lv_aload_n hx hb dX8_blow_54 rfl (lv_at hl 1 rfl) ?_
    refine mq_get hx hb hts hin hown hK hP 16 (by decide) (hts (.fieldLink RX8 96 "WordFletchersModel" "isWrong" "Z") (List.mem_cons_of_mem _ (List.mem_append_left _ (List.mem_append_left _ (List.mem_of_getElem? (i := 2) rfl))))) rfl dX8_blow_55 ?_
    refine z_if_ne (x := (M11 16 0)) (tgt := 80) hx hb (by omega) dX8_blow_58 (by decide) (fun c12 => ?_) (fun c12 => ?_)
    · exact mq_retV hx hb hK hP hS hr (by rw [b2, f_blN_step _ (by omega)]; first | (exfalso; omega) | (rw [w1, if_neg (by omega)]; done) | (have w1 : f_bl1 Ma = f_num Ma 0 8 := (by unfold f_bl1; rw [hn0]; exact if_neg (by omega)); rw [w1, hn0, if_neg (by omega)]; done) | omega) dX8_blow_80 hlocks
    · refine lv_aload_n hx hb dX8_blow_61 rfl (lv_at hl 1 rfl) ?_
      refine mq_get hx hb hts hin hown hK hP 14 (by decide) (hts (.fieldLink RX8 93 "WordFletchersModel" "sort" "I") (List.mem_cons_of_mem _ (List.mem_append_left _ (List.mem_append_left _ (List.mem_of_getElem? (i := 4) rfl))))) rfl dX8_blow_62 ?_
      refine W.eq (g2 := F0 m 65 ls [.int (iZ (M11 14 0))]) rfl ?_
      refine lv_iconst (v := iZ 2) hx hb dX8_blow_65 (by decide) ?_
      refine z_icmp_ne (x := (M11 14 0)) (y := 2) (tgt := 80) hx hb (by omega) (by omega) dX8_blow_66 (by decide) (fun c13 => ?_) (fun c13 => ?_)
      · exact mq_retV hx hb hK hP hS hr (by rw [b2, f_blN_step _ (by omega)]; first | (exfalso; omega) | (rw [w1, if_neg (by omega)]; done) | (have w1 : f_bl1 Ma = f_num Ma 0 8 := (by unfold f_bl1; rw [hn0]; exact if_neg (by omega)); rw [w1, hn0, if_neg (by omega)]; done) | omega) dX8_blow_80 hlocks
      · refine lv_aload_n hx hb dX8_blow_69 rfl (lv_at hl 1 rfl) ?_
        refine mq_get hx hb hts hin hown hK hP 9 (by decide) (hts (.fieldLink RX8 35 "WordFletchersModel" "winds" "[I") (List.mem_cons_of_mem _ (List.mem_append_left _ (List.mem_append_left _ (List.mem_of_getElem? (i := 0) rfl))))) rfl dX8_blow_70 ?_
        refine lv_iconst (v := iZ 1) hx hb dX8_blow_73 (by decide) ?_
        refine mq_iald hx hb hK hP 9 9 (n := 2) rfl (by decide) 1 rfl (by omega) dX8_blow_74 ?_
        refine lv_bipush (v := iZ 6) hx hb dX8_blow_75 (by decide) ?_
        refine z_icmp_lt (x := (M11 9 1)) (y := 6) (tgt := 12) hx hb (by omega) (by omega) dX8_blow_77 (by decide) (fun c14 => ?_) (fun c14 => ?_)
        · exact ih12 M11 ⟨(by show 0 ≤ M11 9 1 ∧ M11 9 1 ≤ 5; omega), (by show pI M11; assumption), (by show f_blow M = f_blN (Int.toNat (6 - M11 9 1)) M11; first | (exfalso; omega) | (rw [b2, f_blN_step _ (by omega), w1, if_pos (by omega)]; congr 2; omega) | omega)⟩ (by show (6 - M11 9 1).toNat < (6 - Ma 9 1).toNat; omega) H locs ⟨hP, hS⟩ ls (lv_sub hl [1] rfl)
        · exact mq_retV hx hb hK hP hS hr (by rw [b2, f_blN_step _ (by omega)]; first | (exfalso; omega) | (rw [w1, if_neg (by omega)]; done) | (have w1 : f_bl1 Ma = f_num Ma 0 8 := (by unfold f_bl1; rw [hn0]; exact if_neg (by omega)); rw [w1, hn0, if_neg (by omega)]; done) | omega) dX8_blow_80 hlocks
