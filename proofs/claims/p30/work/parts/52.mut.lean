set_option maxHeartbeats 4000000 in
set_option maxRecDepth 100000 in
theorem C_plucks (l : Launch) (D : va_G) (C : mC) (h : Nat) (a : Nat → Nat) (M : Nat → Nat → Int) (fe nn : Int) (hI : mI M) (h1 : -2147483648 ≤ fe ∧ fe < 2147483648) (h2 : -2147483648 ≤ nn ∧ nn < 2147483648) (hN : va_D (fun _ => True) (mW C h a M)) : Met l yX8_plucks wsX8_plucks ({ frames := 1, cells := 0, slots := 0, locals := 22 }) (va_Pc [.ref h, .int (iZ fe), .int (iZ nn)] (mOk D C h a M)) (va_Qi (fun r (_ : Unit) => r = iZ (s_plucks M fe nn)) (fun _ t => mOk D C h a (f_plucks M fe nn) t) (mA h a)) 0 0 (mA h a) := by
  refine Met.ofW (cc := cX8_plucks) (maxL := 4) (ret := (some .int)) (by decide) rfl ?_
  intro p e s m args below meth c s₁ B hml hv
  obtain ⟨rfl, hP, hK⟩ := hv
  have hx := B.exec
  have hb := B.bytes
  have hr := B.returns
  have hts := atoms_spec (ws := wsX8_plucks) B.pre
  have hown : s.vm.findClass RX8 = some m.cls := findClass_of_methodNamed B.named
  have hlocks := B.notSynchronized
  have hin : ∀ w ∈ wsX80, w ∈ wsX8_plucks := fun _ w_h => (List.mem_cons_of_mem _ (List.mem_append_right _ w_h))
  have hl := lv_entry ([.ref h, .int (iZ fe), .int (iZ nn)]) (n := 4) (Nat.le_of_ble_eq_true rfl)
  rw [lg_entry_eq]
  generalize (lg_sl ([.ref h, .int (iZ fe), .int (iZ nn)]) ++ List.replicate (4 - (lg_sl ([.ref h, .int (iZ fe), .int (iZ nn)])).length) Slot.unset).toArray = ls at hl ⊢
  replace hl : lv_has ls 4 [(0, .ref h), (1, .int (iZ fe)), (2, .int (iZ nn))] := hl
  have hD : va_D (mA h a) (mW C h a M) := mD_own hN
  have hA : ∀ q, mA h a q → mA h a q := fun _ h9 => h9
  generalize hHe : s.heap = H at hP ⊢
  have hS : va_S (mA h a) s.heap H [] := by rw [hHe]; exact va_S.rf
  generalize hlo : ([] : List Loc) = locs at hS ⊢
  clear hHe hlo
  have hnw := mI_now hI
  have hfe : 0 ≤ fe ∧ fe ≤ 3 → 0 ≤ M 19 (Int.toNat (2 + fe)) ∧ M 19 (Int.toNat (2 + fe)) ≤ 20 := fun q => mI_fe hI ⟨q.1, by omega⟩
  refine W.eq (g2 := F0 m 0 ls []) rfl ?_
  refine lv_iload_n hx hb dX8_plucks_0 rfl (lv_at hl 1 rfl) ?_
  refine lv_iconst (v := iZ 0) hx hb dX8_plucks_1 (by decide) ?_
  refine lv_iconst (v := iZ 3) hx hb dX8_plucks_2 (by decide) ?_
  refine mq_cs (As := [.int (iZ fe), .int (iZ 0), .int (iZ 3)]) (rest := []) ⟨hx, hb, hml, hown, hts⟩ (C_in l fe 0 3 (by omega) (by omega) (by omega)) (va_cwS 3 hts gX8_plucks_X8_in rfl rfl rfl (by decide +kernel) ⟨Nat.le_of_ble_eq_true rfl, Nat.le_of_ble_eq_true rfl⟩) rfl rfl hl.1 (Nat.le_of_ble_eq_true rfl) ⟨Nat.le_of_ble_eq_true rfl, Nat.le_of_ble_eq_true rfl⟩ dX8_plucks_3 ?_
  refine z_ifb_eq (P := (0 ≤ fe ∧ fe ≤ 3)) (tgt := 19) hx hb dX8_plucks_6 (by decide) (fun c1 => ?_) (fun c1 => ?_)
  · refine lv_iconst (v := iZ (-1)) hx hb dX8_plucks_19 (by decide) ?_
    exact mq_retM hx hb hK hP hS hr rfl (by unfold s_plucks; first | omega | (rw [if_neg (by omega), if_neg (by omega)]; subst_vars; rw [mU_eq]; unfold s_plv; omega) | omega) (by unfold f_plucks; first | (rw [if_pos (by omega)]; done) | (rw [if_neg (by omega), if_pos (by omega)]; done) | (rw [if_neg (by omega), if_neg (by omega)]; subst_vars; congr 1; unfold s_plv; omega) | omega) dX8_plucks_20 hlocks
  · refine lv_iload_n hx hb dX8_plucks_9 rfl (lv_at hl 2 rfl) ?_
    refine lv_iconst (v := iZ 1) hx hb dX8_plucks_10 (by decide) ?_
    refine lv_bipush (v := iZ 9) hx hb dX8_plucks_11 (by decide) ?_
    refine mq_cs (As := [.int (iZ nn), .int (iZ 1), .int (iZ 9)]) (rest := []) ⟨hx, hb, hml, hown, hts⟩ (C_in l nn 1 9 (by omega) (by omega) (by omega)) (va_cwS 3 hts gX8_plucks_X8_in rfl rfl rfl (by decide +kernel) ⟨Nat.le_of_ble_eq_true rfl, Nat.le_of_ble_eq_true rfl⟩) rfl rfl hl.1 (Nat.le_of_ble_eq_true rfl) ⟨Nat.le_of_ble_eq_true rfl, Nat.le_of_ble_eq_true rfl⟩ dX8_plucks_13 ?_
    refine z_ifb_ne (P := (1 ≤ nn ∧ nn ≤ 9)) (tgt := 21) hx hb dX8_plucks_16 (by decide) (fun c2 => ?_) (fun c2 => ?_)
    · refine W.eq (g2 := F0 m 21 ls []) rfl ?_
      refine lv_aload_n hx hb dX8_plucks_21 rfl (lv_at hl 0 rfl) ?_
      refine mq_get hx hb hts hin hown hK hP 19 (by decide) (hts (.fieldLink RX8 44 "WordFletchersModel" "now" "[I") (List.mem_cons_of_mem _ (List.mem_append_left _ (List.mem_of_getElem? (i := 0) rfl)))) rfl dX8_plucks_22 ?_
      refine lv_iconst (v := iZ 2) hx hb dX8_plucks_25 (by decide) ?_
      refine lv_iload_n hx hb dX8_plucks_26 rfl (lv_at hl 1 rfl) ?_
      refine z_iadd hx hb dX8_plucks_27 ?_
      refine mq_iald hx hb hK hP 19 12 (n := 29) rfl (by decide) (Int.toNat (2 + fe)) rfl (by omega) dX8_plucks_28 ?_
      refine lv_bipush (v := iZ 20) hx hb dX8_plucks_29 (by decide) ?_
      refine z_icmp_ne (x := (M 19 (Int.toNat (2 + fe)))) (y := 20) (tgt := 37) hx hb (by omega) (by omega) dX8_plucks_31 (by decide) (fun c3 => ?_) (fun c3 => ?_)
      · refine lv_aload_n hx hb dX8_plucks_37 rfl (lv_at hl 0 rfl) ?_
        refine mq_cv (As := []) (rest := []) ⟨hx, hb, hml, hown, hts⟩ hK hP hD hS hA (C_know l D C h a M  hI (hD.weaken (fun _ _ _ _ => trivial))) (cwV 0 hts gX8_plucks_X8_know rfl rfl rfl (by decide +kernel) ⟨Nat.le_of_ble_eq_true rfl, Nat.le_of_ble_eq_true rfl⟩) rfl rfl hl.1 (Nat.le_of_ble_eq_true rfl) ⟨Nat.le_of_ble_eq_true rfl, Nat.le_of_ble_eq_true rfl⟩ dX8_plucks_38 (fun H locs hP hD hS => ?_)
        obtain ⟨M4, hM4⟩ : ∃ z : Nat → Nat → Int, z = (f_know M) := ⟨_, rfl⟩
        rw [← hM4] at hP hD
        have e1 : M4 19 = M 19 := by rw [hM4]; exact f_know_o M (by decide) (by decide)
        have k2 : M4 2 0 = M 2 0 := by rw [hM4, f_know_o M (by decide) (by decide)]
        have k5 : M4 5 0 = M 5 0 := by rw [hM4, f_know_o M (by decide) (by decide)]
        have e4 := congrFun e1 (Int.toNat (2 + fe))
        refine lv_aload_n hx hb dX8_plucks_41 rfl (lv_at hl 0 rfl) ?_
        refine mq_get hx hb hts hin hown hK hP 19 (by decide) (hts (.fieldLink RX8 44 "WordFletchersModel" "now" "[I") (List.mem_cons_of_mem _ (List.mem_append_left _ (List.mem_of_getElem? (i := 0) rfl)))) rfl dX8_plucks_42 ?_
        refine W.eq (g2 := F0 m 45 ls [.ref (a 19)]) rfl ?_
        refine lv_iconst (v := iZ 2) hx hb dX8_plucks_45 (by decide) ?_
        refine lv_iload_n hx hb dX8_plucks_46 rfl (lv_at hl 1 rfl) ?_
        refine z_iadd hx hb dX8_plucks_47 ?_
        refine mq_iald hx hb hK hP 19 12 (n := 29) rfl (by decide) (Int.toNat (2 + fe)) rfl (by omega) dX8_plucks_48 ?_
        refine lv_iload_n hx hb dX8_plucks_49 rfl (lv_at hl 2 rfl) ?_
        refine z_iadd hx hb dX8_plucks_50 ?_
        refine lv_istore_n (lv' := [(3, .int (iZ ((M4 19 (Int.toNat (2 + fe))) + nn))), (0, .ref h), (1, .int (iZ fe)), (2, .int (iZ nn))]) hx hb dX8_plucks_51 rfl hl (by decide) rfl (fun ls hl => ?_)
        refine lv_aload_n hx hb dX8_plucks_52 rfl (lv_at hl 1 rfl) ?_
        refine mq_get hx hb hts hin hown hK hP 19 (by decide) (hts (.fieldLink RX8 44 "WordFletchersModel" "now" "[I") (List.mem_cons_of_mem _ (List.mem_append_left _ (List.mem_of_getElem? (i := 0) rfl)))) rfl dX8_plucks_53 ?_
        refine lv_iconst (v := iZ 2) hx hb dX8_plucks_56 (by decide) ?_
        refine lv_iload_n hx hb dX8_plucks_57 rfl (lv_at hl 2 rfl) ?_
        refine z_iadd hx hb dX8_plucks_58 ?_
        refine W.eq (g2 := F0 m 59 ls [.int (iZ (2 + fe)), .ref (a 19)]) rfl ?_
        refine lv_iload_n hx hb dX8_plucks_59 rfl (lv_at hl 0 rfl) ?_
        refine lv_bipush (v := iZ 20) hx hb dX8_plucks_60 (by decide) ?_
        have K7 : ∀ (v6 : Int), (v6 = (if ((M4 19 (Int.toNat (2 + fe))) + nn) ≤ 20 then ((M4 19 (Int.toNat (2 + fe))) + nn) else 20)) → ∀ ls : Array Slot, lv_has ls 4 [(0, .ref h), (1, .int (iZ fe))] → W p l e ((headSpec wsX8_plucks ({ frames := 1, cells := 0, slots := 0, locals := 22 })).room) s m (([.ref h, .int (iZ fe), .int (iZ nn)] : List Value).toArray) below meth c H locs 0 0 (MQ below (va_Qi (fun r (_ : Unit) => r = iZ (s_plucks M fe nn)) (fun _ t => mOk D C h a (f_plucks M fe nn) t) (mA h a)) (([.ref h, .int (iZ fe), .int (iZ nn)] : List Value).toArray) s 0 0 (mA h a)) (F0 m 71 ls [.int (iZ v6), .int (iZ (2 + fe)), .ref (a 19)]) := by
          intro v6 hv6 ls hl
          refine mq_iast hx hb hK hP hD hS 19 12 (n := 29) rfl (fun k9 => mS_19 C h a _ k9 _) (by decide) (Int.toNat (2 + fe)) rfl (by omega) dX8_plucks_71 (fun H locs hP hD hS => ?_)
          obtain ⟨M8, hM8⟩ : ∃ z : Nat → Nat → Int, z = (mU M4 19 (Int.toNat (2 + fe)) v6) := ⟨_, rfl⟩
          rw [← hM8] at hP hD
          refine lv_aload_n hx hb dX8_plucks_72 rfl (lv_at hl 0 rfl) ?_
          refine mq_get hx hb hts hin hown hK hP 19 (by decide) (hts (.fieldLink RX8 44 "WordFletchersModel" "now" "[I") (List.mem_cons_of_mem _ (List.mem_append_left _ (List.mem_of_getElem? (i := 0) rfl)))) rfl dX8_plucks_73 ?_
          refine lv_iconst (v := iZ 2) hx hb dX8_plucks_76 (by decide) ?_
          refine lv_iload_n hx hb dX8_plucks_77 rfl (lv_at hl 1 rfl) ?_
          refine z_iadd hx hb dX8_plucks_78 ?_
          refine W.eq (g2 := F0 m 79 ls [.int (iZ (2 + fe)), .ref (a 19)]) rfl ?_
          refine mq_iald hx hb hK hP 19 12 (n := 29) rfl (by decide) (Int.toNat (2 + fe)) rfl (by omega) dX8_plucks_79 ?_
          exact mq_retM hx hb hK hP hS hr rfl (by unfold s_plucks; first | omega | (rw [if_neg (by omega), if_neg (by omega)]; subst_vars; rw [mU_eq]; unfold s_plv; omega) | omega) (by unfold f_plucks; first | (rw [if_pos (by omega)]; done) | (rw [if_neg (by omega), if_pos (by omega)]; done) | (rw [if_neg (by omega), if_neg (by omega)]; subst_vars; congr 1; unfold s_plv; omega) | omega) dX8_plucks_80 hlocks
        refine z_icmp_le (x := ((M4 19 (Int.toNat (2 + fe))) + nn)) (y := 20) (tgt := 70) hx hb (by omega) (by omega) dX8_plucks_62 (by decide) (fun c5 => ?_) (fun c5 => ?_)
        · refine lv_iload_n hx hb dX8_plucks_70 rfl (lv_at hl 0 rfl) ?_
          exact K7 ((M4 19 (Int.toNat (2 + fe))) + nn) (by first | rfl | (rw [if_pos c5]; done) | omega | (subst_vars; first | rfl | (rw [if_pos c5]; done) | omega)) ls (lv_sub hl [1, 2] rfl)
        · refine lv_bipush (v := iZ 20) hx hb dX8_plucks_65 (by decide) ?_
          refine lv_goto (tgt := 71) hx hb dX8_plucks_67 (by decide) ?_
          exact K7 20 (by first | rfl | (rw [if_neg c5]; done) | omega | (subst_vars; first | rfl | (rw [if_neg c5]; done) | omega)) ls (lv_sub hl [1, 2] rfl)
      · refine lv_bipush (v := iZ (-2)) hx hb dX8_plucks_34 (by decide) ?_
        exact mq_retM hx hb hK hP hS hr rfl (by unfold s_plucks; first | omega | (rw [if_neg (by omega), if_neg (by omega)]; subst_vars; rw [mU_eq]; unfold s_plv; omega) | omega) (by unfold f_plucks; first | (rw [if_pos (by omega)]; done) | (rw [if_neg (by omega), if_pos (by omega)]; done) | (rw [if_neg (by omega), if_neg (by omega)]; subst_vars; congr 1; unfold s_plv; omega) | omega) dX8_plucks_36 hlocks
    · refine lv_iconst (v := iZ (-1)) hx hb dX8_plucks_19 (by decide) ?_
      exact mq_retM hx hb hK hP hS hr rfl (by unfold s_plucks; first | omega | (rw [if_neg (by omega), if_neg (by omega)]; subst_vars; rw [mU_eq]; unfold s_plv; omega) | omega) (by unfold f_plucks; first | (rw [if_pos (by omega)]; done) | (rw [if_neg (by omega), if_pos (by omega)]; done) | (rw [if_neg (by omega), if_neg (by omega)]; subst_vars; congr 1; unfold s_plv; omega) | omega) dX8_plucks_20 hlocks
set_option maxHeartbeats 4000000 in
set_option maxRecDepth 100000 in
theorem C_undo (l : Launch) (D : va_G) (C : mC) (h : Nat) (a : Nat → Nat) (M : Nat → Nat → Int) (hI : mI M) (hN : va_D (fun _ => True) (mW C h a M)) : Met l yX8_undo wsX8_undo ({ frames := 0, cells := 0, slots := 0, locals := 0 }) (va_Pc [.ref h] (mOk D C h a M)) (va_Qi (fun r (_ : Unit) => r = iZ (s_undo M)) (fun _ t => mOk D C h a (f_undo M) t) (mA h a)) 0 0 (mA h a) := by
  refine Met.ofW (cc := cX8_undo) (maxL := 2) (ret := (some .int)) (by decide) rfl ?_
  intro p e s m args below meth c s₁ B hml hv
  obtain ⟨rfl, hP, hK⟩ := hv
  have hx := B.exec
  have hb := B.bytes
  have hr := B.returns
  have hts := atoms_spec (ws := wsX8_undo) B.pre
  have hown : s.vm.findClass RX8 = some m.cls := findClass_of_methodNamed B.named
  have hlocks := B.notSynchronized
  have hin : ∀ w ∈ wsX80, w ∈ wsX8_undo := fun _ w_h => (List.mem_cons_of_mem _ (List.mem_append_right _ w_h))
  have hl := lv_entry ([.ref h]) (n := 2) (Nat.le_of_ble_eq_true rfl)
  rw [lg_entry_eq]
  generalize (lg_sl ([.ref h]) ++ List.replicate (2 - (lg_sl ([.ref h])).length) Slot.unset).toArray = ls at hl ⊢
  replace hl : lv_has ls 2 [(0, .ref h)] := hl
  have hD : va_D (mA h a) (mW C h a M) := mD_own hN
  have hA : ∀ q, mA h a q → mA h a q := fun _ h9 => h9
  generalize hHe : s.heap = H at hP ⊢
  have hS : va_S (mA h a) s.heap H [] := by rw [hHe]; exact va_S.rf
  generalize hlo : ([] : List Loc) = locs at hS ⊢
  clear hHe hlo
  have hnw := mI_now hI
  refine lv_aload_n hx hb dX8_undo_0 rfl (lv_at hl 0 rfl) ?_
  refine mq_get hx hb hts hin hown hK hP 20 (by decide) (hts (.fieldLink RX8 47 "WordFletchersModel" "known" "[I") (List.mem_cons_of_mem _ (List.mem_append_left _ (List.mem_of_getElem? (i := 0) rfl)))) rfl dX8_undo_1 ?_
  refine lv_iconst (v := iZ 0) hx hb dX8_undo_4 (by decide) ?_
  refine mq_iald hx hb hK hP 20 13 (n := 3) rfl (by decide) 0 rfl (by omega) dX8_undo_5 ?_
  refine z_if_ne (x := (M 20 0)) (tgt := 12) hx hb (by omega) dX8_undo_6 (by decide) (fun c1 => ?_) (fun c1 => ?_)
  · refine lv_aload_n hx hb dX8_undo_12 rfl (lv_at hl 0 rfl) ?_
    refine W.eq (g2 := F0 m 13 ls [.ref h]) rfl ?_
    refine mq_get hx hb hts hin hown hK hP 20 (by decide) (hts (.fieldLink RX8 47 "WordFletchersModel" "known" "[I") (List.mem_cons_of_mem _ (List.mem_append_left _ (List.mem_of_getElem? (i := 0) rfl)))) rfl dX8_undo_13 ?_
    refine lv_iconst (v := iZ 0) hx hb dX8_undo_16 (by decide) ?_
    refine lv_dup2_11 hx hb dX8_undo_17 rfl rfl ?_
    refine mq_iald hx hb hK hP 20 13 (n := 3) rfl (by decide) 0 rfl (by omega) dX8_undo_18 ?_
    refine lv_iconst (v := iZ 1) hx hb dX8_undo_19 (by decide) ?_
    refine z_isub hx hb dX8_undo_20 ?_
    refine mq_iast hx hb hK hP hD hS 20 13 (n := 3) rfl (fun k9 => mS_20 C h a _ k9 _) (by decide) 0 rfl (by omega) dX8_undo_21 (fun H locs hP hD hS => ?_)
    obtain ⟨M2, hM2⟩ : ∃ z : Nat → Nat → Int, z = (mU M 20 0 ((M 20 0) - 1)) := ⟨_, rfl⟩
    rw [← hM2] at hP hD
    have e4 : M2 20 0 = M 20 0 - 1 := by rw [hM2]; rfl
    refine lv_iconst (v := iZ 0) hx hb dX8_undo_22 (by decide) ?_
    refine lv_istore_n (lv' := [(1, .int (iZ 0)), (0, .ref h)]) hx hb dX8_undo_23 rfl hl (by decide) rfl (fun ls hl => ?_)
    replace hl : lv_has ls 2 [(1, .int (iZ (0 : Int))), (0, .ref h)] := lv_sub hl [0, 1] rfl
    replace hP := And.intro hP hS
    clear hS
    revert ls
    revert hP
    revert H locs
    refine z_loopH (σ := (Nat → Nat → Int) × Int) (fun x9 => (0 ≤ x9.2 ∧ x9.2 ≤ 29) ∧ (x9.1 = f_blk M2 19 21 (0) (29 * (M 20 0 - 1).toNat) (Int.toNat x9.2))) (fun x9 H9 locs9 => va_P D vwCl (mW C h a (x9.1)) H9 ∧ va_S (mA h a) s.heap H9 locs9) (fun x9 => [(1, .int (iZ (x9.2))), (0, .ref h)]) 2 (fun x9 => (29 - x9.2).toNat) (M2, (0 : Int)) ⟨(by show 0 ≤ (0 : Int) ∧ (0 : Int) ≤ 29; omega), (by show M2 = f_blk M2 19 21 (0) (29 * (M 20 0 - 1).toNat) (Int.toNat (0 : Int)); exact (f_blk_0 _ _ _ _ _).symm)⟩ ?_
    rintro ⟨Mb, kk⟩ hI9 ih24 H locs hPS ls hl
    have hP : va_P D vwCl (mW C h a Mb) H := hPS.1
    have hS : va_S (mA h a) s.heap H locs := hPS.2
    clear hPS
    have hD : va_D (mA h a) (mW C h a Mb) := mD_re hD
    obtain ⟨kba, kbb⟩ := hI9
    replace kba : 0 ≤ kk ∧ kk ≤ 29 := kba
    replace kbb : Mb = f_blk M2 19 21 (0) (29 * (M 20 0 - 1).toNat) (Int.toNat kk) := kbb
    replace hl : lv_has ls 2 [(1, .int (iZ kk)), (0, .ref h)] := hl
    have e5 : Mb 20 0 = M 20 0 - 1 := by rw [kbb]; exact e4
    refine lv_iload_n hx hb dX8_undo_24 rfl (lv_at hl 0 rfl) ?_
    refine lv_bipush (v := iZ 29) hx hb dX8_undo_25 (by decide) ?_
    refine z_icmp_ge (x := kk) (y := 29) (tgt := 58) hx hb (by omega) (by omega) dX8_undo_27 (by decide) (fun c3 => ?_) (fun c3 => ?_)
    · refine lv_aload_n hx hb dX8_undo_58 rfl (lv_at hl 1 rfl) ?_
      refine mq_get hx hb hts hin hown hK hP 20 (by decide) (hts (.fieldLink RX8 47 "WordFletchersModel" "known" "[I") (List.mem_cons_of_mem _ (List.mem_append_left _ (List.mem_of_getElem? (i := 0) rfl)))) rfl dX8_undo_59 ?_
      refine lv_iconst (v := iZ 0) hx hb dX8_undo_62 (by decide) ?_
      refine mq_iald hx hb hK hP 20 13 (n := 3) rfl (by decide) 0 rfl (by omega) dX8_undo_63 ?_
      exact mq_retM hx hb hK hP hS hr rfl (by unfold s_undo; omega) (by first | (unfold f_undo; rw [if_pos (by omega)]; done) | (have q : kk = 29 := (by omega); subst q; subst_vars; unfold f_undo; rw [if_neg (by omega)]; rfl) | omega) dX8_undo_64 hlocks
    · refine lv_aload_n hx hb dX8_undo_30 rfl (lv_at hl 1 rfl) ?_
      refine mq_get hx hb hts hin hown hK hP 19 (by decide) (hts (.fieldLink RX8 44 "WordFletchersModel" "now" "[I") (List.mem_cons_of_mem _ (List.mem_append_left _ (List.mem_of_getElem? (i := 1) rfl)))) rfl dX8_undo_31 ?_
      refine W.eq (g2 := F0 m 34 ls [.ref (a 19)]) rfl ?_
      refine lv_iload_n hx hb dX8_undo_34 rfl (lv_at hl 0 rfl) ?_
      refine lv_aload_n hx hb dX8_undo_35 rfl (lv_at hl 1 rfl) ?_
      refine mq_get hx hb hts hin hown hK hP 21 (by decide) (hts (.fieldLink RX8 50 "WordFletchersModel" "before" "[I") (List.mem_cons_of_mem _ (List.mem_append_left _ (List.mem_of_getElem? (i := 2) rfl)))) rfl dX8_undo_36 ?_
      refine lv_bipush (v := iZ 29) hx hb dX8_undo_39 (by decide) ?_
      refine lv_aload_n hx hb dX8_undo_41 rfl (lv_at hl 1 rfl) ?_
      refine mq_get hx hb hts hin hown hK hP 20 (by decide) (hts (.fieldLink RX8 47 "WordFletchersModel" "known" "[I") (List.mem_cons_of_mem _ (List.mem_append_left _ (List.mem_of_getElem? (i := 0) rfl)))) rfl dX8_undo_42 ?_
      refine lv_iconst (v := iZ 0) hx hb dX8_undo_45 (by decide) ?_
      refine mq_iald hx hb hK hP 20 13 (n := 3) rfl (by decide) 0 rfl (by omega) dX8_undo_46 ?_
      refine z_imul hx hb dX8_undo_47 ?_
      refine lv_iload_n hx hb dX8_undo_48 rfl (lv_at hl 0 rfl) ?_
      refine z_iadd hx hb dX8_undo_49 ?_
      refine mq_iald hx hb hK hP 21 14 (n := 870) rfl (by decide) (Int.toNat ((29 * (Mb 20 0)) + kk)) rfl (by omega) dX8_undo_50 ?_
      refine W.eq (g2 := F0 m 51 ls [.int (iZ (Mb 21 (Int.toNat ((29 * (Mb 20 0)) + kk)))), .int (iZ kk), .ref (a 19)]) rfl ?_
      refine mq_iast hx hb hK hP hD hS 19 12 (n := 29) rfl (fun k9 => mS_19 C h a _ k9 _) (by decide) (Int.toNat kk) rfl (by omega) dX8_undo_51 (fun H locs hP hD hS => ?_)
      obtain ⟨M5, hM5⟩ : ∃ z : Nat → Nat → Int, z = (mU Mb 19 (Int.toNat kk) (Mb 21 (Int.toNat ((29 * (Mb 20 0)) + kk)))) := ⟨_, rfl⟩
      rw [← hM5] at hP hD
      refine lv_iinc (v := iZ (kk + 1)) (lv' := [(1, .int (iZ (kk + 1))), (0, .ref h)]) hx hb dX8_undo_52 hl (k := 0) rfl (iZ_add _ _) (by decide) rfl (fun ls hl => ?_)
      refine lv_goto (tgt := 24) hx hb dX8_undo_55 (by decide) ?_
      exact ih24 (M5, (kk + 1)) ⟨(by show 0 ≤ (kk + 1) ∧ (kk + 1) ≤ 29; omega), (by show M5 = f_blk M2 19 21 (0) (29 * (M 20 0 - 1).toNat) (Int.toNat (kk + 1)); rw [f_blk_step _ _ _ _ _ (by omega), ← kbb]; have q9 : Int.toNat (kk) = (0) + Int.toNat kk := (by omega); have q7 : Int.toNat (29 * Mb 20 0 + kk) = (29 * (M 20 0 - 1).toNat) + Int.toNat kk := (by omega); have q8 : Mb 21 (Int.toNat (29 * Mb 20 0 + kk)) = M2 21 ((29 * (M 20 0 - 1).toNat) + Int.toNat kk) := (by have r9 := f_blk_rd (M := M2) (F := 19) (G := 21) (d := 0) (s := 29 * (M 20 0 - 1).toNat) (k := Int.toNat kk) (i := Int.toNat kk) (by omega); rw [← kbb] at r9; exact (congrArg (Mb 21) q7).trans r9); rw [← q9, ← q8]; assumption)⟩ (by show (29 - (kk + 1)).toNat < (29 - kk).toNat; omega) H locs ⟨hP, hS⟩ ls (lv_sub hl [0, 1] rfl)
  · refine lv_bipush (v := iZ (-2)) hx hb dX8_undo_9 (by decide) ?_
    exact mq_retM hx hb hK hP hS hr rfl (by unfold s_undo; omega) (by first | (unfold f_undo; rw [if_pos (by omega)]; done) | (have q : kk = 29 := (by omega); subst q; subst_vars; unfold f_undo; rw [if_neg (by omega)]; rfl) | omega) dX8_undo_11 hlocks
set_option maxHeartbeats 4000000 in
set_option maxRecDepth 100000 in
theorem C_keep (l : Launch) (D : va_G) (C : mC) (h : Nat) (a : Nat → Nat) (M : Nat → Nat → Int) (im : Int) (hI : mI M) (h1 : -2147483648 ≤ im ∧ im < 2147483648) (hN : va_D (fun _ => True) (mW C h a M)) : Met l yX8_keep wsX8_keep ({ frames := 1, cells := 0, slots := 0, locals := 22 }) (va_Pc [.ref h, .int (iZ im)] (mOk D C h a M)) (va_Qi (fun r (_ : Unit) => r = iZ (s_keep M im)) (fun _ t => mOk D C h a (f_keep M im) t) (mA h a)) 0 0 (mA h a) := by
  refine Met.ofW (cc := cX8_keep) (maxL := 3) (ret := (some .int)) (by decide) rfl ?_
  intro p e s m args below meth c s₁ B hml hv
  obtain ⟨rfl, hP, hK⟩ := hv
  have hx := B.exec
  have hb := B.bytes
  have hr := B.returns
  have hts := atoms_spec (ws := wsX8_keep) B.pre
  have hown : s.vm.findClass RX8 = some m.cls := findClass_of_methodNamed B.named
  have hlocks := B.notSynchronized
  have hin : ∀ w ∈ wsX80, w ∈ wsX8_keep := fun _ w_h => (List.mem_cons_of_mem _ (List.mem_append_right _ w_h))
  have hl := lv_entry ([.ref h, .int (iZ im)]) (n := 3) (Nat.le_of_ble_eq_true rfl)
  rw [lg_entry_eq]
  generalize (lg_sl ([.ref h, .int (iZ im)]) ++ List.replicate (3 - (lg_sl ([.ref h, .int (iZ im)])).length) Slot.unset).toArray = ls at hl ⊢
  replace hl : lv_has ls 3 [(0, .ref h), (1, .int (iZ im))] := hl
  have hD : va_D (mA h a) (mW C h a M) := mD_own hN
  have hA : ∀ q, mA h a q → mA h a q := fun _ h9 => h9
  generalize hHe : s.heap = H at hP ⊢
  have hS : va_S (mA h a) s.heap H [] := by rw [hHe]; exact va_S.rf
  generalize hlo : ([] : List Loc) = locs at hS ⊢
  clear hHe hlo
  have hnw := mI_now hI
  refine lv_iload_n hx hb dX8_keep_0 rfl (lv_at hl 1 rfl) ?_
  refine lv_iconst (v := iZ 0) hx hb dX8_keep_1 (by decide) ?_
  refine lv_iconst (v := iZ 1) hx hb dX8_keep_2 (by decide) ?_
  refine mq_cs (As := [.int (iZ im), .int (iZ 0), .int (iZ 1)]) (rest := []) ⟨hx, hb, hml, hown, hts⟩ (C_in l im 0 1 (by omega) (by omega) (by omega)) (va_cwS 3 hts gX8_keep_X8_in rfl rfl rfl (by decide +kernel) ⟨Nat.le_of_ble_eq_true rfl, Nat.le_of_ble_eq_true rfl⟩) rfl rfl hl.1 (Nat.le_of_ble_eq_true rfl) ⟨Nat.le_of_ble_eq_true rfl, Nat.le_of_ble_eq_true rfl⟩ dX8_keep_3 ?_
  refine z_ifb_ne (P := (0 ≤ im ∧ im ≤ 1)) (tgt := 11) hx hb dX8_keep_6 (by decide) (fun c1 => ?_) (fun c1 => ?_)
  · refine lv_iconst (v := iZ 0) hx hb dX8_keep_11 (by decide) ?_
    refine lv_istore_n (lv' := [(2, .int (iZ 0)), (0, .ref h), (1, .int (iZ im))]) hx hb dX8_keep_12 rfl hl (by decide) rfl (fun ls hl => ?_)
    replace hl : lv_has ls 3 [(2, .int (iZ (0 : Int))), (0, .ref h), (1, .int (iZ im))] := lv_sub hl [0, 1, 2] rfl
    replace hP := And.intro hP hS
    clear hS
    revert ls
    revert hP
    revert H locs
    refine z_loopH (σ := (Nat → Nat → Int) × Int) (fun x9 => (0 ≤ x9.2 ∧ x9.2 ≤ 29) ∧ (x9.1 = f_blk M 22 19 (Int.toNat (29 * im)) (0) (Int.toNat x9.2))) (fun x9 H9 locs9 => va_P D vwCl (mW C h a (x9.1)) H9 ∧ va_S (mA h a) s.heap H9 locs9) (fun x9 => [(2, .int (iZ (x9.2))), (0, .ref h), (1, .int (iZ im))]) 3 (fun x9 => (29 - x9.2).toNat) (M, (0 : Int)) ⟨(by show 0 ≤ (0 : Int) ∧ (0 : Int) ≤ 29; omega), (by show M = f_blk M 22 19 (Int.toNat (29 * im)) (0) (Int.toNat (0 : Int)); exact (f_blk_0 _ _ _ _ _).symm)⟩ ?_
    rintro ⟨Ma, kk⟩ hI9 ih13 H locs hPS ls hl
    have hP : va_P D vwCl (mW C h a Ma) H := hPS.1
    have hS : va_S (mA h a) s.heap H locs := hPS.2
    clear hPS
    have hD : va_D (mA h a) (mW C h a Ma) := mD_re hD
    obtain ⟨kaa, kab⟩ := hI9
    replace kaa : 0 ≤ kk ∧ kk ≤ 29 := kaa
    replace kab : Ma = f_blk M 22 19 (Int.toNat (29 * im)) (0) (Int.toNat kk) := kab
    replace hl : lv_has ls 3 [(2, .int (iZ kk)), (0, .ref h), (1, .int (iZ im))] := hl
    refine W.eq (g2 := F0 m 13 ls []) rfl ?_
    refine lv_iload_n hx hb dX8_keep_13 rfl (lv_at hl 0 rfl) ?_
    refine lv_bipush (v := iZ 29) hx hb dX8_keep_14 (by decide) ?_
    refine z_icmp_ge (x := kk) (y := 29) (tgt := 42) hx hb (by omega) (by omega) dX8_keep_16 (by decide) (fun c2 => ?_) (fun c2 => ?_)
    · refine lv_iconst (v := iZ 0) hx hb dX8_keep_42 (by decide) ?_
      refine lv_istore_n (lv' := [(2, .int (iZ 0)), (0, .ref h), (1, .int (iZ im))]) hx hb dX8_keep_43 rfl hl (by decide) rfl (fun ls hl => ?_)
      replace hl : lv_has ls 3 [(2, .int (iZ (0 : Int))), (0, .ref h), (1, .int (iZ im))] := lv_sub hl [0, 1, 2] rfl
      replace hP := And.intro hP hS
      clear hS
      revert ls
      revert hP
      revert H locs
      refine z_loopH (σ := (Nat → Nat → Int) × Int) (fun x9 => (0 ≤ x9.2 ∧ x9.2 ≤ 290) ∧ (x9.1 = f_blk Ma 21 21 (Int.toNat (290 * (1 + im))) (0) (Int.toNat x9.2))) (fun x9 H9 locs9 => va_P D vwCl (mW C h a (x9.1)) H9 ∧ va_S (mA h a) s.heap H9 locs9) (fun x9 => [(2, .int (iZ (x9.2))), (0, .ref h), (1, .int (iZ im))]) 3 (fun x9 => (290 - x9.2).toNat) (Ma, (0 : Int)) ⟨(by show 0 ≤ (0 : Int) ∧ (0 : Int) ≤ 290; omega), (by show Ma = f_blk Ma 21 21 (Int.toNat (290 * (1 + im))) (0) (Int.toNat (0 : Int)); exact (f_blk_0 _ _ _ _ _).symm)⟩ ?_
      rintro ⟨Mb, kk2⟩ hI9 ih44 H locs hPS ls hl
      have hP : va_P D vwCl (mW C h a Mb) H := hPS.1
      have hS : va_S (mA h a) s.heap H locs := hPS.2
      clear hPS
      have hD : va_D (mA h a) (mW C h a Mb) := mD_re hD
      obtain ⟨kba, kbb⟩ := hI9
      replace kba : 0 ≤ kk2 ∧ kk2 ≤ 290 := kba
      replace kbb : Mb = f_blk Ma 21 21 (Int.toNat (290 * (1 + im))) (0) (Int.toNat kk2) := kbb
      replace hl : lv_has ls 3 [(2, .int (iZ kk2)), (0, .ref h), (1, .int (iZ im))] := hl
      refine lv_iload_n hx hb dX8_keep_44 rfl (lv_at hl 0 rfl) ?_
      refine lv_sipush (v := iZ 290) hx hb dX8_keep_45 (by decide) ?_
      refine z_icmp_ge (x := kk2) (y := 290) (tgt := 77) hx hb (by omega) (by omega) dX8_keep_48 (by decide) (fun c4 => ?_) (fun c4 => ?_)
      · refine lv_aload_n hx hb dX8_keep_77 rfl (lv_at hl 1 rfl) ?_
        refine mq_get hx hb hts hin hown hK hP 20 (by decide) (hts (.fieldLink RX8 47 "WordFletchersModel" "known" "[I") (List.mem_cons_of_mem _ (List.mem_append_left _ (List.mem_of_getElem? (i := 3) rfl)))) rfl dX8_keep_78 ?_
        refine lv_iconst (v := iZ 1) hx hb dX8_keep_81 (by decide) ?_
        refine lv_iload_n hx hb dX8_keep_82 rfl (lv_at hl 2 rfl) ?_
        refine z_iadd hx hb dX8_keep_83 ?_
        refine lv_aload_n hx hb dX8_keep_84 rfl (lv_at hl 1 rfl) ?_
        refine mq_get hx hb hts hin hown hK hP 20 (by decide) (hts (.fieldLink RX8 47 "WordFletchersModel" "known" "[I") (List.mem_cons_of_mem _ (List.mem_append_left _ (List.mem_of_getElem? (i := 3) rfl)))) rfl dX8_keep_85 ?_
        refine lv_iconst (v := iZ 0) hx hb dX8_keep_88 (by decide) ?_
        refine mq_iald hx hb hK hP 20 13 (n := 3) rfl (by decide) 0 rfl (by omega) dX8_keep_89 ?_
        refine mq_iast hx hb hK hP hD hS 20 13 (n := 3) rfl (fun k9 => mS_20 C h a _ k9 _) (by decide) (Int.toNat (1 + im)) rfl (by omega) dX8_keep_90 (fun H locs hP hD hS => ?_)
        obtain ⟨M6, hM6⟩ : ∃ z : Nat → Nat → Int, z = (mU Mb 20 (Int.toNat (1 + im)) (Mb 20 0)) := ⟨_, rfl⟩
        rw [← hM6] at hP hD
        refine W.eq (g2 := F0 m 91 ls []) rfl ?_
        refine lv_aload_n hx hb dX8_keep_91 rfl (lv_at hl 1 rfl) ?_
        refine mq_get hx hb hts hin hown hK hP 23 (by decide) (hts (.fieldLink RX8 56 "WordFletchersModel" "isKept" "[Z") (List.mem_cons_of_mem _ (List.mem_append_left _ (List.mem_of_getElem? (i := 4) rfl)))) rfl dX8_keep_92 ?_
        refine lv_iload_n hx hb dX8_keep_95 rfl (lv_at hl 2 rfl) ?_
        refine lv_iconst (v := iZ 1) hx hb dX8_keep_96 (by decide) ?_
        refine mq_zast hx hb hK hP hD hS 23 16 (n := 2) rfl (fun k9 => mS_23 C h a _ k9 _) (by decide) (Int.toNat im) rfl (by omega) (by rfl) dX8_keep_97 (fun H locs hP hD hS => ?_)
        obtain ⟨M7, hM7⟩ : ∃ z : Nat → Nat → Int, z = (mU M6 23 (Int.toNat im) 1) := ⟨_, rfl⟩
        rw [← hM7] at hP hD
        refine lv_aload_n hx hb dX8_keep_98 rfl (lv_at hl 1 rfl) ?_
        refine mq_get hx hb hts hin hown hK hP 19 (by decide) (hts (.fieldLink RX8 44 "WordFletchersModel" "now" "[I") (List.mem_cons_of_mem _ (List.mem_append_left _ (List.mem_of_getElem? (i := 1) rfl)))) rfl dX8_keep_99 ?_
        refine lv_iconst (v := iZ 0) hx hb dX8_keep_102 (by decide) ?_
        refine mq_iald hx hb hK hP 19 12 (n := 29) rfl (by decide) 0 rfl (by omega) dX8_keep_103 ?_
        exact mq_retM hx hb hK hP hS hr rfl (by unfold s_keep; first | omega | (subst_vars; rw [if_neg (by omega)]; rfl) | omega) (by first | (unfold f_keep; rw [if_pos (by omega)]; done) | (have q : kk = 29 := (by omega); have q2 : kk2 = 290 := (by omega); subst q q2; subst_vars; unfold f_keep; rw [if_neg (by omega)]; rfl) | omega) dX8_keep_104 hlocks
      · refine lv_aload_n hx hb dX8_keep_51 rfl (lv_at hl 1 rfl) ?_
        refine mq_get hx hb hts hin hown hK hP 21 (by decide) (hts (.fieldLink RX8 50 "WordFletchersModel" "before" "[I") (List.mem_cons_of_mem _ (List.mem_append_left _ (List.mem_of_getElem? (i := 2) rfl)))) rfl dX8_keep_52 ?_
        refine W.eq (g2 := F0 m 55 ls [.ref (a 21)]) rfl ?_
        refine lv_sipush (v := iZ 290) hx hb dX8_keep_55 (by decide) ?_
        refine lv_iconst (v := iZ 1) hx hb dX8_keep_58 (by decide) ?_
        refine lv_iload_n hx hb dX8_keep_59 rfl (lv_at hl 2 rfl) ?_
        refine z_iadd hx hb dX8_keep_60 ?_
        refine z_imul hx hb dX8_keep_61 ?_
        refine lv_iload_n hx hb dX8_keep_62 rfl (lv_at hl 0 rfl) ?_
        refine z_iadd hx hb dX8_keep_63 ?_
        refine lv_aload_n hx hb dX8_keep_64 rfl (lv_at hl 1 rfl) ?_
        refine mq_get hx hb hts hin hown hK hP 21 (by decide) (hts (.fieldLink RX8 50 "WordFletchersModel" "before" "[I") (List.mem_cons_of_mem _ (List.mem_append_left _ (List.mem_of_getElem? (i := 2) rfl)))) rfl dX8_keep_65 ?_
        refine lv_iload_n hx hb dX8_keep_68 rfl (lv_at hl 0 rfl) ?_
        refine mq_iald hx hb hK hP 21 14 (n := 870) rfl (by decide) (Int.toNat kk2) rfl (by omega) dX8_keep_69 ?_
        refine mq_iast hx hb hK hP hD hS 21 14 (n := 870) rfl (fun k9 => mS_21 C h a _ k9 _) (by decide) (Int.toNat ((290 * (1 + im)) + kk2)) rfl (by omega) dX8_keep_70 (fun H locs hP hD hS => ?_)
        obtain ⟨M8, hM8⟩ : ∃ z : Nat → Nat → Int, z = (mU Mb 21 (Int.toNat ((290 * (1 + im)) + kk2)) (Mb 21 (Int.toNat kk2))) := ⟨_, rfl⟩
        rw [← hM8] at hP hD
        refine W.eq (g2 := F0 m 71 ls []) rfl ?_
        refine lv_iinc (v := iZ (kk2 + 1)) (lv' := [(2, .int (iZ (kk2 + 1))), (0, .ref h), (1, .int (iZ im))]) hx hb dX8_keep_71 hl (k := 0) rfl (iZ_add _ _) (by decide) rfl (fun ls hl => ?_)
        refine lv_goto (tgt := 44) hx hb dX8_keep_74 (by decide) ?_
        exact ih44 (M8, (kk2 + 1)) ⟨(by show 0 ≤ (kk2 + 1) ∧ (kk2 + 1) ≤ 290; omega), (by show M8 = f_blk Ma 21 21 (Int.toNat (290 * (1 + im))) (0) (Int.toNat (kk2 + 1)); rw [f_blk_step _ _ _ _ _ (by omega), ← kbb]; have q9 : Int.toNat (290 * (1 + im) + kk2) = (Int.toNat (290 * (1 + im))) + Int.toNat kk2 := (by omega); have q7 : Int.toNat (kk2) = (0) + Int.toNat kk2 := (by omega); have q8 : Mb 21 (Int.toNat (kk2)) = Ma 21 ((0) + Int.toNat kk2) := (by have r9 := f_blk_rd (M := Ma) (F := 21) (G := 21) (d := Int.toNat (290 * (1 + im))) (s := 0) (k := Int.toNat kk2) (i := Int.toNat kk2) (by omega); rw [← kbb] at r9; exact (congrArg (Mb 21) q7).trans r9); rw [← q9, ← q8]; assumption)⟩ (by show (290 - (kk2 + 1)).toNat < (290 - kk2).toNat; omega) H locs ⟨hP, hS⟩ ls (lv_sub hl [0, 1, 2] rfl)
    · refine lv_aload_n hx hb dX8_keep_19 rfl (lv_at hl 1 rfl) ?_
      refine mq_get hx hb hts hin hown hK hP 22 (by decide) (hts (.fieldLink RX8 53 "WordFletchersModel" "store" "[I") (List.mem_cons_of_mem _ (List.mem_append_left _ (List.mem_of_getElem? (i := 0) rfl)))) rfl dX8_keep_20 ?_
      refine lv_bipush (v := iZ 29) hx hb dX8_keep_23 (by decide) ?_
      refine lv_iload_n hx hb dX8_keep_25 rfl (lv_at hl 2 rfl) ?_
      refine z_imul hx hb dX8_keep_26 ?_
      refine lv_iload_n hx hb dX8_keep_27 rfl (lv_at hl 0 rfl) ?_
      refine z_iadd hx hb dX8_keep_28 ?_
      refine lv_aload_n hx hb dX8_keep_29 rfl (lv_at hl 1 rfl) ?_
      refine mq_get hx hb hts hin hown hK hP 19 (by decide) (hts (.fieldLink RX8 44 "WordFletchersModel" "now" "[I") (List.mem_cons_of_mem _ (List.mem_append_left _ (List.mem_of_getElem? (i := 1) rfl)))) rfl dX8_keep_30 ?_
      refine lv_iload_n hx hb dX8_keep_33 rfl (lv_at hl 0 rfl) ?_
      refine W.eq (g2 := F0 m 34 ls [.int (iZ kk), .ref (a 19), .int (iZ ((29 * im) + kk)), .ref (a 22)]) rfl ?_
      refine mq_iald hx hb hK hP 19 12 (n := 29) rfl (by decide) (Int.toNat kk) rfl (by omega) dX8_keep_34 ?_
      refine mq_iast hx hb hK hP hD hS 22 15 (n := 58) rfl (fun k9 => mS_22 C h a _ k9 _) (by decide) (Int.toNat ((29 * im) + kk)) rfl (by omega) dX8_keep_35 (fun H locs hP hD hS => ?_)
      obtain ⟨M9, hM9⟩ : ∃ z : Nat → Nat → Int, z = (mU Ma 22 (Int.toNat ((29 * im) + kk)) (Ma 19 (Int.toNat kk))) := ⟨_, rfl⟩
      rw [← hM9] at hP hD
      refine lv_iinc (v := iZ (kk + 1)) (lv' := [(2, .int (iZ (kk + 1))), (0, .ref h), (1, .int (iZ im))]) hx hb dX8_keep_36 hl (k := 0) rfl (iZ_add _ _) (by decide) rfl (fun ls hl => ?_)
      refine lv_goto (tgt := 13) hx hb dX8_keep_39 (by decide) ?_
      exact ih13 (M9, (kk + 1)) ⟨(by show 0 ≤ (kk + 1) ∧ (kk + 1) ≤ 29; omega), (by show M9 = f_blk M 22 19 (Int.toNat (29 * im)) (0) (Int.toNat (kk + 1)); rw [f_blk_step _ _ _ _ _ (by omega), ← kab]; have q9 : Int.toNat (29 * im + kk) = (Int.toNat (29 * im)) + Int.toNat kk := (by omega); have q7 : Int.toNat (kk) = (0) + Int.toNat kk := (by omega); have q8 : Ma 19 (Int.toNat (kk)) = M 19 ((0) + Int.toNat kk) := (by have r9 := f_blk_rd (M := M) (F := 22) (G := 19) (d := Int.toNat (29 * im)) (s := 0) (k := Int.toNat kk) (i := Int.toNat kk) (by omega); rw [← kab] at r9; exact (congrArg (Ma 19) q7).trans r9); rw [← q9, ← q8]; assumption)⟩ (by show (29 - (kk + 1)).toNat < (29 - kk).toNat; omega) H locs ⟨hP, hS⟩ ls (lv_sub hl [0, 1, 2] rfl)
  · refine lv_iconst (v := iZ (-1)) hx hb dX8_keep_9 (by decide) ?_
    exact mq_retM hx hb hK hP hS hr rfl (by unfold s_keep; first | omega | (subst_vars; rw [if_neg (by omega)]; rfl) | omega) (by first | (unfold f_keep; rw [if_pos (by omega)]; done) | (have q : kk = 29 := (by omega); have q2 : kk2 = 290 := (by omega); subst q q2; subst_vars; unfold f_keep; rw [if_neg (by omega)]; rfl) | omega) dX8_keep_10 hlocks
set_option maxHeartbeats 4000000 in
set_option maxRecDepth 100000 in
theorem C_back (l : Launch) (D : va_G) (C : mC) (h : Nat) (a : Nat → Nat) (M : Nat → Nat → Int) (im : Int) (hI : mI M) (h1 : -2147483648 ≤ im ∧ im < 2147483648) (hN : va_D (fun _ => True) (mW C h a M)) : Met l yX8_back wsX8_back ({ frames := 1, cells := 0, slots := 0, locals := 22 }) (va_Pc [.ref h, .int (iZ im)] (mOk D C h a M)) (va_Qi (fun r (_ : Unit) => r = iZ (s_back M im)) (fun _ t => mOk D C h a (f_back M im) t) (mA h a)) 0 0 (mA h a) := by
  refine Met.ofW (cc := cX8_back) (maxL := 3) (ret := (some .int)) (by decide) rfl ?_
  intro p e s m args below meth c s₁ B hml hv
  obtain ⟨rfl, hP, hK⟩ := hv
  have hx := B.exec
  have hb := B.bytes
  have hr := B.returns
  have hts := atoms_spec (ws := wsX8_back) B.pre
  have hown : s.vm.findClass RX8 = some m.cls := findClass_of_methodNamed B.named
  have hlocks := B.notSynchronized
  have hin : ∀ w ∈ wsX80, w ∈ wsX8_back := fun _ w_h => (List.mem_cons_of_mem _ (List.mem_append_right _ w_h))
  have hl := lv_entry ([.ref h, .int (iZ im)]) (n := 3) (Nat.le_of_ble_eq_true rfl)
  rw [lg_entry_eq]
  generalize (lg_sl ([.ref h, .int (iZ im)]) ++ List.replicate (3 - (lg_sl ([.ref h, .int (iZ im)])).length) Slot.unset).toArray = ls at hl ⊢
  replace hl : lv_has ls 3 [(0, .ref h), (1, .int (iZ im))] := hl
  have hD : va_D (mA h a) (mW C h a M) := mD_own hN
  have hA : ∀ q, mA h a q → mA h a q := fun _ h9 => h9
  generalize hHe : s.heap = H at hP ⊢
  have hS : va_S (mA h a) s.heap H [] := by rw [hHe]; exact va_S.rf
  generalize hlo : ([] : List Loc) = locs at hS ⊢
  clear hHe hlo
  have hnw := mI_now hI
  refine lv_iload_n hx hb dX8_back_0 rfl (lv_at hl 1 rfl) ?_
  refine lv_iconst (v := iZ 0) hx hb dX8_back_1 (by decide) ?_
  refine lv_iconst (v := iZ 1) hx hb dX8_back_2 (by decide) ?_
  refine mq_cs (As := [.int (iZ im), .int (iZ 0), .int (iZ 1)]) (rest := []) ⟨hx, hb, hml, hown, hts⟩ (C_in l im 0 1 (by omega) (by omega) (by omega)) (va_cwS 3 hts gX8_back_X8_in rfl rfl rfl (by decide +kernel) ⟨Nat.le_of_ble_eq_true rfl, Nat.le_of_ble_eq_true rfl⟩) rfl rfl hl.1 (Nat.le_of_ble_eq_true rfl) ⟨Nat.le_of_ble_eq_true rfl, Nat.le_of_ble_eq_true rfl⟩ dX8_back_3 ?_
  refine z_ifb_ne (P := (0 ≤ im ∧ im ≤ 1)) (tgt := 11) hx hb dX8_back_6 (by decide) (fun c1 => ?_) (fun c1 => ?_)
  · refine lv_aload_n hx hb dX8_back_11 rfl (lv_at hl 0 rfl) ?_
    refine W.eq (g2 := F0 m 12 ls [.ref h]) rfl ?_
    refine mq_get hx hb hts hin hown hK hP 23 (by decide) (hts (.fieldLink RX8 56 "WordFletchersModel" "isKept" "[Z") (List.mem_cons_of_mem _ (List.mem_append_left _ (List.mem_of_getElem? (i := 0) rfl)))) rfl dX8_back_12 ?_
    refine lv_iload_n hx hb dX8_back_15 rfl (lv_at hl 1 rfl) ?_
    refine mq_zald hx hb hK hP 23 16 (n := 2) rfl (by decide) (Int.toNat im) rfl (by omega) dX8_back_16 ?_
    have hk9 := mI_kp hI (k := im) (by omega)
    refine z_if_ne (x := (M 23 (Int.toNat im))) (tgt := 23) hx hb (by omega) dX8_back_17 (by decide) (fun c2 => ?_) (fun c2 => ?_)
    · refine lv_iconst (v := iZ 0) hx hb dX8_back_23 (by decide) ?_
      refine lv_istore_n (lv' := [(2, .int (iZ 0)), (0, .ref h), (1, .int (iZ im))]) hx hb dX8_back_24 rfl hl (by decide) rfl (fun ls hl => ?_)
      replace hl : lv_has ls 3 [(2, .int (iZ (0 : Int))), (0, .ref h), (1, .int (iZ im))] := lv_sub hl [0, 1, 2] rfl
      replace hP := And.intro hP hS
      clear hS
      revert ls
      revert hP
      revert H locs
      refine z_loopH (σ := (Nat → Nat → Int) × Int) (fun x9 => (0 ≤ x9.2 ∧ x9.2 ≤ 29) ∧ (x9.1 = f_blk M 19 22 (0) (Int.toNat (29 * im)) (Int.toNat x9.2))) (fun x9 H9 locs9 => va_P D vwCl (mW C h a (x9.1)) H9 ∧ va_S (mA h a) s.heap H9 locs9) (fun x9 => [(2, .int (iZ (x9.2))), (0, .ref h), (1, .int (iZ im))]) 3 (fun x9 => (29 - x9.2).toNat) (M, (0 : Int)) ⟨(by show 0 ≤ (0 : Int) ∧ (0 : Int) ≤ 29; omega), (by show M = f_blk M 19 22 (0) (Int.toNat (29 * im)) (Int.toNat (0 : Int)); exact (f_blk_0 _ _ _ _ _).symm)⟩ ?_
      rintro ⟨Ma, kk⟩ hI9 ih25 H locs hPS ls hl
      have hP : va_P D vwCl (mW C h a Ma) H := hPS.1
      have hS : va_S (mA h a) s.heap H locs := hPS.2
      clear hPS
      have hD : va_D (mA h a) (mW C h a Ma) := mD_re hD
      obtain ⟨kaa, kab⟩ := hI9
      replace kaa : 0 ≤ kk ∧ kk ≤ 29 := kaa
      replace kab : Ma = f_blk M 19 22 (0) (Int.toNat (29 * im)) (Int.toNat kk) := kab
      replace hl : lv_has ls 3 [(2, .int (iZ kk)), (0, .ref h), (1, .int (iZ im))] := hl
      refine lv_iload_n hx hb dX8_back_25 rfl (lv_at hl 0 rfl) ?_
      refine lv_bipush (v := iZ 29) hx hb dX8_back_26 (by decide) ?_
      refine z_icmp_ge (x := kk) (y := 29) (tgt := 54) hx hb (by omega) (by omega) dX8_back_28 (by decide) (fun c3 => ?_) (fun c3 => ?_)
      · refine lv_iconst (v := iZ 0) hx hb dX8_back_54 (by decide) ?_
        refine W.eq (g2 := F0 m 55 ls [.int (iZ 0)]) rfl ?_
        refine lv_istore_n (lv' := [(2, .int (iZ 0)), (0, .ref h), (1, .int (iZ im))]) hx hb dX8_back_55 rfl hl (by decide) rfl (fun ls hl => ?_)
        replace hl : lv_has ls 3 [(2, .int (iZ (0 : Int))), (0, .ref h), (1, .int (iZ im))] := lv_sub hl [0, 1, 2] rfl
        replace hP := And.intro hP hS
        clear hS
        revert ls
        revert hP
        revert H locs
        refine z_loopH (σ := (Nat → Nat → Int) × Int) (fun x9 => (0 ≤ x9.2 ∧ x9.2 ≤ 290) ∧ (x9.1 = f_blk Ma 21 21 (0) (Int.toNat (290 * (1 + im))) (Int.toNat x9.2))) (fun x9 H9 locs9 => va_P D vwCl (mW C h a (x9.1)) H9 ∧ va_S (mA h a) s.heap H9 locs9) (fun x9 => [(2, .int (iZ (x9.2))), (0, .ref h), (1, .int (iZ im))]) 3 (fun x9 => (290 - x9.2).toNat) (Ma, (0 : Int)) ⟨(by show 0 ≤ (0 : Int) ∧ (0 : Int) ≤ 290; omega), (by show Ma = f_blk Ma 21 21 (0) (Int.toNat (290 * (1 + im))) (Int.toNat (0 : Int)); exact (f_blk_0 _ _ _ _ _).symm)⟩ ?_
        rintro ⟨Mb, kk2⟩ hI9 ih56 H locs hPS ls hl
        have hP : va_P D vwCl (mW C h a Mb) H := hPS.1
        have hS : va_S (mA h a) s.heap H locs := hPS.2
        clear hPS
        have hD : va_D (mA h a) (mW C h a Mb) := mD_re hD
        obtain ⟨kba, kbb⟩ := hI9
        replace kba : 0 ≤ kk2 ∧ kk2 ≤ 290 := kba
        replace kbb : Mb = f_blk Ma 21 21 (0) (Int.toNat (290 * (1 + im))) (Int.toNat kk2) := kbb
        replace hl : lv_has ls 3 [(2, .int (iZ kk2)), (0, .ref h), (1, .int (iZ im))] := hl
        refine lv_iload_n hx hb dX8_back_56 rfl (lv_at hl 0 rfl) ?_
        refine lv_sipush (v := iZ 290) hx hb dX8_back_57 (by decide) ?_
        refine z_icmp_ge (x := kk2) (y := 290) (tgt := 89) hx hb (by omega) (by omega) dX8_back_60 (by decide) (fun c5 => ?_) (fun c5 => ?_)
        · refine lv_aload_n hx hb dX8_back_89 rfl (lv_at hl 1 rfl) ?_
          refine mq_get hx hb hts hin hown hK hP 20 (by decide) (hts (.fieldLink RX8 47 "WordFletchersModel" "known" "[I") (List.mem_cons_of_mem _ (List.mem_append_left _ (List.mem_of_getElem? (i := 4) rfl)))) rfl dX8_back_90 ?_
          refine lv_iconst (v := iZ 0) hx hb dX8_back_93 (by decide) ?_
          refine lv_aload_n hx hb dX8_back_94 rfl (lv_at hl 1 rfl) ?_
          refine W.eq (g2 := F0 m 95 ls [.ref h, .int (iZ 0), .ref (a 20)]) rfl ?_
          refine mq_get hx hb hts hin hown hK hP 20 (by decide) (hts (.fieldLink RX8 47 "WordFletchersModel" "known" "[I") (List.mem_cons_of_mem _ (List.mem_append_left _ (List.mem_of_getElem? (i := 4) rfl)))) rfl dX8_back_95 ?_
          refine lv_iconst (v := iZ 1) hx hb dX8_back_98 (by decide) ?_
          refine lv_iload_n hx hb dX8_back_99 rfl (lv_at hl 2 rfl) ?_
          refine z_iadd hx hb dX8_back_100 ?_
          refine mq_iald hx hb hK hP 20 13 (n := 3) rfl (by decide) (Int.toNat (1 + im)) rfl (by omega) dX8_back_101 ?_
          refine mq_iast hx hb hK hP hD hS 20 13 (n := 3) rfl (fun k9 => mS_20 C h a _ k9 _) (by decide) 0 rfl (by omega) dX8_back_102 (fun H locs hP hD hS => ?_)
          obtain ⟨M7, hM7⟩ : ∃ z : Nat → Nat → Int, z = (mU Mb 20 0 (Mb 20 (Int.toNat (1 + im)))) := ⟨_, rfl⟩
          rw [← hM7] at hP hD
          refine lv_aload_n hx hb dX8_back_103 rfl (lv_at hl 1 rfl) ?_
          refine mq_get hx hb hts hin hown hK hP 19 (by decide) (hts (.fieldLink RX8 44 "WordFletchersModel" "now" "[I") (List.mem_cons_of_mem _ (List.mem_append_left _ (List.mem_of_getElem? (i := 1) rfl)))) rfl dX8_back_104 ?_
          refine lv_iconst (v := iZ 0) hx hb dX8_back_107 (by decide) ?_
          refine mq_iald hx hb hK hP 19 12 (n := 29) rfl (by decide) 0 rfl (by omega) dX8_back_108 ?_
          exact mq_retM hx hb hK hP hS hr rfl (by unfold s_back; first | omega | (subst_vars; rw [if_neg (by omega), if_neg (by omega)]; have q : kk = 29 := (by omega); subst q; rfl) | omega) (by first | (unfold f_back; rw [if_pos (by omega)]; done) | (unfold f_back; rw [if_neg (by omega), if_pos (by omega)]; done) | (have q : kk = 29 := (by omega); have q2 : kk2 = 290 := (by omega); subst q q2; subst_vars; unfold f_back; rw [if_neg (by omega), if_neg (by omega)]; rfl) | omega) dX8_back_109 hlocks
        · refine lv_aload_n hx hb dX8_back_63 rfl (lv_at hl 1 rfl) ?_
          refine W.eq (g2 := F0 m 64 ls [.ref h]) rfl ?_
          refine mq_get hx hb hts hin hown hK hP 21 (by decide) (hts (.fieldLink RX8 50 "WordFletchersModel" "before" "[I") (List.mem_cons_of_mem _ (List.mem_append_left _ (List.mem_of_getElem? (i := 3) rfl)))) rfl dX8_back_64 ?_
          refine lv_iload_n hx hb dX8_back_67 rfl (lv_at hl 0 rfl) ?_
          refine lv_aload_n hx hb dX8_back_68 rfl (lv_at hl 1 rfl) ?_
          refine mq_get hx hb hts hin hown hK hP 21 (by decide) (hts (.fieldLink RX8 50 "WordFletchersModel" "before" "[I") (List.mem_cons_of_mem _ (List.mem_append_left _ (List.mem_of_getElem? (i := 3) rfl)))) rfl dX8_back_69 ?_
          refine lv_sipush (v := iZ 290) hx hb dX8_back_72 (by decide) ?_
          refine lv_iconst (v := iZ 1) hx hb dX8_back_75 (by decide) ?_
          refine lv_iload_n hx hb dX8_back_76 rfl (lv_at hl 2 rfl) ?_
          refine z_iadd hx hb dX8_back_77 ?_
          refine z_imul hx hb dX8_back_78 ?_
          refine lv_iload_n hx hb dX8_back_79 rfl (lv_at hl 0 rfl) ?_
          refine z_iadd hx hb dX8_back_80 ?_
          refine mq_iald hx hb hK hP 21 14 (n := 870) rfl (by decide) (Int.toNat ((290 * (1 + im)) + kk2)) rfl (by omega) dX8_back_81 ?_
          refine W.eq (g2 := F0 m 82 ls [.int (iZ (Mb 21 (Int.toNat ((290 * (1 + im)) + kk2)))), .int (iZ kk2), .ref (a 21)]) rfl ?_
          refine mq_iast hx hb hK hP hD hS 21 14 (n := 870) rfl (fun k9 => mS_21 C h a _ k9 _) (by decide) (Int.toNat kk2) rfl (by omega) dX8_back_82 (fun H locs hP hD hS => ?_)
          obtain ⟨M8, hM8⟩ : ∃ z : Nat → Nat → Int, z = (mU Mb 21 (Int.toNat kk2) (Mb 21 (Int.toNat ((290 * (1 + im)) + kk2)))) := ⟨_, rfl⟩
          rw [← hM8] at hP hD
          refine lv_iinc (v := iZ (kk2 + 1)) (lv' := [(2, .int (iZ (kk2 + 1))), (0, .ref h), (1, .int (iZ im))]) hx hb dX8_back_83 hl (k := 0) rfl (iZ_add _ _) (by decide) rfl (fun ls hl => ?_)
          refine lv_goto (tgt := 56) hx hb dX8_back_86 (by decide) ?_
          exact ih56 (M8, (kk2 + 1)) ⟨(by show 0 ≤ (kk2 + 1) ∧ (kk2 + 1) ≤ 290; omega), (by show M8 = f_blk Ma 21 21 (0) (Int.toNat (290 * (1 + im))) (Int.toNat (kk2 + 1)); rw [f_blk_step _ _ _ _ _ (by omega), ← kbb]; have q9 : Int.toNat (kk2) = (0) + Int.toNat kk2 := (by omega); have q7 : Int.toNat (290 * (1 + im) + kk2) = (Int.toNat (290 * (1 + im))) + Int.toNat kk2 := (by omega); have q8 : Mb 21 (Int.toNat (290 * (1 + im) + kk2)) = Ma 21 ((Int.toNat (290 * (1 + im))) + Int.toNat kk2) := (by have r9 := f_blk_rd (M := Ma) (F := 21) (G := 21) (d := 0) (s := Int.toNat (290 * (1 + im))) (k := Int.toNat kk2) (i := Int.toNat kk2) (by omega); rw [← kbb] at r9; exact (congrArg (Mb 21) q7).trans r9); rw [← q9, ← q8]; assumption)⟩ (by show (290 - (kk2 + 1)).toNat < (290 - kk2).toNat; omega) H locs ⟨hP, hS⟩ ls (lv_sub hl [0, 1, 2] rfl)
      · refine lv_aload_n hx hb dX8_back_31 rfl (lv_at hl 1 rfl) ?_
        refine mq_get hx hb hts hin hown hK hP 19 (by decide) (hts (.fieldLink RX8 44 "WordFletchersModel" "now" "[I") (List.mem_cons_of_mem _ (List.mem_append_left _ (List.mem_of_getElem? (i := 1) rfl)))) rfl dX8_back_32 ?_
        refine lv_iload_n hx hb dX8_back_35 rfl (lv_at hl 0 rfl) ?_
        refine lv_aload_n hx hb dX8_back_36 rfl (lv_at hl 1 rfl) ?_
        refine mq_get hx hb hts hin hown hK hP 22 (by decide) (hts (.fieldLink RX8 53 "WordFletchersModel" "store" "[I") (List.mem_cons_of_mem _ (List.mem_append_left _ (List.mem_of_getElem? (i := 2) rfl)))) rfl dX8_back_37 ?_
        refine lv_bipush (v := iZ 29) hx hb dX8_back_40 (by decide) ?_
        refine lv_iload_n hx hb dX8_back_42 rfl (lv_at hl 2 rfl) ?_
        refine z_imul hx hb dX8_back_43 ?_
        refine lv_iload_n hx hb dX8_back_44 rfl (lv_at hl 0 rfl) ?_
        refine W.eq (g2 := F0 m 45 ls [.int (iZ kk), .int (iZ (29 * im)), .ref (a 22), .int (iZ kk), .ref (a 19)]) rfl ?_
        refine z_iadd hx hb dX8_back_45 ?_
        refine mq_iald hx hb hK hP 22 15 (n := 58) rfl (by decide) (Int.toNat ((29 * im) + kk)) rfl (by omega) dX8_back_46 ?_
        refine mq_iast hx hb hK hP hD hS 19 12 (n := 29) rfl (fun k9 => mS_19 C h a _ k9 _) (by decide) (Int.toNat kk) rfl (by omega) dX8_back_47 (fun H locs hP hD hS => ?_)
        obtain ⟨M9, hM9⟩ : ∃ z : Nat → Nat → Int, z = (mU Ma 19 (Int.toNat kk) (Ma 22 (Int.toNat ((29 * im) + kk)))) := ⟨_, rfl⟩
        rw [← hM9] at hP hD
        refine lv_iinc (v := iZ (kk + 1)) (lv' := [(2, .int (iZ (kk + 1))), (0, .ref h), (1, .int (iZ im))]) hx hb dX8_back_48 hl (k := 0) rfl (iZ_add _ _) (by decide) rfl (fun ls hl => ?_)
        refine lv_goto (tgt := 25) hx hb dX8_back_51 (by decide) ?_
        exact ih25 (M9, (kk + 1)) ⟨(by show 0 ≤ (kk + 1) ∧ (kk + 1) ≤ 29; omega), (by show M9 = f_blk M 19 22 (0) (Int.toNat (29 * im)) (Int.toNat (kk + 1)); rw [f_blk_step _ _ _ _ _ (by omega), ← kab]; have q9 : Int.toNat (kk) = (0) + Int.toNat kk := (by omega); have q7 : Int.toNat (29 * im + kk) = (Int.toNat (29 * im)) + Int.toNat kk := (by omega); have q8 : Ma 22 (Int.toNat (29 * im + kk)) = M 22 ((Int.toNat (29 * im)) + Int.toNat kk) := (by have r9 := f_blk_rd (M := M) (F := 19) (G := 22) (d := 0) (s := Int.toNat (29 * im)) (k := Int.toNat kk) (i := Int.toNat kk) (by omega); rw [← kab] at r9; exact (congrArg (Ma 22) q7).trans r9); rw [← q9, ← q8]; assumption)⟩ (by show (29 - (kk + 1)).toNat < (29 - kk).toNat; omega) H locs ⟨hP, hS⟩ ls (lv_sub hl [0, 1, 2] rfl)
    · refine lv_bipush (v := iZ (-2)) hx hb dX8_back_20 (by decide) ?_
      exact mq_retM hx hb hK hP hS hr rfl (by unfold s_back; first | omega | (subst_vars; rw [if_neg (by omega), if_neg (by omega)]; have q : kk = 29 := (by omega); subst q; rfl) | omega) (by first | (unfold f_back; rw [if_pos (by omega)]; done) | (unfold f_back; rw [if_neg (by omega), if_pos (by omega)]; done) | (have q : kk = 29 := (by omega); have q2 : kk2 = 290 := (by omega); subst q q2; subst_vars; unfold f_back; rw [if_neg (by omega), if_neg (by omega)]; rfl) | omega) dX8_back_22 hlocks
  · refine lv_iconst (v := iZ (-1)) hx hb dX8_back_9 (by decide) ?_
    exact mq_retM hx hb hK hP hS hr rfl (by unfold s_back; first | omega | (subst_vars; rw [if_neg (by omega), if_neg (by omega)]; have q : kk = 29 := (by omega); subst q; rfl) | omega) (by first | (unfold f_back; rw [if_pos (by omega)]; done) | (unfold f_back; rw [if_neg (by omega), if_pos (by omega)]; done) | (have q : kk = 29 := (by omega); have q2 : kk2 = 290 := (by omega); subst q q2; subst_vars; unfold f_back; rw [if_neg (by omega), if_neg (by omega)]; rfl) | omega) dX8_back_10 hlocks
set_option maxHeartbeats 4000000 in
set_option maxRecDepth 100000 in
theorem C_picks (l : Launch) (D : va_G) (C : mC) (h : Nat) (a : Nat → Nat) (M : Nat → Nat → Int) (pe : Int) (hI : mI M) (h1 : -2147483648 ≤ pe ∧ pe < 2147483648) (hN : va_D (fun _ => True) (mW C h a M)) : Met l yX8_picks wsX8_picks ({ frames := 2, cells := 0, slots := 0, locals := 43 }) (va_Pc [.ref h, .int (iZ pe)] (mOk D C h a M)) (va_Qi (fun r (_ : Unit) => r = iZ (s_picks M pe)) (fun _ t => mOk D C h a (f_picks M pe) t) (mA h a)) 0 0 (mA h a) := by
  refine Met.ofW (cc := cX8_picks) (maxL := 4) (ret := (some .int)) (by decide) rfl ?_
  intro p e s m args below meth c s₁ B hml hv
  obtain ⟨rfl, hP, hK⟩ := hv
  have hx := B.exec
  have hb := B.bytes
  have hr := B.returns
  have hts := atoms_spec (ws := wsX8_picks) B.pre
  have hown : s.vm.findClass RX8 = some m.cls := findClass_of_methodNamed B.named
  have hlocks := B.notSynchronized
  have hin : ∀ w ∈ wsX80, w ∈ wsX8_picks := fun _ w_h => (List.mem_cons_of_mem _ (List.mem_append_right _ w_h))
  have hl := lv_entry ([.ref h, .int (iZ pe)]) (n := 4) (Nat.le_of_ble_eq_true rfl)
  rw [lg_entry_eq]
  generalize (lg_sl ([.ref h, .int (iZ pe)]) ++ List.replicate (4 - (lg_sl ([.ref h, .int (iZ pe)])).length) Slot.unset).toArray = ls at hl ⊢
  replace hl : lv_has ls 4 [(0, .ref h), (1, .int (iZ pe))] := hl
  have hD : va_D (mA h a) (mW C h a M) := mD_own hN
  have hA : ∀ q, mA h a q → mA h a q := fun _ h9 => h9
  generalize hHe : s.heap = H at hP ⊢
  have hS : va_S (mA h a) s.heap H [] := by rw [hHe]; exact va_S.rf
  generalize hlo : ([] : List Loc) = locs at hS ⊢
  clear hHe hlo
  have hnw := mI_now hI
  refine lv_aload_n hx hb dX8_picks_0 rfl (lv_at hl 0 rfl) ?_
  refine lv_iload_n hx hb dX8_picks_1 rfl (lv_at hl 1 rfl) ?_
  refine mq_ci (As := [.int (iZ pe)]) (rest := []) ⟨hx, hb, hml, hown, hts⟩ hK hP (C_isOne l D C h a M pe hI (by omega)) (cwV 1 hts gX8_picks_X8_isOne rfl rfl rfl (by decide +kernel) ⟨Nat.le_of_ble_eq_true rfl, Nat.le_of_ble_eq_true rfl⟩) rfl rfl hl.1 (Nat.le_of_ble_eq_true rfl) ⟨Nat.le_of_ble_eq_true rfl, Nat.le_of_ble_eq_true rfl⟩ dX8_picks_2 ?_
  refine W.eq (g2 := F0 m 5 ls [.int (iZ (if (0 ≤ pe ∧ pe < M 2 0) then 1 else 0))]) rfl ?_
  refine z_ifb_ne (P := (0 ≤ pe ∧ pe < M 2 0)) (tgt := 10) hx hb dX8_picks_5 (by decide) (fun c1 => ?_) (fun c1 => ?_)
  · refine lv_bipush (v := iZ (-9)) hx hb dX8_picks_10 (by decide) ?_
    refine lv_istore_n (lv' := [(2, .int (iZ (-9))), (0, .ref h), (1, .int (iZ pe))]) hx hb dX8_picks_12 rfl hl (by decide) rfl (fun ls hl => ?_)
    refine lv_aload_n hx hb dX8_picks_13 rfl (lv_at hl 1 rfl) ?_
    refine mq_get hx hb hts hin hown hK hP 19 (by decide) (hts (.fieldLink RX8 44 "WordFletchersModel" "now" "[I") (List.mem_cons_of_mem _ (List.mem_append_left _ (List.mem_of_getElem? (i := 0) rfl)))) rfl dX8_picks_14 ?_
    refine lv_bipush (v := iZ 12) hx hb dX8_picks_17 (by decide) ?_
    refine mq_iald hx hb hK hP 19 12 (n := 29) rfl (by decide) 12 rfl (by omega) dX8_picks_19 ?_
    refine lv_iconst (v := iZ 1) hx hb dX8_picks_20 (by decide) ?_
    refine z_isub hx hb dX8_picks_21 ?_
    refine lv_istore_n (lv' := [(3, .int (iZ ((M 19 12) - 1))), (2, .int (iZ (-9))), (0, .ref h), (1, .int (iZ pe))]) hx hb dX8_picks_22 rfl hl (by decide) rfl (fun ls hl => ?_)
    replace hl : lv_has ls 4 [(3, .int (iZ ((M 19 12) - 1))), (2, .int (iZ ((-9) : Int))), (0, .ref h), (1, .int (iZ pe))] := lv_sub hl [0, 1, 2, 3] rfl
    revert ls
    refine z_loop (σ := Int × Int) (fun x9 => (-1 ≤ x9.2 ∧ x9.2 < M 19 12) ∧ (x9.1 = zfind (fun q => decide (M 19 (Int.toNat (21 + q)) = M 3 (Int.toNat pe))) (M 19 12 - (x9.2 + 1)).toNat (x9.2 + 1))) (fun x9 => [(3, .int (iZ (x9.2))), (2, .int (iZ (x9.1))), (0, .ref h), (1, .int (iZ pe))]) 4 (fun x9 => (x9.2 + 1).toNat) (((-9) : Int), ((M 19 12) - 1)) ⟨(by show -1 ≤ ((M 19 12) - 1) ∧ ((M 19 12) - 1) < M 19 12; omega), (by show ((-9) : Int) = zfind (fun q => decide (M 19 (Int.toNat (21 + q)) = M 3 (Int.toNat pe))) (M 19 12 - (((M 19 12) - 1) + 1)).toNat (((M 19 12) - 1) + 1); have q9 : (M 19 12 - (M 19 12 - 1 + 1)).toNat = 0 := (by omega); rw [q9]; rfl)⟩ ?_
    rintro ⟨fd, ii⟩ hI9 ih23 ls hl
    obtain ⟨i1, i2⟩ := hI9
    replace i1 : -1 ≤ ii ∧ ii < M 19 12 := i1
    replace i2 : fd = zfind (fun q => decide (M 19 (Int.toNat (21 + q)) = M 3 (Int.toNat pe))) (M 19 12 - (ii + 1)).toNat (ii + 1) := i2
    replace hl : lv_has ls 4 [(3, .int (iZ ii)), (2, .int (iZ fd)), (0, .ref h), (1, .int (iZ pe))] := hl
    have hbd := zfind_bd (fun q => decide (M 19 (Int.toNat (21 + q)) = M 3 (Int.toNat pe))) (M 19 12 - (ii + 1)).toNat (ii + 1)
    rw [← i2] at hbd
    have hpl := mI_pe hI (k := pe) (by omega)
    have hly : 0 ≤ ii → (0 ≤ M 19 (Int.toNat (13 + ii)) ∧ M 19 (Int.toNat (13 + ii)) < M 5 0) ∧ (0 ≤ M 19 (Int.toNat (21 + ii)) ∧ M 19 (Int.toNat (21 + ii)) ≤ 30) := fun q => mI_ly hI ⟨q, by omega⟩
    refine lv_iload_n hx hb dX8_picks_23 rfl (lv_at hl 0 rfl) ?_
    refine z_if_lt (x := ii) (tgt := 57) hx hb (by omega) dX8_picks_24 (by decide) (fun c2 => ?_) (fun c2 => ?_)
    · refine lv_iload_n hx hb dX8_picks_57 rfl (lv_at hl 1 rfl) ?_
      refine lv_bipush (v := iZ (-9)) hx hb dX8_picks_58 (by decide) ?_
      refine z_icmp_ne (x := fd) (y := (-9)) (tgt := 66) hx hb (by omega) (by omega) dX8_picks_60 (by decide) (fun c6 => ?_) (fun c6 => ?_)
      · refine lv_aload_n hx hb dX8_picks_66 rfl (lv_at hl 2 rfl) ?_
        refine mq_cv (As := []) (rest := []) ⟨hx, hb, hml, hown, hts⟩ hK hP hD hS hA (C_know l D C h a M  hI (hD.weaken (fun _ _ _ _ => trivial))) (cwV 0 hts gX8_picks_X8_know rfl rfl rfl (by decide +kernel) ⟨Nat.le_of_ble_eq_true rfl, Nat.le_of_ble_eq_true rfl⟩) rfl rfl hl.1 (Nat.le_of_ble_eq_true rfl) ⟨Nat.le_of_ble_eq_true rfl, Nat.le_of_ble_eq_true rfl⟩ dX8_picks_67 (fun H locs hP hD hS => ?_)
        obtain ⟨M7, hM7⟩ : ∃ z : Nat → Nat → Int, z = (f_know M) := ⟨_, rfl⟩
        rw [← hM7] at hP hD
        have e1 : M7 19 = M 19 := by rw [hM7]; exact f_know_o M (by decide) (by decide)
        have k2 : M7 2 0 = M 2 0 := by rw [hM7, f_know_o M (by decide) (by decide)]
        have k5 : M7 5 0 = M 5 0 := by rw [hM7, f_know_o M (by decide) (by decide)]
        have hl9 := mI_ly hI (k := fd) (by omega)
        have e4 := congrFun e1 (Int.toNat (13 + fd))
        have hkn := mI_kn hI (k := M 19 (Int.toNat (13 + fd))) (by omega)
        have hkm : 0 ≤ M7 19 (Int.toNat (6 + M7 19 (Int.toNat (13 + fd)))) ∧ M7 19 (Int.toNat (6 + M7 19 (Int.toNat (13 + fd)))) < 64 := by rw [e1]; exact hkn
        have hzp := zp_nn pe
        refine lv_aload_n hx hb dX8_picks_70 rfl (lv_at hl 2 rfl) ?_
        refine mq_get hx hb hts hin hown hK hP 19 (by decide) (hts (.fieldLink RX8 44 "WordFletchersModel" "now" "[I") (List.mem_cons_of_mem _ (List.mem_append_left _ (List.mem_of_getElem? (i := 0) rfl)))) rfl dX8_picks_71 ?_
        refine W.eq (g2 := F0 m 74 ls [.ref (a 19)]) rfl ?_
        refine lv_bipush (v := iZ 13) hx hb dX8_picks_74 (by decide) ?_
        refine lv_iload_n hx hb dX8_picks_76 rfl (lv_at hl 1 rfl) ?_
        refine z_iadd hx hb dX8_picks_77 ?_
        refine mq_iald hx hb hK hP 19 12 (n := 29) rfl (by decide) (Int.toNat (13 + fd)) rfl (by omega) dX8_picks_78 ?_
        refine lv_istore_n (lv' := [(3, .int (iZ (M7 19 (Int.toNat (13 + fd))))), (2, .int (iZ fd)), (0, .ref h), (1, .int (iZ pe))]) hx hb dX8_picks_79 rfl hl (by decide) rfl (fun ls hl => ?_)
        refine lv_aload_n hx hb dX8_picks_80 rfl (lv_at hl 2 rfl) ?_
        refine mq_get hx hb hts hin hown hK hP 19 (by decide) (hts (.fieldLink RX8 44 "WordFletchersModel" "now" "[I") (List.mem_cons_of_mem _ (List.mem_append_left _ (List.mem_of_getElem? (i := 0) rfl)))) rfl dX8_picks_81 ?_
        refine lv_bipush (v := iZ 6) hx hb dX8_picks_84 (by decide) ?_
        refine lv_iload_n hx hb dX8_picks_86 rfl (lv_at hl 0 rfl) ?_
        refine z_iadd hx hb dX8_picks_87 ?_
        refine lv_dup2_11 hx hb dX8_picks_88 rfl rfl ?_
        refine mq_iald hx hb hK hP 19 12 (n := 29) rfl (by decide) (Int.toNat (6 + (M7 19 (Int.toNat (13 + fd))))) rfl (by omega) dX8_picks_89 ?_
        refine W.eq (g2 := F0 m 90 ls [.int (iZ (M7 19 (Int.toNat (6 + (M7 19 (Int.toNat (13 + fd))))))), .int (iZ (6 + (M7 19 (Int.toNat (13 + fd))))), .ref (a 19)]) rfl ?_
        refine lv_iconst (v := iZ 1) hx hb dX8_picks_90 (by decide) ?_
        refine lv_iload_n hx hb dX8_picks_91 rfl (lv_at hl 3 rfl) ?_
        refine z_ishl1 hx hb (by omega) dX8_picks_92 ?_
        refine z_ior hx hb (by omega) (by omega) dX8_picks_93 ?_
        refine mq_iast hx hb hK hP hD hS 19 12 (n := 29) rfl (fun k9 => mS_19 C h a _ k9 _) (by decide) (Int.toNat (6 + (M7 19 (Int.toNat (13 + fd))))) rfl (by omega) dX8_picks_94 (fun H locs hP hD hS => ?_)
        obtain ⟨M8, hM8⟩ : ∃ z : Nat → Nat → Int, z = (mU M7 19 (Int.toNat (6 + (M7 19 (Int.toNat (13 + fd))))) (zor (M7 19 (Int.toNat (6 + (M7 19 (Int.toNat (13 + fd)))))) (zp pe))) := ⟨_, rfl⟩
        rw [← hM8] at hP hD
        refine lv_aload_n hx hb dX8_picks_95 rfl (lv_at hl 2 rfl) ?_
        refine lv_iload_n hx hb dX8_picks_96 rfl (lv_at hl 1 rfl) ?_
        refine mq_cv (As := [.int (iZ fd)]) (rest := []) ⟨hx, hb, hml, hown, hts⟩ hK hP hD hS hA (C_takeUp l D C h a M8 fd (by omega) (hD.weaken (fun _ _ _ _ => trivial))) (cwV 1 hts gX8_picks_X8_takeUp rfl rfl rfl (by decide +kernel) ⟨Nat.le_of_ble_eq_true rfl, Nat.le_of_ble_eq_true rfl⟩) rfl rfl hl.1 (Nat.le_of_ble_eq_true rfl) ⟨Nat.le_of_ble_eq_true rfl, Nat.le_of_ble_eq_true rfl⟩ dX8_picks_97 (fun H locs hP hD hS => ?_)
        obtain ⟨M9, hM9⟩ : ∃ z : Nat → Nat → Int, z = (f_take M8 fd) := ⟨_, rfl⟩
        rw [← hM9] at hP hD
        refine lv_iload_n hx hb dX8_picks_100 rfl (lv_at hl 0 rfl) ?_
        exact mq_retM hx hb hK hP hS hr rfl (by unfold s_picks; first | omega | (have q : ii = -1 := (by omega); have q2 : s_fnd M pe = fd := (by rw [i2, q]; rfl); rw [q2]; first | omega | (rw [if_neg (by omega), if_neg (by omega)]; exact e4)) | omega) (by first | (unfold f_picks; rw [if_pos (by omega)]; done) | (have q : ii = -1 := (by omega); have q2 : s_fnd M pe = fd := (by rw [i2, q]; rfl); unfold f_picks; rw [q2, if_neg (by omega), if_pos (by omega)]; done) | (have q : ii = -1 := (by omega); have q2 : s_fnd M pe = fd := (by rw [i2, q]; rfl); unfold f_picks; rw [q2, if_neg (by omega), if_neg (by omega)]; subst_vars; rfl) | omega) dX8_picks_101 hlocks
      · refine lv_bipush (v := iZ (-2)) hx hb dX8_picks_63 (by decide) ?_
        exact mq_retM hx hb hK hP hS hr rfl (by unfold s_picks; first | omega | (have q : ii = -1 := (by omega); have q2 : s_fnd M pe = fd := (by rw [i2, q]; rfl); rw [q2]; first | omega | (rw [if_neg (by omega), if_neg (by omega)]; exact e4)) | omega) (by first | (unfold f_picks; rw [if_pos (by omega)]; done) | (have q : ii = -1 := (by omega); have q2 : s_fnd M pe = fd := (by rw [i2, q]; rfl); unfold f_picks; rw [q2, if_neg (by omega), if_pos (by omega)]; done) | (have q : ii = -1 := (by omega); have q2 : s_fnd M pe = fd := (by rw [i2, q]; rfl); unfold f_picks; rw [q2, if_neg (by omega), if_neg (by omega)]; subst_vars; rfl) | omega) dX8_picks_65 hlocks
    · refine W.eq (g2 := F0 m 27 ls []) rfl ?_
      refine lv_aload_n hx hb dX8_picks_27 rfl (lv_at hl 2 rfl) ?_
      refine mq_get hx hb hts hin hown hK hP 19 (by decide) (hts (.fieldLink RX8 44 "WordFletchersModel" "now" "[I") (List.mem_cons_of_mem _ (List.mem_append_left _ (List.mem_of_getElem? (i := 0) rfl)))) rfl dX8_picks_28 ?_
      refine lv_bipush (v := iZ 21) hx hb dX8_picks_31 (by decide) ?_
      refine lv_iload_n hx hb dX8_picks_33 rfl (lv_at hl 0 rfl) ?_
      refine z_iadd hx hb dX8_picks_34 ?_
      refine mq_iald hx hb hK hP 19 12 (n := 29) rfl (by decide) (Int.toNat (21 + ii)) rfl (by omega) dX8_picks_35 ?_
      refine lv_aload_n hx hb dX8_picks_36 rfl (lv_at hl 2 rfl) ?_
      refine mq_get hx hb hts hin hown hK hP 3 (by decide) (hts (.fieldLink RX8 17 "WordFletchersModel" "place" "[I") (List.mem_cons_of_mem _ (List.mem_append_left _ (List.mem_of_getElem? (i := 1) rfl)))) rfl dX8_picks_37 ?_
      refine lv_iload_n hx hb dX8_picks_40 rfl (lv_at hl 3 rfl) ?_
      refine mq_iald hx hb hK hP 3 3 (n := 12) rfl (by decide) (Int.toNat pe) rfl (by omega) dX8_picks_41 ?_
      have K12 : ∀ (v11 : Int), (v11 = (if (M 19 (Int.toNat (21 + ii))) = (M 3 (Int.toNat pe)) then ii else fd)) → ∀ ls : Array Slot, lv_has ls 4 [(3, .int (iZ ii)), (0, .ref h), (1, .int (iZ pe))] → W p l e ((headSpec wsX8_picks ({ frames := 2, cells := 0, slots := 0, locals := 43 })).room) s m (([.ref h, .int (iZ pe)] : List Value).toArray) below meth c H locs 0 0 (MQ below (va_Qi (fun r (_ : Unit) => r = iZ (s_picks M pe)) (fun _ t => mOk D C h a (f_picks M pe) t) (mA h a)) (([.ref h, .int (iZ pe)] : List Value).toArray) s 0 0 (mA h a)) (F0 m 50 ls [.int (iZ v11)]) := by
        intro v11 hv11 ls hl
        refine lv_istore_n (lv' := [(2, .int (iZ v11)), (3, .int (iZ ii)), (0, .ref h), (1, .int (iZ pe))]) hx hb dX8_picks_50 rfl hl (by decide) rfl (fun ls hl => ?_)
        refine lv_iinc (v := iZ (ii + (-1))) (lv' := [(3, .int (iZ (ii + (-1)))), (2, .int (iZ v11)), (0, .ref h), (1, .int (iZ pe))]) hx hb dX8_picks_51 hl (k := 1) rfl (iZ_add _ _) (by decide) rfl (fun ls hl => ?_)
        refine lv_goto (tgt := 23) hx hb dX8_picks_54 (by decide) ?_
        exact ih23 (v11, (ii + (-1))) ⟨(by show -1 ≤ (ii + (-1)) ∧ (ii + (-1)) < M 19 12; omega), (by show v11 = zfind (fun q => decide (M 19 (Int.toNat (21 + q)) = M 3 (Int.toNat pe))) (M 19 12 - ((ii + (-1)) + 1)).toNat ((ii + (-1)) + 1); have q9 : ii + (-1) + 1 = ii := (by omega); rw [q9, zfind_step _ _ _ (by omega), ← i2]; first | omega | (simp only [decide_eq_true_eq]; omega))⟩ (by show ((ii + (-1)) + 1).toNat < (ii + 1).toNat; omega) ls (lv_sub hl [0, 1, 2, 3] rfl)
      refine z_icmp_ne (x := (M 19 (Int.toNat (21 + ii)))) (y := (M 3 (Int.toNat pe))) (tgt := 49) hx hb (by omega) (by omega) dX8_picks_42 (by decide) (fun c10 => ?_) (fun c10 => ?_)
      · refine lv_iload_n hx hb dX8_picks_49 rfl (lv_at hl 1 rfl) ?_
        exact K12 fd (by first | rfl | (rw [if_neg c10]; done) | omega | (subst_vars; first | rfl | (rw [if_neg c10]; done) | omega)) ls (lv_sub hl [0, 2, 3] rfl)
      · refine W.eq (g2 := F0 m 45 ls []) rfl ?_
        refine lv_iload_n hx hb dX8_picks_45 rfl (lv_at hl 0 rfl) ?_
        refine lv_goto (tgt := 50) hx hb dX8_picks_46 (by decide) ?_
        exact K12 ii (by first | rfl | (rw [if_pos c10]; done) | omega | (subst_vars; first | rfl | (rw [if_pos c10]; done) | omega)) ls (lv_sub hl [0, 2, 3] rfl)
  · refine lv_iconst (v := iZ (-1)) hx hb dX8_picks_8 (by decide) ?_
    exact mq_retM hx hb hK hP hS hr rfl (by unfold s_picks; first | omega | (have q : ii = -1 := (by omega); have q2 : s_fnd M pe = fd := (by rw [i2, q]; rfl); rw [q2]; first | omega | (rw [if_neg (by omega), if_neg (by omega)]; exact e4)) | omega) (by first | (unfold f_picks; rw [if_pos (by omega)]; done) | (have q : ii = -1 := (by omega); have q2 : s_fnd M pe = fd := (by rw [i2, q]; rfl); unfold f_picks; rw [q2, if_neg (by omega), if_pos (by omega)]; done) | (have q : ii = -1 := (by omega); have q2 : s_fnd M pe = fd := (by rw [i2, q]; rfl); unfold f_picks; rw [q2, if_neg (by omega), if_neg (by omega)]; subst_vars; rfl) | omega) dX8_picks_9 hlocks
