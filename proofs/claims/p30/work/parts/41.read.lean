set_option maxHeartbeats 4000000 in
set_option maxRecDepth 100000 in
theorem C_one (l : Launch) (D : va_G) (C : mC) (h : Nat) (a : Nat → Nat) (M : Nat → Nat → Int) (pe wh : Int) (hI : mI M) (h1 : -2147483648 ≤ pe ∧ pe < 2147483648) (h2 : -2147483648 ≤ wh ∧ wh < 2147483648) : Met l yX8_one wsX8_one ({ frames := 2, cells := 0, slots := 0, locals := 43 }) (va_Pc [.ref h, .int (iZ pe), .int (iZ wh)] (mOk D C h a M)) (vp_Si (fun r => r = iZ (s_one M pe wh))) 0 0 (fun _ => False) := by
  refine Met.ofW (cc := cX8_one) (maxL := 5) (ret := (some .int)) (by decide) rfl ?_
  intro p e s m args below meth c s₁ B hml hv
  obtain ⟨rfl, hP, hK⟩ := hv
  have hx := B.exec
  have hb := B.bytes
  have hr := B.returns
  have hts := atoms_spec (ws := wsX8_one) B.pre
  have hown : s.vm.findClass RX8 = some m.cls := findClass_of_methodNamed B.named
  have hlocks := B.notSynchronized
  have hin : ∀ w ∈ wsX80, w ∈ wsX8_one := fun _ w_h => (List.mem_cons_of_mem _ (List.mem_append_right _ w_h))
  have hl := lv_entry ([.ref h, .int (iZ pe), .int (iZ wh)]) (n := 5) (Nat.le_of_ble_eq_true rfl)
  rw [lg_entry_eq]
  generalize (lg_sl ([.ref h, .int (iZ pe), .int (iZ wh)]) ++ List.replicate (5 - (lg_sl ([.ref h, .int (iZ pe), .int (iZ wh)])).length) Slot.unset).toArray = ls at hl ⊢
  replace hl : lv_has ls 5 [(0, .ref h), (1, .int (iZ pe)), (2, .int (iZ wh))] := hl
  have hnw := mI_now hI
  refine lv_aload_n hx hb dX8_one_0 rfl (lv_at hl 0 rfl) ?_
  refine lv_iload_n hx hb dX8_one_1 rfl (lv_at hl 1 rfl) ?_
  refine mq_ci (As := [.int (iZ pe)]) (rest := []) ⟨hx, hb, hml, hown, hts⟩ hK hP (C_isOne l D C h a M pe hI (by omega)) (cwV 1 hts gX8_one_X8_isOne rfl rfl rfl (by decide +kernel) ⟨Nat.le_of_ble_eq_true rfl, Nat.le_of_ble_eq_true rfl⟩) rfl rfl hl.1 (Nat.le_of_ble_eq_true rfl) ⟨Nat.le_of_ble_eq_true rfl, Nat.le_of_ble_eq_true rfl⟩ dX8_one_2 ?_
  refine z_ifb_ne (P := (0 ≤ pe ∧ pe < M 2 0)) (tgt := 10) hx hb dX8_one_5 (by decide) (fun c1 => ?_) (fun c1 => ?_)
  · refine lv_iconst (v := iZ 0) hx hb dX8_one_10 (by decide) ?_
    refine lv_istore_n (lv' := [(3, .int (iZ 0)), (0, .ref h), (1, .int (iZ pe)), (2, .int (iZ wh))]) hx hb dX8_one_11 rfl hl (by decide) rfl (fun ls hl => ?_)
    refine lv_iload_n hx hb dX8_one_12 rfl (lv_at hl 3 rfl) ?_
    by_cases c2 : wh = 0
    · refine lv_tableIn (off := 27) (tgt := 40) hx hb dX8_one_13 (by rw [iZ_toInt (by omega)]; omega) (by rw [iZ_toInt (by omega)]; omega) (by rw [iZ_toInt (by omega), c2]; rfl) (by decide) ?_
      refine lv_aload_n hx hb dX8_one_40 rfl (lv_at hl 1 rfl) ?_
      refine mq_get hx hb hts hin hown hK hP 3 (by decide) (hts (.fieldLink RX8 17 "WordFletchersModel" "place" "[I") (List.mem_cons_of_mem _ (List.mem_append_left _ (List.mem_of_getElem? (i := 0) rfl)))) rfl dX8_one_41 ?_
      refine W.eq (g2 := F0 m 44 ls [.ref (a 3)]) rfl ?_
      refine lv_iload_n hx hb dX8_one_44 rfl (lv_at hl 2 rfl) ?_
      refine mq_iald hx hb hK hP 3 3 (n := 12) rfl (by decide) (Int.toNat pe) rfl (by omega) dX8_one_45 ?_
      exact mq_ret hx hb hr rfl (by first | (have q : kk = M 5 0 := (by omega); have q2 : st = s_kn M pe := (by rw [i2, q]; rfl); unfold s_one; omega) | (unfold s_one; (repeat' split) <;> first | rfl | omega)) dX8_one_46 hlocks rfl
    by_cases c3 : wh = 1
    · refine lv_tableIn (off := 34) (tgt := 47) hx hb dX8_one_13 (by rw [iZ_toInt (by omega)]; omega) (by rw [iZ_toInt (by omega)]; omega) (by rw [iZ_toInt (by omega), c3]; rfl) (by decide) ?_
      refine lv_aload_n hx hb dX8_one_47 rfl (lv_at hl 1 rfl) ?_
      refine mq_get hx hb hts hin hown hK hP 4 (by decide) (hts (.fieldLink RX8 20 "WordFletchersModel" "ear" "[I") (List.mem_cons_of_mem _ (List.mem_append_left _ (List.mem_of_getElem? (i := 1) rfl)))) rfl dX8_one_48 ?_
      refine lv_iload_n hx hb dX8_one_51 rfl (lv_at hl 2 rfl) ?_
      refine mq_iald hx hb hK hP 4 4 (n := 12) rfl (by decide) (Int.toNat pe) rfl (by omega) dX8_one_52 ?_
      exact mq_ret hx hb hr rfl (by first | (have q : kk = M 5 0 := (by omega); have q2 : st = s_kn M pe := (by rw [i2, q]; rfl); unfold s_one; omega) | (unfold s_one; (repeat' split) <;> first | rfl | omega)) dX8_one_53 hlocks rfl
    by_cases c4 : wh = 2
    · refine lv_tableIn (off := 41) (tgt := 54) hx hb dX8_one_13 (by rw [iZ_toInt (by omega)]; omega) (by rw [iZ_toInt (by omega)]; omega) (by rw [iZ_toInt (by omega), c4]; rfl) (by decide) ?_
      refine lv_iconst (v := iZ 0) hx hb dX8_one_54 (by decide) ?_
      refine lv_istore (lv' := [(4, .int (iZ 0)), (3, .int (iZ 0)), (0, .ref h), (1, .int (iZ pe)), (2, .int (iZ wh))]) hx hb dX8_one_55 hl (by decide) rfl (fun ls hl => ?_)
      replace hl : lv_has ls 5 [(4, .int (iZ (0 : Int))), (3, .int (iZ (0 : Int))), (0, .ref h), (1, .int (iZ pe))] := lv_sub hl [0, 1, 2, 3] rfl
      revert ls
      refine z_loop (σ := Int × Int) (fun x9 => (0 ≤ x9.2 ∧ x9.2 ≤ M 5 0) ∧ (x9.1 = s_knN (M 19) pe (Int.toNat x9.2))) (fun x9 => [(4, .int (iZ (x9.2))), (3, .int (iZ (x9.1))), (0, .ref h), (1, .int (iZ pe))]) 5 (fun x9 => (M 5 0 - x9.2).toNat) ((0 : Int), (0 : Int)) ⟨(by show 0 ≤ (0 : Int) ∧ (0 : Int) ≤ M 5 0; omega), (by show (0 : Int) = s_knN (M 19) pe (Int.toNat (0 : Int)); rfl)⟩ ?_
      rintro ⟨st, kk⟩ hI9 ih57 ls hl
      obtain ⟨i1, i2⟩ := hI9
      replace i1 : 0 ≤ kk ∧ kk ≤ M 5 0 := i1
      replace i2 : st = s_knN (M 19) pe (Int.toNat kk) := i2
      replace hl : lv_has ls 5 [(4, .int (iZ kk)), (3, .int (iZ st)), (0, .ref h), (1, .int (iZ pe))] := hl
      have hbd := s_knN_nn (M 19) pe (Int.toNat kk)
      have hzp := zp_nn kk
      have hkn : kk < M 5 0 → 0 ≤ M 19 (Int.toNat (6 + kk)) ∧ M 19 (Int.toNat (6 + kk)) < 64 := fun q => mI_kn hI ⟨by omega, by omega⟩
      refine lv_iload hx hb dX8_one_57 (lv_at hl 0 rfl) ?_
      refine lv_aload_n hx hb dX8_one_59 rfl (lv_at hl 2 rfl) ?_
      refine W.eq (g2 := F0 m 60 ls [.ref h, .int (iZ kk)]) rfl ?_
      refine mq_get hx hb hts hin hown hK hP 5 (by decide) (hts (.fieldLink RX8 23 "WordFletchersModel" "sayings" "[I") (List.mem_cons_of_mem _ (List.mem_append_left _ (List.mem_of_getElem? (i := 2) rfl)))) rfl dX8_one_60 ?_
      refine lv_iconst (v := iZ 0) hx hb dX8_one_63 (by decide) ?_
      refine mq_iald hx hb hK hP 5 5 (n := 2) rfl (by decide) 0 rfl (by omega) dX8_one_64 ?_
      refine z_icmp_ge (x := kk) (y := (M 5 0)) (tgt := 102) hx hb (by omega) (by omega) dX8_one_65 (by decide) (fun c5 => ?_) (fun c5 => ?_)
      · refine lv_iload_n hx hb dX8_one_102 rfl (lv_at hl 1 rfl) ?_
        refine W.eq (g2 := F0 m 103 ls [.int (iZ st)]) rfl ?_
        exact mq_ret hx hb hr rfl (by first | (have q : kk = M 5 0 := (by omega); have q2 : st = s_kn M pe := (by rw [i2, q]; rfl); unfold s_one; omega) | (unfold s_one; (repeat' split) <;> first | rfl | omega)) dX8_one_103 hlocks rfl
      · refine lv_iload_n hx hb dX8_one_68 rfl (lv_at hl 1 rfl) ?_
        refine lv_aload_n hx hb dX8_one_69 rfl (lv_at hl 2 rfl) ?_
        refine mq_get hx hb hts hin hown hK hP 19 (by decide) (hts (.fieldLink RX8 44 "WordFletchersModel" "now" "[I") (List.mem_cons_of_mem _ (List.mem_append_left _ (List.mem_of_getElem? (i := 3) rfl)))) rfl dX8_one_70 ?_
        refine lv_bipush (v := iZ 6) hx hb dX8_one_73 (by decide) ?_
        refine lv_iload hx hb dX8_one_75 (lv_at hl 0 rfl) ?_
        refine z_iadd hx hb dX8_one_77 ?_
        refine mq_iald hx hb hK hP 19 12 (n := 29) rfl (by decide) (Int.toNat (6 + kk)) rfl (by omega) dX8_one_78 ?_
        refine lv_iload_n hx hb dX8_one_79 rfl (lv_at hl 3 rfl) ?_
        refine mq_cs (As := [.int (iZ (M 19 (Int.toNat (6 + kk)))), .int (iZ pe)]) (rest := [.int (iZ st)]) ⟨hx, hb, hml, hown, hts⟩ (C_has l (M 19 (Int.toNat (6 + kk))) pe (by omega) (by omega)) (va_cwS 2 hts gX8_one_X8_has rfl rfl rfl (by decide +kernel) ⟨Nat.le_of_ble_eq_true rfl, Nat.le_of_ble_eq_true rfl⟩) rfl rfl hl.1 (Nat.le_of_ble_eq_true rfl) ⟨Nat.le_of_ble_eq_true rfl, Nat.le_of_ble_eq_true rfl⟩ dX8_one_80 ?_
        have K11 : ∀ (v10 : Int), (v10 = (if ((M 19 (Int.toNat (6 + kk))) / zp pe % 2 = 1) then (zp kk) else 0)) → ∀ ls : Array Slot, lv_has ls 5 [(4, .int (iZ kk)), (0, .ref h), (1, .int (iZ pe))] → W p l e ((headSpec wsX8_one ({ frames := 2, cells := 0, slots := 0, locals := 43 })).room) s m (([.ref h, .int (iZ pe), .int (iZ wh)] : List Value).toArray) below meth c s.heap [] 0 0 (MQ below (vp_Si (fun r => r = iZ (s_one M pe wh))) (([.ref h, .int (iZ pe), .int (iZ wh)] : List Value).toArray) s 0 0 (fun _ => False)) (F0 m 94 ls [.int (iZ v10), .int (iZ st)]) := by
          intro v10 hv10 ls hl
          refine z_ior hx hb (by omega) (by omega) dX8_one_94 ?_
          refine lv_istore_n (lv' := [(3, .int (iZ (zor st v10))), (4, .int (iZ kk)), (0, .ref h), (1, .int (iZ pe))]) hx hb dX8_one_95 rfl hl (by decide) rfl (fun ls hl => ?_)
          refine lv_iinc (v := iZ (kk + 1)) (lv' := [(4, .int (iZ (kk + 1))), (3, .int (iZ (zor st v10))), (0, .ref h), (1, .int (iZ pe))]) hx hb dX8_one_96 hl (k := 1) rfl (iZ_add _ _) (by decide) rfl (fun ls hl => ?_)
          refine lv_goto (tgt := 57) hx hb dX8_one_99 (by decide) ?_
          exact ih57 ((zor st v10), (kk + 1)) ⟨(by show 0 ≤ (kk + 1) ∧ (kk + 1) ≤ M 5 0; omega), (by show (zor st v10) = s_knN (M 19) pe (Int.toNat (kk + 1)); rw [s_knN_succ _ _ (by omega), ← i2]; congr 1)⟩ (by show (M 5 0 - (kk + 1)).toNat < (M 5 0 - kk).toNat; omega) ls (lv_sub hl [0, 1, 2, 3] rfl)
        refine z_ifb_eq (P := ((M 19 (Int.toNat (6 + kk))) / zp pe % 2 = 1)) (tgt := 93) hx hb dX8_one_83 (by decide) (fun c9 => ?_) (fun c9 => ?_)
        · refine lv_iconst (v := iZ 0) hx hb dX8_one_93 (by decide) ?_
          exact K11 0 (by first | rfl | (rw [if_neg c9]; done) | omega | (subst_vars; first | rfl | (rw [if_neg c9]; done) | omega)) ls (lv_sub hl [0, 2, 3] rfl)
        · refine W.eq (g2 := F0 m 86 ls [.int (iZ st)]) rfl ?_
          refine lv_iconst (v := iZ 1) hx hb dX8_one_86 (by decide) ?_
          refine lv_iload hx hb dX8_one_87 (lv_at hl 0 rfl) ?_
          refine z_ishl1 hx hb (by omega) dX8_one_89 ?_
          refine lv_goto (tgt := 94) hx hb dX8_one_90 (by decide) ?_
          exact K11 (zp kk) (by first | rfl | (rw [if_pos c9]; done) | omega | (subst_vars; first | rfl | (rw [if_pos c9]; done) | omega)) ls (lv_sub hl [0, 2, 3] rfl)
    refine lv_tableOut (tgt := 104) hx hb dX8_one_13 (by rw [iZ_toInt (by omega)]; omega) (by decide) ?_
    refine lv_iconst (v := iZ (-1)) hx hb dX8_one_104 (by decide) ?_
    exact mq_ret hx hb hr rfl (by first | (have q : kk = M 5 0 := (by omega); have q2 : st = s_kn M pe := (by rw [i2, q]; rfl); unfold s_one; omega) | (unfold s_one; (repeat' split) <;> first | rfl | omega)) dX8_one_105 hlocks rfl
  · refine lv_iconst (v := iZ (-1)) hx hb dX8_one_8 (by decide) ?_
    exact mq_ret hx hb hr rfl (by first | (have q : kk = M 5 0 := (by omega); have q2 : st = s_kn M pe := (by rw [i2, q]; rfl); unfold s_one; omega) | (unfold s_one; (repeat' split) <;> first | rfl | omega)) dX8_one_9 hlocks rfl
set_option maxHeartbeats 4000000 in
set_option maxRecDepth 100000 in
theorem C_saying (l : Launch) (D : va_G) (C : mC) (h : Nat) (a : Nat → Nat) (M : Nat → Nat → Int) (sy wh : Int) (hI : mI M) (h1 : -2147483648 ≤ sy ∧ sy < 2147483648) (h2 : -2147483648 ≤ wh ∧ wh < 2147483648) : Met l yX8_saying wsX8_saying ({ frames := 2, cells := 0, slots := 0, locals := 43 }) (va_Pc [.ref h, .int (iZ sy), .int (iZ wh)] (mOk D C h a M)) (vp_Si (fun r => r = iZ (s_saying M sy wh))) 0 0 (fun _ => False) := by
  refine Met.ofW (cc := cX8_saying) (maxL := 3) (ret := (some .int)) (by decide) rfl ?_
  intro p e s m args below meth c s₁ B hml hv
  obtain ⟨rfl, hP, hK⟩ := hv
  have hx := B.exec
  have hb := B.bytes
  have hr := B.returns
  have hts := atoms_spec (ws := wsX8_saying) B.pre
  have hown : s.vm.findClass RX8 = some m.cls := findClass_of_methodNamed B.named
  have hlocks := B.notSynchronized
  have hin : ∀ w ∈ wsX80, w ∈ wsX8_saying := fun _ w_h => (List.mem_cons_of_mem _ (List.mem_append_right _ w_h))
  have hl := lv_entry ([.ref h, .int (iZ sy), .int (iZ wh)]) (n := 3) (Nat.le_of_ble_eq_true rfl)
  rw [lg_entry_eq]
  generalize (lg_sl ([.ref h, .int (iZ sy), .int (iZ wh)]) ++ List.replicate (3 - (lg_sl ([.ref h, .int (iZ sy), .int (iZ wh)])).length) Slot.unset).toArray = ls at hl ⊢
  replace hl : lv_has ls 3 [(0, .ref h), (1, .int (iZ sy)), (2, .int (iZ wh))] := hl
  have hnw := mI_now hI
  refine W.eq (g2 := F0 m 0 ls []) rfl ?_
  refine lv_aload_n hx hb dX8_saying_0 rfl (lv_at hl 0 rfl) ?_
  refine lv_iload_n hx hb dX8_saying_1 rfl (lv_at hl 1 rfl) ?_
  refine mq_ci (As := [.int (iZ sy)]) (rest := []) ⟨hx, hb, hml, hown, hts⟩ hK hP (C_isSaying l D C h a M sy hI (by omega)) (cwV 1 hts gX8_saying_X8_isSaying rfl rfl rfl (by decide +kernel) ⟨Nat.le_of_ble_eq_true rfl, Nat.le_of_ble_eq_true rfl⟩) rfl rfl hl.1 (Nat.le_of_ble_eq_true rfl) ⟨Nat.le_of_ble_eq_true rfl, Nat.le_of_ble_eq_true rfl⟩ dX8_saying_2 ?_
  refine z_ifb_ne (P := (0 ≤ sy ∧ sy < M 5 0)) (tgt := 10) hx hb dX8_saying_5 (by decide) (fun c1 => ?_) (fun c1 => ?_)
  · refine lv_iload_n hx hb dX8_saying_10 rfl (lv_at hl 2 rfl) ?_
    by_cases c2 : wh = 0
    · refine lv_tableIn (off := 29) (tgt := 40) hx hb dX8_saying_11 (by rw [iZ_toInt (by omega)]; omega) (by rw [iZ_toInt (by omega)]; omega) (by rw [iZ_toInt (by omega), c2]; rfl) (by decide) ?_
      refine lv_aload_n hx hb dX8_saying_40 rfl (lv_at hl 0 rfl) ?_
      refine mq_get hx hb hts hin hown hK hP 6 (by decide) (hts (.fieldLink RX8 26 "WordFletchersModel" "weight" "[I") (List.mem_cons_of_mem _ (List.mem_append_left _ (List.mem_of_getElem? (i := 0) rfl)))) rfl dX8_saying_41 ?_
      refine lv_iload_n hx hb dX8_saying_44 rfl (lv_at hl 1 rfl) ?_
      refine mq_iald hx hb hK hP 6 6 (n := 12) rfl (by decide) (Int.toNat sy) rfl (by omega) dX8_saying_45 ?_
      exact mq_ret hx hb hr rfl (by unfold s_saying; (repeat' split) <;> first | rfl | omega) dX8_saying_46 hlocks rfl
    by_cases c3 : wh = 1
    · refine lv_tableIn (off := 36) (tgt := 47) hx hb dX8_saying_11 (by rw [iZ_toInt (by omega)]; omega) (by rw [iZ_toInt (by omega)]; omega) (by rw [iZ_toInt (by omega), c3]; rfl) (by decide) ?_
      refine lv_aload_n hx hb dX8_saying_47 rfl (lv_at hl 0 rfl) ?_
      refine W.eq (g2 := F0 m 48 ls [.ref h]) rfl ?_
      refine mq_get hx hb hts hin hown hK hP 7 (by decide) (hts (.fieldLink RX8 29 "WordFletchersModel" "twist" "[I") (List.mem_cons_of_mem _ (List.mem_append_left _ (List.mem_of_getElem? (i := 1) rfl)))) rfl dX8_saying_48 ?_
      refine lv_iload_n hx hb dX8_saying_51 rfl (lv_at hl 1 rfl) ?_
      refine mq_iald hx hb hK hP 7 7 (n := 12) rfl (by decide) (Int.toNat sy) rfl (by omega) dX8_saying_52 ?_
      exact mq_ret hx hb hr rfl (by unfold s_saying; (repeat' split) <;> first | rfl | omega) dX8_saying_53 hlocks rfl
    by_cases c4 : wh = 2
    · refine lv_tableIn (off := 43) (tgt := 54) hx hb dX8_saying_11 (by rw [iZ_toInt (by omega)]; omega) (by rw [iZ_toInt (by omega)]; omega) (by rw [iZ_toInt (by omega), c4]; rfl) (by decide) ?_
      refine lv_aload_n hx hb dX8_saying_54 rfl (lv_at hl 0 rfl) ?_
      refine mq_get hx hb hts hin hown hK hP 8 (by decide) (hts (.fieldLink RX8 32 "WordFletchersModel" "first" "[I") (List.mem_cons_of_mem _ (List.mem_append_left _ (List.mem_of_getElem? (i := 2) rfl)))) rfl dX8_saying_55 ?_
      refine lv_iload_n hx hb dX8_saying_58 rfl (lv_at hl 1 rfl) ?_
      refine mq_iald hx hb hK hP 8 8 (n := 12) rfl (by decide) (Int.toNat sy) rfl (by omega) dX8_saying_59 ?_
      exact mq_ret hx hb hr rfl (by unfold s_saying; (repeat' split) <;> first | rfl | omega) dX8_saying_60 hlocks rfl
    by_cases c5 : wh = 3
    · refine lv_tableIn (off := 50) (tgt := 61) hx hb dX8_saying_11 (by rw [iZ_toInt (by omega)]; omega) (by rw [iZ_toInt (by omega)]; omega) (by rw [iZ_toInt (by omega), c5]; rfl) (by decide) ?_
      refine lv_aload_n hx hb dX8_saying_61 rfl (lv_at hl 0 rfl) ?_
      refine mq_get hx hb hts hin hown hK hP 19 (by decide) (hts (.fieldLink RX8 44 "WordFletchersModel" "now" "[I") (List.mem_cons_of_mem _ (List.mem_append_left _ (List.mem_of_getElem? (i := 3) rfl)))) rfl dX8_saying_62 ?_
      refine lv_bipush (v := iZ 6) hx hb dX8_saying_65 (by decide) ?_
      refine W.eq (g2 := F0 m 67 ls [.int (iZ 6), .ref (a 19)]) rfl ?_
      refine lv_iload_n hx hb dX8_saying_67 rfl (lv_at hl 1 rfl) ?_
      refine z_iadd hx hb dX8_saying_68 ?_
      refine mq_iald hx hb hK hP 19 12 (n := 29) rfl (by decide) (Int.toNat (6 + sy)) rfl (by omega) dX8_saying_69 ?_
      exact mq_ret hx hb hr rfl (by unfold s_saying; (repeat' split) <;> first | rfl | omega) dX8_saying_70 hlocks rfl
    refine lv_tableOut (tgt := 71) hx hb dX8_saying_11 (by rw [iZ_toInt (by omega)]; omega) (by decide) ?_
    refine lv_iconst (v := iZ (-1)) hx hb dX8_saying_71 (by decide) ?_
    exact mq_ret hx hb hr rfl (by unfold s_saying; (repeat' split) <;> first | rfl | omega) dX8_saying_72 hlocks rfl
  · refine lv_iconst (v := iZ (-1)) hx hb dX8_saying_8 (by decide) ?_
    exact mq_ret hx hb hr rfl (by unfold s_saying; (repeat' split) <;> first | rfl | omega) dX8_saying_9 hlocks rfl
set_option maxHeartbeats 4000000 in
set_option maxRecDepth 100000 in
theorem C_wind (l : Launch) (D : va_G) (C : mC) (h : Nat) (a : Nat → Nat) (M : Nat → Nat → Int) (nn : Int) (hI : mI M) (h1 : -2147483648 ≤ nn ∧ nn < 2147483648) : Met l yX8_wind wsX8_wind ({ frames := 1, cells := 0, slots := 0, locals := 22 }) (va_Pc [.ref h, .int (iZ nn)] (mOk D C h a M)) (vp_Si (fun r => r = iZ (if (0 ≤ nn ∧ nn ≤ 99) then s_wind M nn else -1000000))) 0 0 (fun _ => False) := by
  refine Met.ofW (cc := cX8_wind) (maxL := 2) (ret := (some .int)) (by decide) rfl ?_
  intro p e s m args below meth c s₁ B hml hv
  obtain ⟨rfl, hP, hK⟩ := hv
  have hx := B.exec
  have hb := B.bytes
  have hr := B.returns
  have hts := atoms_spec (ws := wsX8_wind) B.pre
  have hown : s.vm.findClass RX8 = some m.cls := findClass_of_methodNamed B.named
  have hlocks := B.notSynchronized
  have hin : ∀ w ∈ wsX80, w ∈ wsX8_wind := fun _ w_h => (List.mem_cons_of_mem _ (List.mem_append_right _ w_h))
  have hl := lv_entry ([.ref h, .int (iZ nn)]) (n := 2) (Nat.le_of_ble_eq_true rfl)
  rw [lg_entry_eq]
  generalize (lg_sl ([.ref h, .int (iZ nn)]) ++ List.replicate (2 - (lg_sl ([.ref h, .int (iZ nn)])).length) Slot.unset).toArray = ls at hl ⊢
  replace hl : lv_has ls 2 [(0, .ref h), (1, .int (iZ nn))] := hl
  have hnw := mI_now hI
  refine lv_iload_n hx hb dX8_wind_0 rfl (lv_at hl 1 rfl) ?_
  refine lv_iconst (v := iZ 0) hx hb dX8_wind_1 (by decide) ?_
  refine lv_bipush (v := iZ 99) hx hb dX8_wind_2 (by decide) ?_
  refine mq_cs (As := [.int (iZ nn), .int (iZ 0), .int (iZ 99)]) (rest := []) ⟨hx, hb, hml, hown, hts⟩ (C_in l nn 0 99 (by omega) (by omega) (by omega)) (va_cwS 3 hts gX8_wind_X8_in rfl rfl rfl (by decide +kernel) ⟨Nat.le_of_ble_eq_true rfl, Nat.le_of_ble_eq_true rfl⟩) rfl rfl hl.1 (Nat.le_of_ble_eq_true rfl) ⟨Nat.le_of_ble_eq_true rfl, Nat.le_of_ble_eq_true rfl⟩ dX8_wind_4 ?_
  refine W.eq (g2 := F0 m 7 ls [.int (iZ (if (0 ≤ nn ∧ nn ≤ 99) then 1 else 0))]) rfl ?_
  have K3 : ∀ (v2 : Int), (v2 = (if (0 ≤ nn ∧ nn ≤ 99) then s_wind M nn else (-1000000))) → ∀ ls : Array Slot, lv_has ls 2 [] → W p l e ((headSpec wsX8_wind ({ frames := 1, cells := 0, slots := 0, locals := 22 })).room) s m (([.ref h, .int (iZ nn)] : List Value).toArray) below meth c s.heap [] 0 0 (MQ below (vp_Si (fun r => r = iZ (if (0 ≤ nn ∧ nn ≤ 99) then s_wind M nn else -1000000))) (([.ref h, .int (iZ nn)] : List Value).toArray) s 0 0 (fun _ => False)) (F0 m 20 ls [.int (iZ v2)]) := by
    intro v2 hv2 ls hl
    exact mq_ret hx hb hr rfl (by first | omega | ((repeat' split) <;> first | rfl | omega)) dX8_wind_20 hlocks rfl
  refine z_ifb_eq (P := (0 ≤ nn ∧ nn ≤ 99)) (tgt := 18) hx hb dX8_wind_7 (by decide) (fun c1 => ?_) (fun c1 => ?_)
  · refine z_ldc (n := (-1000000)) hx hb hown (hts (.constant RX8 154 (-1000000)) (List.mem_cons_of_mem _ (List.mem_append_left _ (List.mem_of_getElem? (i := 0) rfl)))) (by decide) dX8_wind_18 ?_
    exact K3 (-1000000) (by first | rfl | (rw [if_neg c1]; done) | omega | (subst_vars; first | rfl | (rw [if_neg c1]; done) | omega)) ls (lv_sub hl [] rfl)
  · refine lv_aload_n hx hb dX8_wind_10 rfl (lv_at hl 0 rfl) ?_
    refine lv_iload_n hx hb dX8_wind_11 rfl (lv_at hl 1 rfl) ?_
    refine mq_ci (As := [.int (iZ nn)]) (rest := []) ⟨hx, hb, hml, hown, hts⟩ hK hP (C_windIn l D C h a M nn hI (by omega)) (cwV 1 hts gX8_wind_X8_windIn rfl rfl rfl (by decide +kernel) ⟨Nat.le_of_ble_eq_true rfl, Nat.le_of_ble_eq_true rfl⟩) rfl rfl hl.1 (Nat.le_of_ble_eq_true rfl) ⟨Nat.le_of_ble_eq_true rfl, Nat.le_of_ble_eq_true rfl⟩ dX8_wind_12 ?_
    have hwi := mI_wd hI nn
    refine lv_goto (tgt := 20) hx hb dX8_wind_15 (by decide) ?_
    exact K3 (s_wind M nn) (by first | rfl | (rw [if_pos c1]; done) | omega | (subst_vars; first | rfl | (rw [if_pos c1]; done) | omega)) ls (lv_sub hl [] rfl)
set_option maxHeartbeats 4000000 in
set_option maxRecDepth 100000 in
theorem C_stray (l : Launch) (D : va_G) (C : mC) (h : Nat) (a : Nat → Nat) (M : Nat → Nat → Int) (ii wh : Int) (hI : mI M) (h1 : -2147483648 ≤ ii ∧ ii < 2147483648) (h2 : -2147483648 ≤ wh ∧ wh < 2147483648) : Met l yX8_stray wsX8_stray ({ frames := 1, cells := 0, slots := 0, locals := 22 }) (va_Pc [.ref h, .int (iZ ii), .int (iZ wh)] (mOk D C h a M)) (vp_Si (fun r => r = iZ (s_stray M ii wh))) 0 0 (fun _ => False) := by
  refine Met.ofW (cc := cX8_stray) (maxL := 3) (ret := (some .int)) (by decide) rfl ?_
  intro p e s m args below meth c s₁ B hml hv
  obtain ⟨rfl, hP, hK⟩ := hv
  have hx := B.exec
  have hb := B.bytes
  have hr := B.returns
  have hts := atoms_spec (ws := wsX8_stray) B.pre
  have hown : s.vm.findClass RX8 = some m.cls := findClass_of_methodNamed B.named
  have hlocks := B.notSynchronized
  have hin : ∀ w ∈ wsX80, w ∈ wsX8_stray := fun _ w_h => (List.mem_cons_of_mem _ (List.mem_append_right _ w_h))
  have hl := lv_entry ([.ref h, .int (iZ ii), .int (iZ wh)]) (n := 3) (Nat.le_of_ble_eq_true rfl)
  rw [lg_entry_eq]
  generalize (lg_sl ([.ref h, .int (iZ ii), .int (iZ wh)]) ++ List.replicate (3 - (lg_sl ([.ref h, .int (iZ ii), .int (iZ wh)])).length) Slot.unset).toArray = ls at hl ⊢
  replace hl : lv_has ls 3 [(0, .ref h), (1, .int (iZ ii)), (2, .int (iZ wh))] := hl
  have hnw := mI_now hI
  refine lv_iload_n hx hb dX8_stray_0 rfl (lv_at hl 1 rfl) ?_
  refine lv_iconst (v := iZ 0) hx hb dX8_stray_1 (by decide) ?_
  refine lv_bipush (v := iZ 7) hx hb dX8_stray_2 (by decide) ?_
  refine mq_cs (As := [.int (iZ ii), .int (iZ 0), .int (iZ 7)]) (rest := []) ⟨hx, hb, hml, hown, hts⟩ (C_in l ii 0 7 (by omega) (by omega) (by omega)) (va_cwS 3 hts gX8_stray_X8_in rfl rfl rfl (by decide +kernel) ⟨Nat.le_of_ble_eq_true rfl, Nat.le_of_ble_eq_true rfl⟩) rfl rfl hl.1 (Nat.le_of_ble_eq_true rfl) ⟨Nat.le_of_ble_eq_true rfl, Nat.le_of_ble_eq_true rfl⟩ dX8_stray_4 ?_
  refine z_ifb_eq (P := (0 ≤ ii ∧ ii ≤ 7)) (tgt := 19) hx hb dX8_stray_7 (by decide) (fun c1 => ?_) (fun c1 => ?_)
  · refine W.eq (g2 := F0 m 19 ls []) rfl ?_
    refine lv_iconst (v := iZ (-1)) hx hb dX8_stray_19 (by decide) ?_
    exact mq_ret hx hb hr rfl (by unfold s_stray; subst_vars; (repeat' split) <;> first | rfl | omega) dX8_stray_20 hlocks rfl
  · refine lv_iload_n hx hb dX8_stray_10 rfl (lv_at hl 2 rfl) ?_
    refine lv_iconst (v := iZ 0) hx hb dX8_stray_11 (by decide) ?_
    refine lv_iconst (v := iZ 1) hx hb dX8_stray_12 (by decide) ?_
    refine mq_cs (As := [.int (iZ wh), .int (iZ 0), .int (iZ 1)]) (rest := []) ⟨hx, hb, hml, hown, hts⟩ (C_in l wh 0 1 (by omega) (by omega) (by omega)) (va_cwS 3 hts gX8_stray_X8_in rfl rfl rfl (by decide +kernel) ⟨Nat.le_of_ble_eq_true rfl, Nat.le_of_ble_eq_true rfl⟩) rfl rfl hl.1 (Nat.le_of_ble_eq_true rfl) ⟨Nat.le_of_ble_eq_true rfl, Nat.le_of_ble_eq_true rfl⟩ dX8_stray_13 ?_
    refine z_ifb_ne (P := (0 ≤ wh ∧ wh ≤ 1)) (tgt := 21) hx hb dX8_stray_16 (by decide) (fun c2 => ?_) (fun c2 => ?_)
    · refine lv_iload_n hx hb dX8_stray_21 rfl (lv_at hl 1 rfl) ?_
      refine lv_aload_n hx hb dX8_stray_22 rfl (lv_at hl 0 rfl) ?_
      refine mq_get hx hb hts hin hown hK hP 19 (by decide) (hts (.fieldLink RX8 44 "WordFletchersModel" "now" "[I") (List.mem_cons_of_mem _ (List.mem_append_left _ (List.mem_of_getElem? (i := 0) rfl)))) rfl dX8_stray_23 ?_
      refine lv_bipush (v := iZ 12) hx hb dX8_stray_26 (by decide) ?_
      refine mq_iald hx hb hK hP 19 12 (n := 29) rfl (by decide) 12 rfl (by omega) dX8_stray_28 ?_
      refine W.eq (g2 := F0 m 29 ls [.int (iZ (M 19 12)), .int (iZ ii)]) rfl ?_
      have K8 : ∀ (v7 : Int), (v7 = (if ii < (M 19 12) then (M 19 (Int.toNat ((if wh = 0 then 13 else 21) + ii))) else (-9))) → ∀ ls : Array Slot, lv_has ls 3 [] → W p l e ((headSpec wsX8_stray ({ frames := 1, cells := 0, slots := 0, locals := 22 })).room) s m (([.ref h, .int (iZ ii), .int (iZ wh)] : List Value).toArray) below meth c s.heap [] 0 0 (MQ below (vp_Si (fun r => r = iZ (s_stray M ii wh))) (([.ref h, .int (iZ ii), .int (iZ wh)] : List Value).toArray) s 0 0 (fun _ => False)) (F0 m 55 ls [.int (iZ v7)]) := by
        intro v7 hv7 ls hl
        exact mq_ret hx hb hr rfl (by unfold s_stray; subst_vars; (repeat' split) <;> first | rfl | omega) dX8_stray_55 hlocks rfl
      refine z_icmp_lt (x := ii) (y := (M 19 12)) (tgt := 37) hx hb (by omega) (by omega) dX8_stray_29 (by decide) (fun c3 => ?_) (fun c3 => ?_)
      · refine lv_aload_n hx hb dX8_stray_37 rfl (lv_at hl 0 rfl) ?_
        refine mq_get hx hb hts hin hown hK hP 19 (by decide) (hts (.fieldLink RX8 44 "WordFletchersModel" "now" "[I") (List.mem_cons_of_mem _ (List.mem_append_left _ (List.mem_of_getElem? (i := 0) rfl)))) rfl dX8_stray_38 ?_
        refine lv_iload_n hx hb dX8_stray_41 rfl (lv_at hl 2 rfl) ?_
        have K6 : ∀ (v5 : Int), (v5 = (if wh = 0 then 13 else 21)) → ∀ ls : Array Slot, lv_has ls 3 [(1, .int (iZ ii))] → W p l e ((headSpec wsX8_stray ({ frames := 1, cells := 0, slots := 0, locals := 22 })).room) s m (([.ref h, .int (iZ ii), .int (iZ wh)] : List Value).toArray) below meth c s.heap [] 0 0 (MQ below (vp_Si (fun r => r = iZ (s_stray M ii wh))) (([.ref h, .int (iZ ii), .int (iZ wh)] : List Value).toArray) s 0 0 (fun _ => False)) (F0 m 52 ls [.int (iZ v5), .ref (a 19)]) := by
          intro v5 hv5 ls hl
          refine lv_iload_n hx hb dX8_stray_52 rfl (lv_at hl 0 rfl) ?_
          refine z_iadd hx hb dX8_stray_53 ?_
          refine mq_iald hx hb hK hP 19 12 (n := 29) rfl (by decide) (Int.toNat (v5 + ii)) rfl (by omega) dX8_stray_54 ?_
          exact K8 (M 19 (Int.toNat (v5 + ii))) (by first | rfl | (rw [if_pos c3]; done) | omega | (subst_vars; first | rfl | (rw [if_pos c3]; done) | omega)) ls (lv_sub hl [] rfl)
        refine z_if_ne (x := wh) (tgt := 50) hx hb (by omega) dX8_stray_42 (by decide) (fun c4 => ?_) (fun c4 => ?_)
        · refine lv_bipush (v := iZ 21) hx hb dX8_stray_50 (by decide) ?_
          exact K6 21 (by first | rfl | (rw [if_neg c4]; done) | omega | (subst_vars; first | rfl | (rw [if_neg c4]; done) | omega)) ls (lv_sub hl [1] rfl)
        · refine lv_bipush (v := iZ 13) hx hb dX8_stray_45 (by decide) ?_
          refine lv_goto (tgt := 52) hx hb dX8_stray_47 (by decide) ?_
          exact K6 13 (by first | rfl | (rw [if_pos c4]; done) | omega | (subst_vars; first | rfl | (rw [if_pos c4]; done) | omega)) ls (lv_sub hl [1] rfl)
      · refine lv_bipush (v := iZ (-9)) hx hb dX8_stray_32 (by decide) ?_
        refine W.eq (g2 := F0 m 34 ls [.int (iZ (-9))]) rfl ?_
        refine lv_goto (tgt := 55) hx hb dX8_stray_34 (by decide) ?_
        exact K8 (-9) (by first | rfl | (rw [if_neg c3]; done) | omega | (subst_vars; first | rfl | (rw [if_neg c3]; done) | omega)) ls (lv_sub hl [] rfl)
    · refine lv_iconst (v := iZ (-1)) hx hb dX8_stray_19 (by decide) ?_
      exact mq_ret hx hb hr rfl (by unfold s_stray; subst_vars; (repeat' split) <;> first | rfl | omega) dX8_stray_20 hlocks rfl
set_option maxHeartbeats 4000000 in
set_option maxRecDepth 100000 in
theorem C_now (l : Launch) (D : va_G) (C : mC) (h : Nat) (a : Nat → Nat) (M : Nat → Nat → Int) (wh : Int) (hI : mI M) (h1 : -2147483648 ≤ wh ∧ wh < 2147483648) : Met l yX8_now wsX8_now ({ frames := 0, cells := 0, slots := 0, locals := 0 }) (va_Pc [.ref h, .int (iZ wh)] (mOk D C h a M)) (vp_Si (fun r => r = iZ (s_now M wh))) 0 0 (fun _ => False) := by
  refine Met.ofW (cc := cX8_now) (maxL := 2) (ret := (some .int)) (by decide) rfl ?_
  intro p e s m args below meth c s₁ B hml hv
  obtain ⟨rfl, hP, hK⟩ := hv
  have hx := B.exec
  have hb := B.bytes
  have hr := B.returns
  have hts := atoms_spec (ws := wsX8_now) B.pre
  have hown : s.vm.findClass RX8 = some m.cls := findClass_of_methodNamed B.named
  have hlocks := B.notSynchronized
  have hin : ∀ w ∈ wsX80, w ∈ wsX8_now := fun _ w_h => (List.mem_cons_of_mem _ (List.mem_append_right _ w_h))
  have hl := lv_entry ([.ref h, .int (iZ wh)]) (n := 2) (Nat.le_of_ble_eq_true rfl)
  rw [lg_entry_eq]
  generalize (lg_sl ([.ref h, .int (iZ wh)]) ++ List.replicate (2 - (lg_sl ([.ref h, .int (iZ wh)])).length) Slot.unset).toArray = ls at hl ⊢
  replace hl : lv_has ls 2 [(0, .ref h), (1, .int (iZ wh))] := hl
  have hnw := mI_now hI
  refine lv_iload_n hx hb dX8_now_0 rfl (lv_at hl 1 rfl) ?_
  by_cases c1 : wh = 0
  · refine lv_tableIn (off := 43) (tgt := 44) hx hb dX8_now_1 (by rw [iZ_toInt (by omega)]; omega) (by rw [iZ_toInt (by omega)]; omega) (by rw [iZ_toInt (by omega), c1]; rfl) (by decide) ?_
    refine lv_aload_n hx hb dX8_now_44 rfl (lv_at hl 0 rfl) ?_
    refine mq_get hx hb hts hin hown hK hP 19 (by decide) (hts (.fieldLink RX8 44 "WordFletchersModel" "now" "[I") (List.mem_cons_of_mem _ (List.mem_append_left _ (List.mem_of_getElem? (i := 0) rfl)))) rfl dX8_now_45 ?_
    refine lv_iload_n hx hb dX8_now_48 rfl (lv_at hl 1 rfl) ?_
    refine mq_iald hx hb hK hP 19 12 (n := 29) rfl (by decide) (Int.toNat wh) rfl (by omega) dX8_now_49 ?_
    exact mq_ret hx hb hr rfl (by unfold s_now; subst_vars; (repeat' split) <;> first | rfl | omega) dX8_now_50 hlocks rfl
  by_cases c2 : wh = 1
  · refine lv_tableIn (off := 43) (tgt := 44) hx hb dX8_now_1 (by rw [iZ_toInt (by omega)]; omega) (by rw [iZ_toInt (by omega)]; omega) (by rw [iZ_toInt (by omega), c2]; rfl) (by decide) ?_
    refine lv_aload_n hx hb dX8_now_44 rfl (lv_at hl 0 rfl) ?_
    refine W.eq (g2 := F0 m 45 ls [.ref h]) rfl ?_
    refine mq_get hx hb hts hin hown hK hP 19 (by decide) (hts (.fieldLink RX8 44 "WordFletchersModel" "now" "[I") (List.mem_cons_of_mem _ (List.mem_append_left _ (List.mem_of_getElem? (i := 0) rfl)))) rfl dX8_now_45 ?_
    refine lv_iload_n hx hb dX8_now_48 rfl (lv_at hl 1 rfl) ?_
    refine mq_iald hx hb hK hP 19 12 (n := 29) rfl (by decide) (Int.toNat wh) rfl (by omega) dX8_now_49 ?_
    exact mq_ret hx hb hr rfl (by unfold s_now; subst_vars; (repeat' split) <;> first | rfl | omega) dX8_now_50 hlocks rfl
  by_cases c3 : wh = 2
  · refine lv_tableIn (off := 43) (tgt := 44) hx hb dX8_now_1 (by rw [iZ_toInt (by omega)]; omega) (by rw [iZ_toInt (by omega)]; omega) (by rw [iZ_toInt (by omega), c3]; rfl) (by decide) ?_
    refine lv_aload_n hx hb dX8_now_44 rfl (lv_at hl 0 rfl) ?_
    refine mq_get hx hb hts hin hown hK hP 19 (by decide) (hts (.fieldLink RX8 44 "WordFletchersModel" "now" "[I") (List.mem_cons_of_mem _ (List.mem_append_left _ (List.mem_of_getElem? (i := 0) rfl)))) rfl dX8_now_45 ?_
    refine lv_iload_n hx hb dX8_now_48 rfl (lv_at hl 1 rfl) ?_
    refine mq_iald hx hb hK hP 19 12 (n := 29) rfl (by decide) (Int.toNat wh) rfl (by omega) dX8_now_49 ?_
    exact mq_ret hx hb hr rfl (by unfold s_now; subst_vars; (repeat' split) <;> first | rfl | omega) dX8_now_50 hlocks rfl
  by_cases c4 : wh = 3
  · refine lv_tableIn (off := 43) (tgt := 44) hx hb dX8_now_1 (by rw [iZ_toInt (by omega)]; omega) (by rw [iZ_toInt (by omega)]; omega) (by rw [iZ_toInt (by omega), c4]; rfl) (by decide) ?_
    refine lv_aload_n hx hb dX8_now_44 rfl (lv_at hl 0 rfl) ?_
    refine mq_get hx hb hts hin hown hK hP 19 (by decide) (hts (.fieldLink RX8 44 "WordFletchersModel" "now" "[I") (List.mem_cons_of_mem _ (List.mem_append_left _ (List.mem_of_getElem? (i := 0) rfl)))) rfl dX8_now_45 ?_
    refine lv_iload_n hx hb dX8_now_48 rfl (lv_at hl 1 rfl) ?_
    refine W.eq (g2 := F0 m 49 ls [.int (iZ wh), .ref (a 19)]) rfl ?_
    refine mq_iald hx hb hK hP 19 12 (n := 29) rfl (by decide) (Int.toNat wh) rfl (by omega) dX8_now_49 ?_
    exact mq_ret hx hb hr rfl (by unfold s_now; subst_vars; (repeat' split) <;> first | rfl | omega) dX8_now_50 hlocks rfl
  by_cases c5 : wh = 4
  · refine lv_tableIn (off := 43) (tgt := 44) hx hb dX8_now_1 (by rw [iZ_toInt (by omega)]; omega) (by rw [iZ_toInt (by omega)]; omega) (by rw [iZ_toInt (by omega), c5]; rfl) (by decide) ?_
    refine lv_aload_n hx hb dX8_now_44 rfl (lv_at hl 0 rfl) ?_
    refine mq_get hx hb hts hin hown hK hP 19 (by decide) (hts (.fieldLink RX8 44 "WordFletchersModel" "now" "[I") (List.mem_cons_of_mem _ (List.mem_append_left _ (List.mem_of_getElem? (i := 0) rfl)))) rfl dX8_now_45 ?_
    refine lv_iload_n hx hb dX8_now_48 rfl (lv_at hl 1 rfl) ?_
    refine mq_iald hx hb hK hP 19 12 (n := 29) rfl (by decide) (Int.toNat wh) rfl (by omega) dX8_now_49 ?_
    exact mq_ret hx hb hr rfl (by unfold s_now; subst_vars; (repeat' split) <;> first | rfl | omega) dX8_now_50 hlocks rfl
  by_cases c6 : wh = 5
  · refine lv_tableIn (off := 43) (tgt := 44) hx hb dX8_now_1 (by rw [iZ_toInt (by omega)]; omega) (by rw [iZ_toInt (by omega)]; omega) (by rw [iZ_toInt (by omega), c6]; rfl) (by decide) ?_
    refine lv_aload_n hx hb dX8_now_44 rfl (lv_at hl 0 rfl) ?_
    refine mq_get hx hb hts hin hown hK hP 19 (by decide) (hts (.fieldLink RX8 44 "WordFletchersModel" "now" "[I") (List.mem_cons_of_mem _ (List.mem_append_left _ (List.mem_of_getElem? (i := 0) rfl)))) rfl dX8_now_45 ?_
    refine lv_iload_n hx hb dX8_now_48 rfl (lv_at hl 1 rfl) ?_
    refine mq_iald hx hb hK hP 19 12 (n := 29) rfl (by decide) (Int.toNat wh) rfl (by omega) dX8_now_49 ?_
    exact mq_ret hx hb hr rfl (by unfold s_now; subst_vars; (repeat' split) <;> first | rfl | omega) dX8_now_50 hlocks rfl
  by_cases c7 : wh = 6
  · refine lv_tableIn (off := 50) (tgt := 51) hx hb dX8_now_1 (by rw [iZ_toInt (by omega)]; omega) (by rw [iZ_toInt (by omega)]; omega) (by rw [iZ_toInt (by omega), c7]; rfl) (by decide) ?_
    refine W.eq (g2 := F0 m 51 ls []) rfl ?_
    refine lv_aload_n hx hb dX8_now_51 rfl (lv_at hl 0 rfl) ?_
    refine mq_get hx hb hts hin hown hK hP 19 (by decide) (hts (.fieldLink RX8 44 "WordFletchersModel" "now" "[I") (List.mem_cons_of_mem _ (List.mem_append_left _ (List.mem_of_getElem? (i := 0) rfl)))) rfl dX8_now_52 ?_
    refine lv_bipush (v := iZ 12) hx hb dX8_now_55 (by decide) ?_
    refine mq_iald hx hb hK hP 19 12 (n := 29) rfl (by decide) 12 rfl (by omega) dX8_now_57 ?_
    exact mq_ret hx hb hr rfl (by unfold s_now; subst_vars; (repeat' split) <;> first | rfl | omega) dX8_now_58 hlocks rfl
  refine lv_tableOut (tgt := 59) hx hb dX8_now_1 (by rw [iZ_toInt (by omega)]; omega) (by decide) ?_
  refine lv_iconst (v := iZ (-1)) hx hb dX8_now_59 (by decide) ?_
  exact mq_ret hx hb hr rfl (by unfold s_now; subst_vars; (repeat' split) <;> first | rfl | omega) dX8_now_60 hlocks rfl
set_option maxHeartbeats 4000000 in
set_option maxRecDepth 100000 in
theorem C_lands (l : Launch) (D : va_G) (C : mC) (h : Nat) (a : Nat → Nat) (M : Nat → Nat → Int) (pe sy fe nn sd : Int) (hI : mI M) (h0 : -2147483648 ≤ pe ∧ pe < 2147483648) (h1 : -2147483648 ≤ sy ∧ sy < 2147483648) (h2 : -2147483648 ≤ fe ∧ fe < 2147483648) (h3 : -2147483648 ≤ nn ∧ nn < 2147483648) (h4 : -2147483648 ≤ sd ∧ sd < 2147483648) : Met l yX8_lands wsX8_lands ({ frames := 2, cells := 0, slots := 0, locals := 52 }) (va_Pc [.ref h, .int (iZ pe), .int (iZ sy), .int (iZ fe), .int (iZ nn), .int (iZ sd)] (mOk D C h a M)) (vp_Si (fun r => r = iZ (s_lands M pe sy fe nn sd))) 0 0 (fun _ => False) := by
  refine Met.ofW (cc := cX8_lands) (maxL := 6) (ret := (some .int)) (by decide) rfl ?_
  intro p e s m args below meth c s₁ B hml hv
  obtain ⟨rfl, hP, hK⟩ := hv
  have hx := B.exec
  have hb := B.bytes
  have hr := B.returns
  have hts := atoms_spec (ws := wsX8_lands) B.pre
  have hown : s.vm.findClass RX8 = some m.cls := findClass_of_methodNamed B.named
  have hlocks := B.notSynchronized
  have hin : ∀ w ∈ wsX80, w ∈ wsX8_lands := fun _ w_h => (List.mem_cons_of_mem _ (List.mem_append_right _ w_h))
  have hl := lv_entry ([.ref h, .int (iZ pe), .int (iZ sy), .int (iZ fe), .int (iZ nn), .int (iZ sd)]) (n := 6) (Nat.le_of_ble_eq_true rfl)
  rw [lg_entry_eq]
  generalize (lg_sl ([.ref h, .int (iZ pe), .int (iZ sy), .int (iZ fe), .int (iZ nn), .int (iZ sd)]) ++ List.replicate (6 - (lg_sl ([.ref h, .int (iZ pe), .int (iZ sy), .int (iZ fe), .int (iZ nn), .int (iZ sd)])).length) Slot.unset).toArray = ls at hl ⊢
  replace hl : lv_has ls 6 [(0, .ref h), (1, .int (iZ pe)), (2, .int (iZ sy)), (3, .int (iZ fe)), (4, .int (iZ nn)), (5, .int (iZ sd))] := hl
  have hnw := mI_now hI
  refine lv_aload_n hx hb dX8_lands_0 rfl (lv_at hl 0 rfl) ?_
  refine lv_iload_n hx hb dX8_lands_1 rfl (lv_at hl 1 rfl) ?_
  refine mq_ci (As := [.int (iZ pe)]) (rest := []) ⟨hx, hb, hml, hown, hts⟩ hK hP (C_isOne l D C h a M pe hI (by omega)) (cwV 1 hts gX8_lands_X8_isOne rfl rfl rfl (by decide +kernel) ⟨Nat.le_of_ble_eq_true rfl, Nat.le_of_ble_eq_true rfl⟩) rfl rfl hl.1 (Nat.le_of_ble_eq_true rfl) ⟨Nat.le_of_ble_eq_true rfl, Nat.le_of_ble_eq_true rfl⟩ dX8_lands_2 ?_
  refine z_ifb_eq (P := (0 ≤ pe ∧ pe < M 2 0)) (tgt := 27) hx hb dX8_lands_5 (by decide) (fun c1 => ?_) (fun c1 => ?_)
  · refine lv_iconst (v := iZ (-1)) hx hb dX8_lands_27 (by decide) ?_
    refine W.eq (g2 := F0 m 28 ls [.int (iZ (-1))]) rfl ?_
    exact mq_ret hx hb hr rfl (by unfold s_lands; (repeat' split) <;> first | rfl | omega) dX8_lands_28 hlocks rfl
  · refine lv_aload_n hx hb dX8_lands_8 rfl (lv_at hl 0 rfl) ?_
    refine lv_iload_n hx hb dX8_lands_9 rfl (lv_at hl 2 rfl) ?_
    refine mq_ci (As := [.int (iZ sy)]) (rest := []) ⟨hx, hb, hml, hown, hts⟩ hK hP (C_isSaying l D C h a M sy hI (by omega)) (cwV 1 hts gX8_lands_X8_isSaying rfl rfl rfl (by decide +kernel) ⟨Nat.le_of_ble_eq_true rfl, Nat.le_of_ble_eq_true rfl⟩) rfl rfl hl.1 (Nat.le_of_ble_eq_true rfl) ⟨Nat.le_of_ble_eq_true rfl, Nat.le_of_ble_eq_true rfl⟩ dX8_lands_10 ?_
    refine z_ifb_eq (P := (0 ≤ sy ∧ sy < M 5 0)) (tgt := 27) hx hb dX8_lands_13 (by decide) (fun c2 => ?_) (fun c2 => ?_)
    · refine lv_iconst (v := iZ (-1)) hx hb dX8_lands_27 (by decide) ?_
      exact mq_ret hx hb hr rfl (by unfold s_lands; (repeat' split) <;> first | rfl | omega) dX8_lands_28 hlocks rfl
    · refine lv_iload_n hx hb dX8_lands_16 rfl (lv_at hl 3 rfl) ?_
      refine lv_iload hx hb dX8_lands_17 (lv_at hl 4 rfl) ?_
      refine lv_iload hx hb dX8_lands_19 (lv_at hl 5 rfl) ?_
      refine mq_cs (As := [.int (iZ fe), .int (iZ nn), .int (iZ sd)]) (rest := []) ⟨hx, hb, hml, hown, hts⟩ (C_isShot l fe nn sd (by omega) (by omega) (by omega)) (va_cwS 3 hts gX8_lands_X8_isShot rfl rfl rfl (by decide +kernel) ⟨Nat.le_of_ble_eq_true rfl, Nat.le_of_ble_eq_true rfl⟩) rfl rfl hl.1 (Nat.le_of_ble_eq_true rfl) ⟨Nat.le_of_ble_eq_true rfl, Nat.le_of_ble_eq_true rfl⟩ dX8_lands_21 ?_
      refine z_ifb_ne (P := ((0 ≤ fe ∧ fe ≤ 3) ∧ (0 ≤ nn ∧ nn ≤ 3) ∧ (0 ≤ sd ∧ sd ≤ 1))) (tgt := 29) hx hb dX8_lands_24 (by decide) (fun c3 => ?_) (fun c3 => ?_)
      · refine W.eq (g2 := F0 m 29 ls []) rfl ?_
        refine lv_aload_n hx hb dX8_lands_29 rfl (lv_at hl 0 rfl) ?_
        refine lv_iload_n hx hb dX8_lands_30 rfl (lv_at hl 1 rfl) ?_
        refine lv_iload_n hx hb dX8_lands_31 rfl (lv_at hl 2 rfl) ?_
        refine lv_iload_n hx hb dX8_lands_32 rfl (lv_at hl 3 rfl) ?_
        refine lv_iload hx hb dX8_lands_33 (lv_at hl 4 rfl) ?_
        refine lv_iload hx hb dX8_lands_35 (lv_at hl 5 rfl) ?_
        refine lv_aload_n hx hb dX8_lands_37 rfl (lv_at hl 0 rfl) ?_
        refine lv_iconst (v := iZ 0) hx hb dX8_lands_38 (by decide) ?_
        refine mq_ci (As := [.int (iZ 0)]) (rest := [.int (iZ sd), .int (iZ nn), .int (iZ fe), .int (iZ sy), .int (iZ pe), .ref h]) ⟨hx, hb, hml, hown, hts⟩ hK hP (C_windIn l D C h a M 0 hI (by omega)) (cwV 1 hts gX8_lands_X8_windIn rfl rfl rfl (by decide +kernel) ⟨Nat.le_of_ble_eq_true rfl, Nat.le_of_ble_eq_true rfl⟩) rfl rfl hl.1 (Nat.le_of_ble_eq_true rfl) ⟨Nat.le_of_ble_eq_true rfl, Nat.le_of_ble_eq_true rfl⟩ dX8_lands_39 ?_
        have hwi := mI_wd hI 0
        refine mq_ci (As := [.int (iZ pe), .int (iZ sy), .int (iZ fe), .int (iZ nn), .int (iZ sd), .int (iZ (s_wind M 0))]) (rest := []) ⟨hx, hb, hml, hown, hts⟩ hK hP (C_landsBy l D C h a M pe sy fe nn sd (s_wind M 0) hI (by omega) (by omega) (by omega) (by omega) (by omega) (by omega)) (cwV 6 hts gX8_lands_X8_landsBy rfl rfl rfl (by decide +kernel) ⟨Nat.le_of_ble_eq_true rfl, Nat.le_of_ble_eq_true rfl⟩) rfl rfl hl.1 (Nat.le_of_ble_eq_true rfl) ⟨Nat.le_of_ble_eq_true rfl, Nat.le_of_ble_eq_true rfl⟩ dX8_lands_42 ?_
        have hld := s_land_bd (M 3 (Int.toNat pe)) (M 7 (Int.toNat sy)) (M 6 (Int.toNat sy)) (M 19 1) fe nn sd (s_wind M 0)
        exact mq_ret hx hb hr rfl (by unfold s_lands; (repeat' split) <;> first | rfl | omega) dX8_lands_45 hlocks rfl
      · refine lv_iconst (v := iZ (-1)) hx hb dX8_lands_27 (by decide) ?_
        refine W.eq (g2 := F0 m 28 ls [.int (iZ (-1))]) rfl ?_
        exact mq_ret hx hb hr rfl (by unfold s_lands; (repeat' split) <;> first | rfl | omega) dX8_lands_28 hlocks rfl
set_option maxHeartbeats 4000000 in
set_option maxRecDepth 100000 in
theorem C_areUnlike (l : Launch) (D : va_G) (C : mC) (h : Nat) (a : Nat → Nat) (M : Nat → Nat → Int) (pe ot : Int) (hI : mI M) (h1 : -2147483648 ≤ pe ∧ pe < 2147483648) (h2 : -2147483648 ≤ ot ∧ ot < 2147483648) : Met l yX8_areUnlike wsX8_areUnlike ({ frames := 2, cells := 0, slots := 0, locals := 43 }) (va_Pc [.ref h, .int (iZ pe), .int (iZ ot)] (mOk D C h a M)) (vp_Si (fun r => r = iZ (if ((0 ≤ pe ∧ pe < M 2 0) ∧ (0 ≤ ot ∧ ot < M 2 0) ∧ ¬ (pe = ot)) then 1 else 0))) 0 0 (fun _ => False) := by
  refine Met.ofW (cc := cX8_areUnlike) (maxL := 3) (ret := (some .boolean)) (by decide) rfl ?_
  intro p e s m args below meth c s₁ B hml hv
  obtain ⟨rfl, hP, hK⟩ := hv
  have hx := B.exec
  have hb := B.bytes
  have hr := B.returns
  have hts := atoms_spec (ws := wsX8_areUnlike) B.pre
  have hown : s.vm.findClass RX8 = some m.cls := findClass_of_methodNamed B.named
  have hlocks := B.notSynchronized
  have hin : ∀ w ∈ wsX80, w ∈ wsX8_areUnlike := fun _ w_h => (List.mem_cons_of_mem _ (List.mem_append_right _ w_h))
  have hl := lv_entry ([.ref h, .int (iZ pe), .int (iZ ot)]) (n := 3) (Nat.le_of_ble_eq_true rfl)
  rw [lg_entry_eq]
  generalize (lg_sl ([.ref h, .int (iZ pe), .int (iZ ot)]) ++ List.replicate (3 - (lg_sl ([.ref h, .int (iZ pe), .int (iZ ot)])).length) Slot.unset).toArray = ls at hl ⊢
  replace hl : lv_has ls 3 [(0, .ref h), (1, .int (iZ pe)), (2, .int (iZ ot))] := hl
  have hnw := mI_now hI
  refine lv_aload_n hx hb dX8_areUnlike_0 rfl (lv_at hl 0 rfl) ?_
  refine lv_iload_n hx hb dX8_areUnlike_1 rfl (lv_at hl 1 rfl) ?_
  refine mq_ci (As := [.int (iZ pe)]) (rest := []) ⟨hx, hb, hml, hown, hts⟩ hK hP (C_isOne l D C h a M pe hI (by omega)) (cwV 1 hts gX8_areUnlike_X8_isOne rfl rfl rfl (by decide +kernel) ⟨Nat.le_of_ble_eq_true rfl, Nat.le_of_ble_eq_true rfl⟩) rfl rfl hl.1 (Nat.le_of_ble_eq_true rfl) ⟨Nat.le_of_ble_eq_true rfl, Nat.le_of_ble_eq_true rfl⟩ dX8_areUnlike_2 ?_
  have K5 : ∀ (v4 : Int), (v4 = (if (0 ≤ pe ∧ pe < M 2 0) then (if (0 ≤ ot ∧ ot < M 2 0) then (if pe = ot then 0 else 1) else 0) else 0)) → ∀ ls : Array Slot, lv_has ls 3 [] → W p l e ((headSpec wsX8_areUnlike ({ frames := 2, cells := 0, slots := 0, locals := 43 })).room) s m (([.ref h, .int (iZ pe), .int (iZ ot)] : List Value).toArray) below meth c s.heap [] 0 0 (MQ below (vp_Si (fun r => r = iZ (if ((0 ≤ pe ∧ pe < M 2 0) ∧ (0 ≤ ot ∧ ot < M 2 0) ∧ ¬ (pe = ot)) then 1 else 0))) (([.ref h, .int (iZ pe), .int (iZ ot)] : List Value).toArray) s 0 0 (fun _ => False)) (F0 m 26 ls [.int (iZ v4)]) := by
    intro v4 hv4 ls hl
    exact mq_ret hx hb hr (z_nbool (by first | omega | (split <;> omega))) (by first | omega | ((repeat' split) <;> first | rfl | omega)) dX8_areUnlike_26 hlocks rfl
  refine z_ifb_eq (P := (0 ≤ pe ∧ pe < M 2 0)) (tgt := 25) hx hb dX8_areUnlike_5 (by decide) (fun c1 => ?_) (fun c1 => ?_)
  · refine lv_iconst (v := iZ 0) hx hb dX8_areUnlike_25 (by decide) ?_
    exact K5 0 (by first | rfl | (rw [if_neg c1]; done) | omega | (subst_vars; first | rfl | (rw [if_neg c1]; done) | omega)) ls (lv_sub hl [] rfl)
  · refine lv_aload_n hx hb dX8_areUnlike_8 rfl (lv_at hl 0 rfl) ?_
    refine lv_iload_n hx hb dX8_areUnlike_9 rfl (lv_at hl 2 rfl) ?_
    refine mq_ci (As := [.int (iZ ot)]) (rest := []) ⟨hx, hb, hml, hown, hts⟩ hK hP (C_isOne l D C h a M ot hI (by omega)) (cwV 1 hts gX8_areUnlike_X8_isOne rfl rfl rfl (by decide +kernel) ⟨Nat.le_of_ble_eq_true rfl, Nat.le_of_ble_eq_true rfl⟩) rfl rfl hl.1 (Nat.le_of_ble_eq_true rfl) ⟨Nat.le_of_ble_eq_true rfl, Nat.le_of_ble_eq_true rfl⟩ dX8_areUnlike_10 ?_
    refine z_ifb_eq (P := (0 ≤ ot ∧ ot < M 2 0)) (tgt := 25) hx hb dX8_areUnlike_13 (by decide) (fun c2 => ?_) (fun c2 => ?_)
    · refine lv_iconst (v := iZ 0) hx hb dX8_areUnlike_25 (by decide) ?_
      exact K5 0 (by first | rfl | (rw [if_pos c1, if_neg c2]; done) | omega | (subst_vars; first | rfl | (rw [if_pos c1, if_neg c2]; done) | omega)) ls (lv_sub hl [] rfl)
    · refine lv_iload_n hx hb dX8_areUnlike_16 rfl (lv_at hl 1 rfl) ?_
      refine W.eq (g2 := F0 m 17 ls [.int (iZ pe)]) rfl ?_
      refine lv_iload_n hx hb dX8_areUnlike_17 rfl (lv_at hl 2 rfl) ?_
      refine z_icmp_eq (x := pe) (y := ot) (tgt := 25) hx hb (by omega) (by omega) dX8_areUnlike_18 (by decide) (fun c3 => ?_) (fun c3 => ?_)
      · refine lv_iconst (v := iZ 0) hx hb dX8_areUnlike_25 (by decide) ?_
        exact K5 0 (by first | rfl | (rw [if_pos c1, if_pos c2, if_pos c3]; done) | omega | (subst_vars; first | rfl | (rw [if_pos c1, if_pos c2, if_pos c3]; done) | omega)) ls (lv_sub hl [] rfl)
      · refine lv_iconst (v := iZ 1) hx hb dX8_areUnlike_21 (by decide) ?_
        refine lv_goto (tgt := 26) hx hb dX8_areUnlike_22 (by decide) ?_
        exact K5 1 (by first | rfl | (rw [if_pos c1, if_pos c2, if_neg c3]; done) | omega | (subst_vars; first | rfl | (rw [if_pos c1, if_pos c2, if_neg c3]; done) | omega)) ls (lv_sub hl [] rfl)
set_option maxHeartbeats 4000000 in
set_option maxRecDepth 100000 in
theorem C_isHeard (l : Launch) (D : va_G) (C : mC) (h : Nat) (a : Nat → Nat) (M : Nat → Nat → Int) (pe ot sy sh bw : Int) (hI : mI M) (h1 : 0 ≤ pe ∧ pe < M 2 0) (h2 : 0 ≤ ot ∧ ot < M 2 0) (h3 : 0 ≤ sy ∧ sy < M 5 0) (h4 : 0 ≤ sh ∧ sh / 100 ≤ 3 ∧ sh / 10 % 10 ≤ 3 ∧ sh % 10 ≤ 1) (h5 : -2147483648 ≤ sh ∧ sh < 2147483648) (h6 : -4 ≤ bw ∧ bw ≤ 4) : Met l yX8_isHeard wsX8_isHeard ({ frames := 2, cells := 0, slots := 0, locals := 52 }) (va_Pc [.ref h, .int (iZ pe), .int (iZ ot), .int (iZ sy), .int (iZ sh), .int (iZ bw)] (mOk D C h a M)) (vp_Si (fun r => r = iZ (if (s_hrd M pe ot sy sh bw) then 1 else 0))) 0 0 (fun _ => False) := by
  refine Met.ofW (cc := cX8_isHeard) (maxL := 6) (ret := (some .boolean)) (by decide) rfl ?_
  intro p e s m args below meth c s₁ B hml hv
  obtain ⟨rfl, hP, hK⟩ := hv
  have hx := B.exec
  have hb := B.bytes
  have hr := B.returns
  have hts := atoms_spec (ws := wsX8_isHeard) B.pre
  have hown : s.vm.findClass RX8 = some m.cls := findClass_of_methodNamed B.named
  have hlocks := B.notSynchronized
  have hin : ∀ w ∈ wsX80, w ∈ wsX8_isHeard := fun _ w_h => (List.mem_cons_of_mem _ (List.mem_append_right _ w_h))
  have hl := lv_entry ([.ref h, .int (iZ pe), .int (iZ ot), .int (iZ sy), .int (iZ sh), .int (iZ bw)]) (n := 6) (Nat.le_of_ble_eq_true rfl)
  rw [lg_entry_eq]
  generalize (lg_sl ([.ref h, .int (iZ pe), .int (iZ ot), .int (iZ sy), .int (iZ sh), .int (iZ bw)]) ++ List.replicate (6 - (lg_sl ([.ref h, .int (iZ pe), .int (iZ ot), .int (iZ sy), .int (iZ sh), .int (iZ bw)])).length) Slot.unset).toArray = ls at hl ⊢
  replace hl : lv_has ls 6 [(0, .ref h), (1, .int (iZ pe)), (2, .int (iZ ot)), (3, .int (iZ sy)), (4, .int (iZ sh)), (5, .int (iZ bw))] := hl
  have hnw := mI_now hI
  refine lv_aload_n hx hb dX8_isHeard_0 rfl (lv_at hl 0 rfl) ?_
  refine lv_iload_n hx hb dX8_isHeard_1 rfl (lv_at hl 2 rfl) ?_
  refine lv_aload_n hx hb dX8_isHeard_2 rfl (lv_at hl 0 rfl) ?_
  refine lv_iload_n hx hb dX8_isHeard_3 rfl (lv_at hl 1 rfl) ?_
  refine lv_iload_n hx hb dX8_isHeard_4 rfl (lv_at hl 3 rfl) ?_
  refine lv_iload hx hb dX8_isHeard_5 (lv_at hl 4 rfl) ?_
  refine W.eq (g2 := F0 m 7 ls [.int (iZ sh), .int (iZ sy), .int (iZ pe), .ref h, .int (iZ ot), .ref h]) rfl ?_
  refine lv_bipush (v := iZ 100) hx hb dX8_isHeard_7 (by decide) ?_
  refine z_idiv hx hb (by omega) (by omega) dX8_isHeard_9 ?_
  refine lv_iload hx hb dX8_isHeard_10 (lv_at hl 4 rfl) ?_
  refine lv_bipush (v := iZ 10) hx hb dX8_isHeard_12 (by decide) ?_
  refine z_idiv hx hb (by omega) (by omega) dX8_isHeard_14 ?_
  refine lv_bipush (v := iZ 10) hx hb dX8_isHeard_15 (by decide) ?_
  refine z_irem hx hb (by omega) (by omega) dX8_isHeard_17 ?_
  refine lv_iload hx hb dX8_isHeard_18 (lv_at hl 4 rfl) ?_
  refine lv_bipush (v := iZ 10) hx hb dX8_isHeard_20 (by decide) ?_
  refine z_irem hx hb (by omega) (by omega) dX8_isHeard_22 ?_
  refine lv_iload hx hb dX8_isHeard_23 (lv_at hl 5 rfl) ?_
  refine mq_ci (As := [.int (iZ pe), .int (iZ sy), .int (iZ (sh / 100)), .int (iZ ((sh / 10) % 10)), .int (iZ (sh % 10)), .int (iZ bw)]) (rest := [.int (iZ ot), .ref h]) ⟨hx, hb, hml, hown, hts⟩ hK hP (C_landsBy l D C h a M pe sy (sh / 100) ((sh / 10) % 10) (sh % 10) bw hI (by omega) (by omega) (by omega) (by omega) (by omega) (by omega)) (cwV 6 hts gX8_isHeard_X8_landsBy rfl rfl rfl (by decide +kernel) ⟨Nat.le_of_ble_eq_true rfl, Nat.le_of_ble_eq_true rfl⟩) rfl rfl hl.1 (Nat.le_of_ble_eq_true rfl) ⟨Nat.le_of_ble_eq_true rfl, Nat.le_of_ble_eq_true rfl⟩ dX8_isHeard_25 ?_
  have hld := s_land_bd (M 3 (Int.toNat pe)) (M 7 (Int.toNat sy)) (M 6 (Int.toNat sy)) (M 19 1) (sh / 100) ((sh / 10) % 10) (sh % 10) bw
  refine W.eq (g2 := F0 m 28 ls [.int (iZ (s_land (M 3 (Int.toNat pe)) (M 7 (Int.toNat sy)) (M 6 (Int.toNat sy)) (M 19 1) (sh / 100) ((sh / 10) % 10) (sh % 10) bw)), .int (iZ ot), .ref h]) rfl ?_
  refine mq_ci (As := [.int (iZ ot), .int (iZ (s_land (M 3 (Int.toNat pe)) (M 7 (Int.toNat sy)) (M 6 (Int.toNat sy)) (M 19 1) (sh / 100) ((sh / 10) % 10) (sh % 10) bw))]) (rest := []) ⟨hx, hb, hml, hown, hts⟩ hK hP (C_doesHear l D C h a M ot (s_land (M 3 (Int.toNat pe)) (M 7 (Int.toNat sy)) (M 6 (Int.toNat sy)) (M 19 1) (sh / 100) ((sh / 10) % 10) (sh % 10) bw) hI (by omega) (by omega)) (cwV 2 hts gX8_isHeard_X8_doesHear rfl rfl rfl (by decide +kernel) ⟨Nat.le_of_ble_eq_true rfl, Nat.le_of_ble_eq_true rfl⟩) rfl rfl hl.1 (Nat.le_of_ble_eq_true rfl) ⟨Nat.le_of_ble_eq_true rfl, Nat.le_of_ble_eq_true rfl⟩ dX8_isHeard_28 ?_
  exact mq_ret hx hb hr (z_nbool (by first | omega | (split <;> omega))) rfl dX8_isHeard_31 hlocks rfl
set_option maxHeartbeats 4000000 in
set_option maxRecDepth 100000 in
theorem C_isShotBy (l : Launch) (sh : Int) (h1 : -2147483648 ≤ sh ∧ sh < 2147483648) : Met l yX8_isShotBy wsX8_isShotBy ({ frames := 2, cells := 0, slots := 0, locals := 44 }) (va_Pc [.int (iZ sh)] (fun _ => True)) (vp_Si (fun r => r = iZ (if (0 ≤ sh ∧ sh / 100 ≤ 3 ∧ sh / 10 % 10 ≤ 3 ∧ sh % 10 ≤ 1) then 1 else 0))) 0 0 (fun _ => False) := by
  refine Met.ofW (cc := cX8_isShotBy) (maxL := 1) (ret := (some .boolean)) (by decide) rfl ?_
  intro p e s m args below meth c s₁ B hml hv
  obtain ⟨rfl, -⟩ := hv
  have hx := B.exec
  have hb := B.bytes
  have hr := B.returns
  have hts := atoms_spec (ws := wsX8_isShotBy) B.pre
  have hown : s.vm.findClass RX8 = some m.cls := findClass_of_methodNamed B.named
  have hlocks := B.notSynchronized
  have hl := lv_entry ([.int (iZ sh)]) (n := 1) (Nat.le_of_ble_eq_true rfl)
  rw [lg_entry_eq]
  generalize (lg_sl ([.int (iZ sh)]) ++ List.replicate (1 - (lg_sl ([.int (iZ sh)])).length) Slot.unset).toArray = ls at hl ⊢
  replace hl : lv_has ls 1 [(0, .int (iZ sh))] := hl
  refine lv_iload_n hx hb dX8_isShotBy_0 rfl (lv_at hl 0 rfl) ?_
  have K4 : ∀ (v3 : Int), (v3 = (if sh < 0 then 0 else (if ((0 ≤ (sh / 100) ∧ (sh / 100) ≤ 3) ∧ (0 ≤ ((sh / 10) % 10) ∧ ((sh / 10) % 10) ≤ 3) ∧ (0 ≤ (sh % 10) ∧ (sh % 10) ≤ 1)) then 1 else 0))) → ∀ ls : Array Slot, lv_has ls 1 [] → W p l e ((headSpec wsX8_isShotBy ({ frames := 2, cells := 0, slots := 0, locals := 44 })).room) s m (([.int (iZ sh)] : List Value).toArray) below meth c s.heap [] 0 0 (MQ below (vp_Si (fun r => r = iZ (if (0 ≤ sh ∧ sh / 100 ≤ 3 ∧ sh / 10 % 10 ≤ 3 ∧ sh % 10 ≤ 1) then 1 else 0))) (([.int (iZ sh)] : List Value).toArray) s 0 0 (fun _ => False)) (F0 m 30 ls [.int (iZ v3)]) := by
    intro v3 hv3 ls hl
    exact mq_ret hx hb hr (z_nbool (by first | omega | (split <;> omega))) (by first | omega | ((repeat' split) <;> first | rfl | omega)) dX8_isShotBy_30 hlocks rfl
  refine z_if_lt (x := sh) (tgt := 29) hx hb (by omega) dX8_isShotBy_1 (by decide) (fun c1 => ?_) (fun c1 => ?_)
  · refine lv_iconst (v := iZ 0) hx hb dX8_isShotBy_29 (by decide) ?_
    exact K4 0 (by first | rfl | (rw [if_pos c1]; done) | omega | (subst_vars; first | rfl | (rw [if_pos c1]; done) | omega)) ls (lv_sub hl [] rfl)
  · refine lv_iload_n hx hb dX8_isShotBy_4 rfl (lv_at hl 0 rfl) ?_
    refine lv_bipush (v := iZ 100) hx hb dX8_isShotBy_5 (by decide) ?_
    refine z_idiv hx hb (by omega) (by omega) dX8_isShotBy_7 ?_
    refine lv_iload_n hx hb dX8_isShotBy_8 rfl (lv_at hl 0 rfl) ?_
    refine lv_bipush (v := iZ 10) hx hb dX8_isShotBy_9 (by decide) ?_
    refine z_idiv hx hb (by omega) (by omega) dX8_isShotBy_11 ?_
    refine lv_bipush (v := iZ 10) hx hb dX8_isShotBy_12 (by decide) ?_
    refine W.eq (g2 := F0 m 14 ls [.int (iZ 10), .int (iZ (sh / 10)), .int (iZ (sh / 100))]) rfl ?_
    refine z_irem hx hb (by omega) (by omega) dX8_isShotBy_14 ?_
    refine lv_iload_n hx hb dX8_isShotBy_15 rfl (lv_at hl 0 rfl) ?_
    refine lv_bipush (v := iZ 10) hx hb dX8_isShotBy_16 (by decide) ?_
    refine z_irem hx hb (by omega) (by omega) dX8_isShotBy_18 ?_
    refine mq_cs (As := [.int (iZ (sh / 100)), .int (iZ ((sh / 10) % 10)), .int (iZ (sh % 10))]) (rest := []) ⟨hx, hb, hml, hown, hts⟩ (C_isShot l (sh / 100) ((sh / 10) % 10) (sh % 10) (by omega) (by omega) (by omega)) (va_cwS 3 hts gX8_isShotBy_X8_isShot rfl rfl rfl (by decide +kernel) ⟨Nat.le_of_ble_eq_true rfl, Nat.le_of_ble_eq_true rfl⟩) rfl rfl hl.1 (Nat.le_of_ble_eq_true rfl) ⟨Nat.le_of_ble_eq_true rfl, Nat.le_of_ble_eq_true rfl⟩ dX8_isShotBy_19 ?_
    refine z_ifb_eq (P := ((0 ≤ (sh / 100) ∧ (sh / 100) ≤ 3) ∧ (0 ≤ ((sh / 10) % 10) ∧ ((sh / 10) % 10) ≤ 3) ∧ (0 ≤ (sh % 10) ∧ (sh % 10) ≤ 1))) (tgt := 29) hx hb dX8_isShotBy_22 (by decide) (fun c2 => ?_) (fun c2 => ?_)
    · refine lv_iconst (v := iZ 0) hx hb dX8_isShotBy_29 (by decide) ?_
      exact K4 0 (by first | rfl | (rw [if_neg c1, if_neg c2]; done) | omega | (subst_vars; first | rfl | (rw [if_neg c1, if_neg c2]; done) | omega)) ls (lv_sub hl [] rfl)
    · refine lv_iconst (v := iZ 1) hx hb dX8_isShotBy_25 (by decide) ?_
      refine lv_goto (tgt := 30) hx hb dX8_isShotBy_26 (by decide) ?_
      exact K4 1 (by first | rfl | (rw [if_neg c1, if_pos c2]; done) | omega | (subst_vars; first | rfl | (rw [if_neg c1, if_pos c2]; done) | omega)) ls (lv_sub hl [] rfl)
set_option maxHeartbeats 4000000 in
set_option maxRecDepth 100000 in
theorem C_waits (l : Launch) (D : va_G) (C : mC) (h : Nat) (a : Nat → Nat) (M : Nat → Nat → Int) (pe ot sy sh : Int) (hI : mI M) (h0 : -2147483648 ≤ pe ∧ pe < 2147483648) (h1 : -2147483648 ≤ ot ∧ ot < 2147483648) (h2 : -2147483648 ≤ sy ∧ sy < 2147483648) (h3 : -2147483648 ≤ sh ∧ sh < 2147483648) : Met l yX8_waits wsX8_waits ({ frames := 3, cells := 0, slots := 0, locals := 77 }) (va_Pc [.ref h, .int (iZ pe), .int (iZ ot), .int (iZ sy), .int (iZ sh)] (mOk D C h a M)) (vp_Si (fun r => r = iZ (s_waits M pe ot sy sh))) 0 0 (fun _ => False) := by
  refine Met.ofW (cc := cX8_waits) (maxL := 6) (ret := (some .int)) (by decide) rfl ?_
  intro p e s m args below meth c s₁ B hml hv
  obtain ⟨rfl, hP, hK⟩ := hv
  have hx := B.exec
  have hb := B.bytes
  have hr := B.returns
  have hts := atoms_spec (ws := wsX8_waits) B.pre
  have hown : s.vm.findClass RX8 = some m.cls := findClass_of_methodNamed B.named
  have hlocks := B.notSynchronized
  have hin : ∀ w ∈ wsX80, w ∈ wsX8_waits := fun _ w_h => (List.mem_cons_of_mem _ (List.mem_append_right _ w_h))
  have hl := lv_entry ([.ref h, .int (iZ pe), .int (iZ ot), .int (iZ sy), .int (iZ sh)]) (n := 6) (Nat.le_of_ble_eq_true rfl)
  rw [lg_entry_eq]
  generalize (lg_sl ([.ref h, .int (iZ pe), .int (iZ ot), .int (iZ sy), .int (iZ sh)]) ++ List.replicate (6 - (lg_sl ([.ref h, .int (iZ pe), .int (iZ ot), .int (iZ sy), .int (iZ sh)])).length) Slot.unset).toArray = ls at hl ⊢
  replace hl : lv_has ls 6 [(0, .ref h), (1, .int (iZ pe)), (2, .int (iZ ot)), (3, .int (iZ sy)), (4, .int (iZ sh))] := hl
  have hnw := mI_now hI
  refine lv_aload_n hx hb dX8_waits_0 rfl (lv_at hl 0 rfl) ?_
  refine lv_iload_n hx hb dX8_waits_1 rfl (lv_at hl 1 rfl) ?_
  refine W.eq (g2 := F0 m 2 ls [.int (iZ pe), .ref h]) rfl ?_
  refine lv_iload_n hx hb dX8_waits_2 rfl (lv_at hl 2 rfl) ?_
  refine mq_ci (As := [.int (iZ pe), .int (iZ ot)]) (rest := []) ⟨hx, hb, hml, hown, hts⟩ hK hP (C_areUnlike l D C h a M pe ot hI (by omega) (by omega)) (cwV 2 hts gX8_waits_X8_areUnlike rfl rfl rfl (by decide +kernel) ⟨Nat.le_of_ble_eq_true rfl, Nat.le_of_ble_eq_true rfl⟩) rfl rfl hl.1 (Nat.le_of_ble_eq_true rfl) ⟨Nat.le_of_ble_eq_true rfl, Nat.le_of_ble_eq_true rfl⟩ dX8_waits_3 ?_
  refine z_ifb_eq (P := ((0 ≤ pe ∧ pe < M 2 0) ∧ (0 ≤ ot ∧ ot < M 2 0) ∧ ¬ (pe = ot))) (tgt := 25) hx hb dX8_waits_6 (by decide) (fun c1 => ?_) (fun c1 => ?_)
  · refine lv_iconst (v := iZ (-1)) hx hb dX8_waits_25 (by decide) ?_
    exact mq_ret hx hb hr rfl (by first | (have q : nn = 13 := (by omega); rw [i2, q]; rfl) | (rw [i2, zfind_step _ 13 _ (by omega)]; exact (if_pos (decide_eq_true (by assumption))).symm) | (unfold s_waits; rw [if_neg (by omega)])) dX8_waits_26 hlocks rfl
  · refine lv_aload_n hx hb dX8_waits_9 rfl (lv_at hl 0 rfl) ?_
    refine lv_iload_n hx hb dX8_waits_10 rfl (lv_at hl 3 rfl) ?_
    refine mq_ci (As := [.int (iZ sy)]) (rest := []) ⟨hx, hb, hml, hown, hts⟩ hK hP (C_isSaying l D C h a M sy hI (by omega)) (cwV 1 hts gX8_waits_X8_isSaying rfl rfl rfl (by decide +kernel) ⟨Nat.le_of_ble_eq_true rfl, Nat.le_of_ble_eq_true rfl⟩) rfl rfl hl.1 (Nat.le_of_ble_eq_true rfl) ⟨Nat.le_of_ble_eq_true rfl, Nat.le_of_ble_eq_true rfl⟩ dX8_waits_11 ?_
    refine z_ifb_eq (P := (0 ≤ sy ∧ sy < M 5 0)) (tgt := 25) hx hb dX8_waits_14 (by decide) (fun c2 => ?_) (fun c2 => ?_)
    · refine lv_iconst (v := iZ (-1)) hx hb dX8_waits_25 (by decide) ?_
      exact mq_ret hx hb hr rfl (by first | (have q : nn = 13 := (by omega); rw [i2, q]; rfl) | (rw [i2, zfind_step _ 13 _ (by omega)]; exact (if_pos (decide_eq_true (by assumption))).symm) | (unfold s_waits; rw [if_neg (by omega)])) dX8_waits_26 hlocks rfl
    · refine lv_iload hx hb dX8_waits_17 (lv_at hl 4 rfl) ?_
      refine W.eq (g2 := F0 m 19 ls [.int (iZ sh)]) rfl ?_
      refine mq_cs (As := [.int (iZ sh)]) (rest := []) ⟨hx, hb, hml, hown, hts⟩ (C_isShotBy l sh (by omega)) (va_cwS 1 hts gX8_waits_X8_isShotBy rfl rfl rfl (by decide +kernel) ⟨Nat.le_of_ble_eq_true rfl, Nat.le_of_ble_eq_true rfl⟩) rfl rfl hl.1 (Nat.le_of_ble_eq_true rfl) ⟨Nat.le_of_ble_eq_true rfl, Nat.le_of_ble_eq_true rfl⟩ dX8_waits_19 ?_
      refine z_ifb_ne (P := (0 ≤ sh ∧ sh / 100 ≤ 3 ∧ sh / 10 % 10 ≤ 3 ∧ sh % 10 ≤ 1)) (tgt := 27) hx hb dX8_waits_22 (by decide) (fun c3 => ?_) (fun c3 => ?_)
      · refine lv_iconst (v := iZ 0) hx hb dX8_waits_27 (by decide) ?_
        refine lv_istore (lv' := [(5, .int (iZ 0)), (0, .ref h), (1, .int (iZ pe)), (2, .int (iZ ot)), (3, .int (iZ sy)), (4, .int (iZ sh))]) hx hb dX8_waits_28 hl (by decide) rfl (fun ls hl => ?_)
        replace hl : lv_has ls 6 [(5, .int (iZ (0 : Int))), (0, .ref h), (1, .int (iZ pe)), (2, .int (iZ ot)), (3, .int (iZ sy)), (4, .int (iZ sh))] := lv_sub hl [0, 1, 2, 3, 4, 5] rfl
        revert ls
        refine z_loop (σ := Int) (fun x9 => (0 ≤ x9 ∧ x9 ≤ 13) ∧ (s_waits M pe ot sy sh = zfind (fun q => decide (s_hrd M pe ot sy sh (s_wind M q))) (13 - x9).toNat x9)) (fun x9 => [(5, .int (iZ x9)), (0, .ref h), (1, .int (iZ pe)), (2, .int (iZ ot)), (3, .int (iZ sy)), (4, .int (iZ sh))]) 6 (fun x9 => (13 - x9).toNat) (0 : Int) ⟨(by show 0 ≤ (0 : Int) ∧ (0 : Int) ≤ 13; omega), (by show s_waits M pe ot sy sh = zfind (fun q => decide (s_hrd M pe ot sy sh (s_wind M q))) (13 - (0 : Int)).toNat (0 : Int); unfold s_waits; rw [if_pos (by omega)]; rfl)⟩ ?_
        rintro nn hI9 ih30 ls hl
        obtain ⟨i1, i2⟩ := hI9
        replace i1 : 0 ≤ nn ∧ nn ≤ 13 := i1
        replace i2 : s_waits M pe ot sy sh = zfind (fun q => decide (s_hrd M pe ot sy sh (s_wind M q))) (13 - nn).toNat nn := i2
        replace hl : lv_has ls 6 [(5, .int (iZ nn)), (0, .ref h), (1, .int (iZ pe)), (2, .int (iZ ot)), (3, .int (iZ sy)), (4, .int (iZ sh))] := hl
        refine lv_iload hx hb dX8_waits_30 (lv_at hl 0 rfl) ?_
        refine lv_bipush (v := iZ 12) hx hb dX8_waits_32 (by decide) ?_
        refine z_icmp_gt (x := nn) (y := 12) (tgt := 64) hx hb (by omega) (by omega) dX8_waits_34 (by decide) (fun c4 => ?_) (fun c4 => ?_)
        · refine lv_bipush (v := iZ (-9)) hx hb dX8_waits_64 (by decide) ?_
          exact mq_ret hx hb hr rfl (by first | (have q : nn = 13 := (by omega); rw [i2, q]; rfl) | (rw [i2, zfind_step _ 13 _ (by omega)]; exact (if_pos (decide_eq_true (by assumption))).symm) | (unfold s_waits; rw [if_neg (by omega)])) dX8_waits_66 hlocks rfl
        · refine lv_aload_n hx hb dX8_waits_37 rfl (lv_at hl 1 rfl) ?_
          refine lv_iload_n hx hb dX8_waits_38 rfl (lv_at hl 2 rfl) ?_
          refine lv_iload_n hx hb dX8_waits_39 rfl (lv_at hl 3 rfl) ?_
          refine W.eq (g2 := F0 m 40 ls [.int (iZ ot), .int (iZ pe), .ref h]) rfl ?_
          refine lv_iload_n hx hb dX8_waits_40 rfl (lv_at hl 4 rfl) ?_
          refine lv_iload hx hb dX8_waits_41 (lv_at hl 5 rfl) ?_
          refine lv_aload_n hx hb dX8_waits_43 rfl (lv_at hl 1 rfl) ?_
          refine lv_iload hx hb dX8_waits_44 (lv_at hl 0 rfl) ?_
          refine mq_ci (As := [.int (iZ nn)]) (rest := [.int (iZ sh), .int (iZ sy), .int (iZ ot), .int (iZ pe), .ref h]) ⟨hx, hb, hml, hown, hts⟩ hK hP (C_windIn l D C h a M nn hI (by omega)) (cwV 1 hts gX8_waits_X8_windIn rfl rfl rfl (by decide +kernel) ⟨Nat.le_of_ble_eq_true rfl, Nat.le_of_ble_eq_true rfl⟩) rfl rfl hl.1 (Nat.le_of_ble_eq_true rfl) ⟨Nat.le_of_ble_eq_true rfl, Nat.le_of_ble_eq_true rfl⟩ dX8_waits_46 ?_
          have hwi := mI_wd hI nn
          refine mq_ci (As := [.int (iZ pe), .int (iZ ot), .int (iZ sy), .int (iZ sh), .int (iZ (s_wind M nn))]) (rest := []) ⟨hx, hb, hml, hown, hts⟩ hK hP (C_isHeard l D C h a M pe ot sy sh (s_wind M nn) hI (by omega) (by omega) (by omega) (by omega) (by omega) (by omega)) (cwV 5 hts gX8_waits_X8_isHeard rfl rfl rfl (by decide +kernel) ⟨Nat.le_of_ble_eq_true rfl, Nat.le_of_ble_eq_true rfl⟩) rfl rfl hl.1 (Nat.le_of_ble_eq_true rfl) ⟨Nat.le_of_ble_eq_true rfl, Nat.le_of_ble_eq_true rfl⟩ dX8_waits_49 ?_
          refine z_ifb_eq (P := (s_hrd M pe ot sy sh (s_wind M nn))) (tgt := 58) hx hb dX8_waits_52 (by decide) (fun c5 => ?_) (fun c5 => ?_)
          · refine lv_iinc (v := iZ (nn + 1)) (lv' := [(5, .int (iZ (nn + 1))), (0, .ref h), (1, .int (iZ pe)), (2, .int (iZ ot)), (3, .int (iZ sy)), (4, .int (iZ sh))]) hx hb dX8_waits_58 hl (k := 0) rfl (iZ_add _ _) (by decide) rfl (fun ls hl => ?_)
            refine lv_goto (tgt := 30) hx hb dX8_waits_61 (by decide) ?_
            exact ih30 (nn + 1) ⟨(by show 0 ≤ (nn + 1) ∧ (nn + 1) ≤ 13; omega), (by show s_waits M pe ot sy sh = zfind (fun q => decide (s_hrd M pe ot sy sh (s_wind M q))) (13 - (nn + 1)).toNat (nn + 1); rw [i2, zfind_step _ 13 _ (by omega)]; exact if_neg (fun h9 => absurd (of_decide_eq_true h9) (by assumption)))⟩ (by show (13 - (nn + 1)).toNat < (13 - nn).toNat; omega) ls (lv_sub hl [0, 1, 2, 3, 4, 5] rfl)
          · refine lv_iload hx hb dX8_waits_55 (lv_at hl 0 rfl) ?_
            exact mq_ret hx hb hr rfl (by first | (have q : nn = 13 := (by omega); rw [i2, q]; rfl) | (rw [i2, zfind_step _ 13 _ (by omega)]; exact (if_pos (decide_eq_true (by assumption))).symm) | (unfold s_waits; rw [if_neg (by omega)])) dX8_waits_57 hlocks rfl
      · refine lv_iconst (v := iZ (-1)) hx hb dX8_waits_25 (by decide) ?_
        refine W.eq (g2 := F0 m 26 ls [.int (iZ (-1))]) rfl ?_
        exact mq_ret hx hb hr rfl (by first | (have q : nn = 13 := (by omega); rw [i2, q]; rfl) | (rw [i2, zfind_step _ 13 _ (by omega)]; exact (if_pos (decide_eq_true (by assumption))).symm) | (unfold s_waits; rw [if_neg (by omega)])) dX8_waits_26 hlocks rfl
set_option maxHeartbeats 4000000 in
set_option maxRecDepth 100000 in
theorem C_call (l : Launch) (D : va_G) (C : mC) (h : Nat) (a : Nat → Nat) (M : Nat → Nat → Int) (pe ot sy : Int) (hI : mI M) (h0 : -2147483648 ≤ pe ∧ pe < 2147483648) (h1 : -2147483648 ≤ ot ∧ ot < 2147483648) (h2 : -2147483648 ≤ sy ∧ sy < 2147483648) : Met l yX8_call wsX8_call ({ frames := 3, cells := 0, slots := 0, locals := 77 }) (va_Pc [.ref h, .int (iZ pe), .int (iZ ot), .int (iZ sy)] (mOk D C h a M)) (vp_Si (fun r => r = iZ (s_call M pe ot sy))) 0 0 (fun _ => False) := by
  refine Met.ofW (cc := cX8_call) (maxL := 8) (ret := (some .int)) (by decide) rfl ?_
  intro p e s m args below meth c s₁ B hml hv
  obtain ⟨rfl, hP, hK⟩ := hv
  have hx := B.exec
  have hb := B.bytes
  have hr := B.returns
  have hts := atoms_spec (ws := wsX8_call) B.pre
  have hown : s.vm.findClass RX8 = some m.cls := findClass_of_methodNamed B.named
  have hlocks := B.notSynchronized
  have hin : ∀ w ∈ wsX80, w ∈ wsX8_call := fun _ w_h => (List.mem_cons_of_mem _ (List.mem_append_right _ w_h))
  have hl := lv_entry ([.ref h, .int (iZ pe), .int (iZ ot), .int (iZ sy)]) (n := 8) (Nat.le_of_ble_eq_true rfl)
  rw [lg_entry_eq]
  generalize (lg_sl ([.ref h, .int (iZ pe), .int (iZ ot), .int (iZ sy)]) ++ List.replicate (8 - (lg_sl ([.ref h, .int (iZ pe), .int (iZ ot), .int (iZ sy)])).length) Slot.unset).toArray = ls at hl ⊢
  replace hl : lv_has ls 8 [(0, .ref h), (1, .int (iZ pe)), (2, .int (iZ ot)), (3, .int (iZ sy))] := hl
  have hnw := mI_now hI
  refine lv_aload_n hx hb dX8_call_0 rfl (lv_at hl 0 rfl) ?_
  refine lv_iload_n hx hb dX8_call_1 rfl (lv_at hl 1 rfl) ?_
  refine lv_iload_n hx hb dX8_call_2 rfl (lv_at hl 2 rfl) ?_
  refine mq_ci (As := [.int (iZ pe), .int (iZ ot)]) (rest := []) ⟨hx, hb, hml, hown, hts⟩ hK hP (C_areUnlike l D C h a M pe ot hI (by omega) (by omega)) (cwV 2 hts gX8_call_X8_areUnlike rfl rfl rfl (by decide +kernel) ⟨Nat.le_of_ble_eq_true rfl, Nat.le_of_ble_eq_true rfl⟩) rfl rfl hl.1 (Nat.le_of_ble_eq_true rfl) ⟨Nat.le_of_ble_eq_true rfl, Nat.le_of_ble_eq_true rfl⟩ dX8_call_3 ?_
  refine z_ifb_eq (P := ((0 ≤ pe ∧ pe < M 2 0) ∧ (0 ≤ ot ∧ ot < M 2 0) ∧ ¬ (pe = ot))) (tgt := 17) hx hb dX8_call_6 (by decide) (fun c1 => ?_) (fun c1 => ?_)
  · refine lv_iconst (v := iZ (-1)) hx hb dX8_call_17 (by decide) ?_
    exact mq_ret hx hb hr rfl (by first | (rw [i5, s_call_step _ (by omega) (by omega) (by omega)]; exact (if_pos (decide_eq_true (by assumption))).symm) | (have q : nn = 4 := (by omega); rw [i2, q]; rfl) | (unfold s_call; rw [if_neg (by omega)])) dX8_call_18 hlocks rfl
  · refine lv_aload_n hx hb dX8_call_9 rfl (lv_at hl 0 rfl) ?_
    refine lv_iload_n hx hb dX8_call_10 rfl (lv_at hl 3 rfl) ?_
    refine mq_ci (As := [.int (iZ sy)]) (rest := []) ⟨hx, hb, hml, hown, hts⟩ hK hP (C_isSaying l D C h a M sy hI (by omega)) (cwV 1 hts gX8_call_X8_isSaying rfl rfl rfl (by decide +kernel) ⟨Nat.le_of_ble_eq_true rfl, Nat.le_of_ble_eq_true rfl⟩) rfl rfl hl.1 (Nat.le_of_ble_eq_true rfl) ⟨Nat.le_of_ble_eq_true rfl, Nat.le_of_ble_eq_true rfl⟩ dX8_call_11 ?_
    refine z_ifb_ne (P := (0 ≤ sy ∧ sy < M 5 0)) (tgt := 19) hx hb dX8_call_14 (by decide) (fun c2 => ?_) (fun c2 => ?_)
    · refine W.eq (g2 := F0 m 19 ls []) rfl ?_
      refine lv_iconst (v := iZ 0) hx hb dX8_call_19 (by decide) ?_
      refine lv_istore (lv' := [(4, .int (iZ 0)), (0, .ref h), (1, .int (iZ pe)), (2, .int (iZ ot)), (3, .int (iZ sy))]) hx hb dX8_call_20 hl (by decide) rfl (fun ls hl => ?_)
      replace hl : lv_has ls 8 [(4, .int (iZ (0 : Int))), (0, .ref h), (1, .int (iZ pe)), (2, .int (iZ ot)), (3, .int (iZ sy))] := lv_sub hl [0, 1, 2, 3, 4] rfl
      revert ls
      refine z_loop (σ := Int) (fun x9 => (0 ≤ x9 ∧ x9 ≤ 4) ∧ (s_call M pe ot sy = zfindL (fun q => decide (s_hrd M pe ot sy q (s_wind M 0))) (shN.drop (s_pos x9 0 0)))) (fun x9 => [(4, .int (iZ x9)), (0, .ref h), (1, .int (iZ pe)), (2, .int (iZ ot)), (3, .int (iZ sy))]) 8 (fun x9 => (4 - x9).toNat) (0 : Int) ⟨(by show 0 ≤ (0 : Int) ∧ (0 : Int) ≤ 4; omega), (by show s_call M pe ot sy = zfindL (fun q => decide (s_hrd M pe ot sy q (s_wind M 0))) (shN.drop (s_pos (0 : Int) 0 0)); unfold s_call; rw [if_pos (by omega)]; rfl)⟩ ?_
      rintro nn hI9 ih22 ls hl
      obtain ⟨i1, i2⟩ := hI9
      replace i1 : 0 ≤ nn ∧ nn ≤ 4 := i1
      replace i2 : s_call M pe ot sy = zfindL (fun q => decide (s_hrd M pe ot sy q (s_wind M 0))) (shN.drop (s_pos nn 0 0)) := i2
      replace hl : lv_has ls 8 [(4, .int (iZ nn)), (0, .ref h), (1, .int (iZ pe)), (2, .int (iZ ot)), (3, .int (iZ sy))] := hl
      refine lv_iload hx hb dX8_call_22 (lv_at hl 0 rfl) ?_
      refine lv_iconst (v := iZ 3) hx hb dX8_call_24 (by decide) ?_
      refine z_icmp_gt (x := nn) (y := 3) (tgt := 109) hx hb (by omega) (by omega) dX8_call_25 (by decide) (fun c3 => ?_) (fun c3 => ?_)
      · refine lv_bipush (v := iZ (-9)) hx hb dX8_call_109 (by decide) ?_
        exact mq_ret hx hb hr rfl (by first | (rw [i5, s_call_step _ (by omega) (by omega) (by omega)]; exact (if_pos (decide_eq_true (by assumption))).symm) | (have q : nn = 4 := (by omega); rw [i2, q]; rfl) | (unfold s_call; rw [if_neg (by omega)])) dX8_call_111 hlocks rfl
      · refine lv_iconst (v := iZ 0) hx hb dX8_call_28 (by decide) ?_
        refine lv_istore (lv' := [(5, .int (iZ 0)), (4, .int (iZ nn)), (0, .ref h), (1, .int (iZ pe)), (2, .int (iZ ot)), (3, .int (iZ sy))]) hx hb dX8_call_29 hl (by decide) rfl (fun ls hl => ?_)
        replace hl : lv_has ls 8 [(5, .int (iZ (0 : Int))), (4, .int (iZ nn)), (0, .ref h), (1, .int (iZ pe)), (2, .int (iZ ot)), (3, .int (iZ sy))] := lv_sub hl [0, 1, 2, 3, 4, 5] rfl
        revert ls
        refine z_loop (σ := Int) (fun x9 => (0 ≤ x9 ∧ x9 ≤ 4 ∧ (nn = 0 → x9 ≤ 1)) ∧ (s_call M pe ot sy = zfindL (fun q => decide (s_hrd M pe ot sy q (s_wind M 0))) (shN.drop (s_pos nn x9 0)))) (fun x9 => [(5, .int (iZ x9)), (4, .int (iZ nn)), (0, .ref h), (1, .int (iZ pe)), (2, .int (iZ ot)), (3, .int (iZ sy))]) 8 (fun x9 => (4 - x9).toNat) (0 : Int) ⟨(by show 0 ≤ (0 : Int) ∧ (0 : Int) ≤ 4 ∧ (nn = 0 → (0 : Int) ≤ 1); omega), (by show s_call M pe ot sy = zfindL (fun q => decide (s_hrd M pe ot sy q (s_wind M 0))) (shN.drop (s_pos nn (0 : Int) 0)); exact i2)⟩ ?_
        rintro kd hI9 ih31 ls hl
        obtain ⟨i4, i3⟩ := hI9
        replace i4 : 0 ≤ kd ∧ kd ≤ 4 ∧ (nn = 0 → kd ≤ 1) := i4
        replace i3 : s_call M pe ot sy = zfindL (fun q => decide (s_hrd M pe ot sy q (s_wind M 0))) (shN.drop (s_pos nn kd 0)) := i3
        replace hl : lv_has ls 8 [(5, .int (iZ kd)), (4, .int (iZ nn)), (0, .ref h), (1, .int (iZ pe)), (2, .int (iZ ot)), (3, .int (iZ sy))] := hl
        refine lv_iload hx hb dX8_call_31 (lv_at hl 0 rfl) ?_
        refine lv_iload hx hb dX8_call_33 (lv_at hl 1 rfl) ?_
        have K6 : ∀ (v5 : Int), (v5 = (if nn = 0 then 1 else 4)) → ∀ ls : Array Slot, lv_has ls 8 [(5, .int (iZ kd)), (4, .int (iZ nn)), (0, .ref h), (1, .int (iZ pe)), (2, .int (iZ ot)), (3, .int (iZ sy))] → W p l e ((headSpec wsX8_call ({ frames := 3, cells := 0, slots := 0, locals := 77 })).room) s m (([.ref h, .int (iZ pe), .int (iZ ot), .int (iZ sy)] : List Value).toArray) below meth c s.heap [] 0 0 (MQ below (vp_Si (fun r => r = iZ (s_call M pe ot sy))) (([.ref h, .int (iZ pe), .int (iZ ot), .int (iZ sy)] : List Value).toArray) s 0 0 (fun _ => False)) (F0 m 43 ls [.int (iZ v5), .int (iZ kd)]) := by
          intro v5 hv5 ls hl
          refine z_icmp_ge (x := kd) (y := v5) (tgt := 103) hx hb (by omega) (by omega) dX8_call_43 (by decide) (fun c7 => ?_) (fun c7 => ?_)
          · refine lv_iinc (v := iZ (nn + 1)) (lv' := [(4, .int (iZ (nn + 1))), (5, .int (iZ kd)), (0, .ref h), (1, .int (iZ pe)), (2, .int (iZ ot)), (3, .int (iZ sy))]) hx hb dX8_call_103 hl (k := 1) rfl (iZ_add _ _) (by decide) rfl (fun ls hl => ?_)
            refine lv_goto (tgt := 22) hx hb dX8_call_106 (by decide) ?_
            exact ih22 (nn + 1) ⟨(by show 0 ≤ (nn + 1) ∧ (nn + 1) ≤ 4; omega), (by show s_call M pe ot sy = zfindL (fun q => decide (s_hrd M pe ot sy q (s_wind M 0))) (shN.drop (s_pos (nn + 1) 0 0)); rw [i3]; congr 2; unfold s_pos; omega)⟩ (by show (4 - (nn + 1)).toNat < (4 - nn).toNat; omega) ls (lv_sub hl [0, 2, 3, 4, 5] rfl)
          · refine lv_iconst (v := iZ 0) hx hb dX8_call_46 (by decide) ?_
            refine lv_istore (lv' := [(6, .int (iZ 0)), (5, .int (iZ kd)), (4, .int (iZ nn)), (0, .ref h), (1, .int (iZ pe)), (2, .int (iZ ot)), (3, .int (iZ sy))]) hx hb dX8_call_47 hl (by decide) rfl (fun ls hl => ?_)
            replace hl : lv_has ls 8 [(6, .int (iZ (0 : Int))), (5, .int (iZ kd)), (4, .int (iZ nn)), (0, .ref h), (1, .int (iZ pe)), (2, .int (iZ ot)), (3, .int (iZ sy))] := lv_sub hl [0, 1, 2, 3, 4, 5, 6] rfl
            revert ls
            refine z_loop (σ := Int) (fun x9 => (0 ≤ x9 ∧ x9 ≤ 2) ∧ (s_call M pe ot sy = zfindL (fun q => decide (s_hrd M pe ot sy q (s_wind M 0))) (shN.drop (s_pos nn kd x9)))) (fun x9 => [(6, .int (iZ x9)), (5, .int (iZ kd)), (4, .int (iZ nn)), (0, .ref h), (1, .int (iZ pe)), (2, .int (iZ ot)), (3, .int (iZ sy))]) 8 (fun x9 => (2 - x9).toNat) (0 : Int) ⟨(by show 0 ≤ (0 : Int) ∧ (0 : Int) ≤ 2; omega), (by show s_call M pe ot sy = zfindL (fun q => decide (s_hrd M pe ot sy q (s_wind M 0))) (shN.drop (s_pos nn kd (0 : Int))); exact i3)⟩ ?_
            rintro sd hI9 ih49 ls hl
            obtain ⟨i6, i5⟩ := hI9
            replace i6 : 0 ≤ sd ∧ sd ≤ 2 := i6
            replace i5 : s_call M pe ot sy = zfindL (fun q => decide (s_hrd M pe ot sy q (s_wind M 0))) (shN.drop (s_pos nn kd sd)) := i5
            replace hl : lv_has ls 8 [(6, .int (iZ sd)), (5, .int (iZ kd)), (4, .int (iZ nn)), (0, .ref h), (1, .int (iZ pe)), (2, .int (iZ ot)), (3, .int (iZ sy))] := hl
            refine lv_iload hx hb dX8_call_49 (lv_at hl 0 rfl) ?_
            refine lv_iconst (v := iZ 1) hx hb dX8_call_51 (by decide) ?_
            refine z_icmp_gt (x := sd) (y := 1) (tgt := 97) hx hb (by omega) (by omega) dX8_call_52 (by decide) (fun c8 => ?_) (fun c8 => ?_)
            · refine lv_iinc (v := iZ (kd + 1)) (lv' := [(5, .int (iZ (kd + 1))), (6, .int (iZ sd)), (4, .int (iZ nn)), (0, .ref h), (1, .int (iZ pe)), (2, .int (iZ ot)), (3, .int (iZ sy))]) hx hb dX8_call_97 hl (k := 1) rfl (iZ_add _ _) (by decide) rfl (fun ls hl => ?_)
              refine W.eq (g2 := F0 m 100 ls []) rfl ?_
              refine lv_goto (tgt := 31) hx hb dX8_call_100 (by decide) ?_
              exact ih31 (kd + 1) ⟨(by show 0 ≤ (kd + 1) ∧ (kd + 1) ≤ 4 ∧ (nn = 0 → (kd + 1) ≤ 1); omega), (by show s_call M pe ot sy = zfindL (fun q => decide (s_hrd M pe ot sy q (s_wind M 0))) (shN.drop (s_pos nn (kd + 1) 0)); rw [i5]; congr 2; unfold s_pos; omega)⟩ (by show (4 - (kd + 1)).toNat < (4 - kd).toNat; omega) ls (lv_sub hl [0, 2, 3, 4, 5, 6] rfl)
            · refine lv_bipush (v := iZ 100) hx hb dX8_call_55 (by decide) ?_
              refine lv_iload hx hb dX8_call_57 (lv_at hl 1 rfl) ?_
              refine z_imul hx hb dX8_call_59 ?_
              refine lv_bipush (v := iZ 10) hx hb dX8_call_60 (by decide) ?_
              refine lv_iload hx hb dX8_call_62 (lv_at hl 2 rfl) ?_
              refine z_imul hx hb dX8_call_64 ?_
              refine z_iadd hx hb dX8_call_65 ?_
              refine lv_iload hx hb dX8_call_66 (lv_at hl 0 rfl) ?_
              refine z_iadd hx hb dX8_call_68 ?_
              refine lv_istore (lv' := [(7, .int (iZ (((100 * kd) + (10 * nn)) + sd))), (6, .int (iZ sd)), (5, .int (iZ kd)), (4, .int (iZ nn)), (0, .ref h), (1, .int (iZ pe)), (2, .int (iZ ot)), (3, .int (iZ sy))]) hx hb dX8_call_69 hl (by decide) rfl (fun ls hl => ?_)
              refine lv_aload_n hx hb dX8_call_71 rfl (lv_at hl 4 rfl) ?_
              refine W.eq (g2 := F0 m 72 ls [.ref h]) rfl ?_
              refine lv_iload_n hx hb dX8_call_72 rfl (lv_at hl 5 rfl) ?_
              refine lv_iload_n hx hb dX8_call_73 rfl (lv_at hl 6 rfl) ?_
              refine lv_iload_n hx hb dX8_call_74 rfl (lv_at hl 7 rfl) ?_
              refine lv_iload hx hb dX8_call_75 (lv_at hl 0 rfl) ?_
              refine lv_aload_n hx hb dX8_call_77 rfl (lv_at hl 4 rfl) ?_
              refine lv_iconst (v := iZ 0) hx hb dX8_call_78 (by decide) ?_
              refine mq_ci (As := [.int (iZ 0)]) (rest := [.int (iZ (((100 * kd) + (10 * nn)) + sd)), .int (iZ sy), .int (iZ ot), .int (iZ pe), .ref h]) ⟨hx, hb, hml, hown, hts⟩ hK hP (C_windIn l D C h a M 0 hI (by omega)) (cwV 1 hts gX8_call_X8_windIn rfl rfl rfl (by decide +kernel) ⟨Nat.le_of_ble_eq_true rfl, Nat.le_of_ble_eq_true rfl⟩) rfl rfl hl.1 (Nat.le_of_ble_eq_true rfl) ⟨Nat.le_of_ble_eq_true rfl, Nat.le_of_ble_eq_true rfl⟩ dX8_call_79 ?_
              have hwi := mI_wd hI 0
              refine mq_ci (As := [.int (iZ pe), .int (iZ ot), .int (iZ sy), .int (iZ (((100 * kd) + (10 * nn)) + sd)), .int (iZ (s_wind M 0))]) (rest := []) ⟨hx, hb, hml, hown, hts⟩ hK hP (C_isHeard l D C h a M pe ot sy (((100 * kd) + (10 * nn)) + sd) (s_wind M 0) hI (by omega) (by omega) (by omega) (by omega) (by omega) (by omega)) (cwV 5 hts gX8_call_X8_isHeard rfl rfl rfl (by decide +kernel) ⟨Nat.le_of_ble_eq_true rfl, Nat.le_of_ble_eq_true rfl⟩) rfl rfl hl.1 (Nat.le_of_ble_eq_true rfl) ⟨Nat.le_of_ble_eq_true rfl, Nat.le_of_ble_eq_true rfl⟩ dX8_call_82 ?_
              refine z_ifb_eq (P := (s_hrd M pe ot sy (((100 * kd) + (10 * nn)) + sd) (s_wind M 0))) (tgt := 91) hx hb dX8_call_85 (by decide) (fun c9 => ?_) (fun c9 => ?_)
              · refine lv_iinc (v := iZ (sd + 1)) (lv' := [(6, .int (iZ (sd + 1))), (7, .int (iZ (((100 * kd) + (10 * nn)) + sd))), (5, .int (iZ kd)), (4, .int (iZ nn)), (0, .ref h), (1, .int (iZ pe)), (2, .int (iZ ot)), (3, .int (iZ sy))]) hx hb dX8_call_91 hl (k := 1) rfl (iZ_add _ _) (by decide) rfl (fun ls hl => ?_)
                refine lv_goto (tgt := 49) hx hb dX8_call_94 (by decide) ?_
                exact ih49 (sd + 1) ⟨(by show 0 ≤ (sd + 1) ∧ (sd + 1) ≤ 2; omega), (by show s_call M pe ot sy = zfindL (fun q => decide (s_hrd M pe ot sy q (s_wind M 0))) (shN.drop (s_pos nn kd (sd + 1))); rw [i5, s_call_step _ (by omega) (by omega) (by omega)]; exact if_neg (fun h9 => absurd (of_decide_eq_true h9) (by assumption)))⟩ (by show (2 - (sd + 1)).toNat < (2 - sd).toNat; omega) ls (lv_sub hl [0, 2, 3, 4, 5, 6, 7] rfl)
              · refine lv_iload hx hb dX8_call_88 (lv_at hl 0 rfl) ?_
                refine W.eq (g2 := F0 m 90 ls [.int (iZ (((100 * kd) + (10 * nn)) + sd))]) rfl ?_
                exact mq_ret hx hb hr rfl (by first | (rw [i5, s_call_step _ (by omega) (by omega) (by omega)]; exact (if_pos (decide_eq_true (by assumption))).symm) | (have q : nn = 4 := (by omega); rw [i2, q]; rfl) | (unfold s_call; rw [if_neg (by omega)])) dX8_call_90 hlocks rfl
        refine z_if_ne (x := nn) (tgt := 42) hx hb (by omega) dX8_call_35 (by decide) (fun c4 => ?_) (fun c4 => ?_)
        · refine W.eq (g2 := F0 m 42 ls [.int (iZ kd)]) rfl ?_
          refine lv_iconst (v := iZ 4) hx hb dX8_call_42 (by decide) ?_
          exact K6 4 (by first | rfl | (rw [if_neg c4]; done) | omega | (subst_vars; first | rfl | (rw [if_neg c4]; done) | omega)) ls (lv_sub hl [0, 1, 2, 3, 4, 5] rfl)
        · refine lv_iconst (v := iZ 1) hx hb dX8_call_38 (by decide) ?_
          refine lv_goto (tgt := 43) hx hb dX8_call_39 (by decide) ?_
          exact K6 1 (by first | rfl | (rw [if_pos c4]; done) | omega | (subst_vars; first | rfl | (rw [if_pos c4]; done) | omega)) ls (lv_sub hl [0, 1, 2, 3, 4, 5] rfl)
    · refine lv_iconst (v := iZ (-1)) hx hb dX8_call_17 (by decide) ?_
      exact mq_ret hx hb hr rfl (by first | (rw [i5, s_call_step _ (by omega) (by omega) (by omega)]; exact (if_pos (decide_eq_true (by assumption))).symm) | (have q : nn = 4 := (by omega); rw [i2, q]; rfl) | (unfold s_call; rw [if_neg (by omega)])) dX8_call_18 hlocks rfl
set_option maxHeartbeats 4000000 in
set_option maxRecDepth 100000 in
theorem C_behind (l : Launch) (D : va_G) (C : mC) (h : Nat) (a : Nat → Nat) (M : Nat → Nat → Int) (st pe sy fe nn sd : Int) (hI : mI M) (h0 : 0 ≤ st ∧ st < 64) (h1 : 0 ≤ pe ∧ pe < M 2 0) (h2 : 0 ≤ sy ∧ sy < M 5 0) (h3 : 0 ≤ fe ∧ fe ≤ 3) (h4 : 0 ≤ nn ∧ nn ≤ 3) (h5 : 0 ≤ sd ∧ sd ≤ 1) : Met l yX8_behind wsX8_behind ({ frames := 2, cells := 0, slots := 0, locals := 52 }) (va_Pc [.ref h, .int (iZ st), .int (iZ pe), .int (iZ sy), .int (iZ fe), .int (iZ nn), .int (iZ sd)] (mOk D C h a M)) (vp_Si (fun r => r = iZ (zor st (s_hearers M (s_ln M pe sy fe nn sd) pe)))) 0 0 (fun _ => False) := by
  refine Met.ofW (cc := cX8_behind) (maxL := 7) (ret := (some .int)) (by decide) rfl ?_
  intro p e s m args below meth c s₁ B hml hv
  obtain ⟨rfl, hP, hK⟩ := hv
  have hx := B.exec
  have hb := B.bytes
  have hr := B.returns
  have hts := atoms_spec (ws := wsX8_behind) B.pre
  have hown : s.vm.findClass RX8 = some m.cls := findClass_of_methodNamed B.named
  have hlocks := B.notSynchronized
  have hin : ∀ w ∈ wsX80, w ∈ wsX8_behind := fun _ w_h => (List.mem_cons_of_mem _ (List.mem_append_right _ w_h))
  have hl := lv_entry ([.ref h, .int (iZ st), .int (iZ pe), .int (iZ sy), .int (iZ fe), .int (iZ nn), .int (iZ sd)]) (n := 7) (Nat.le_of_ble_eq_true rfl)
  rw [lg_entry_eq]
  generalize (lg_sl ([.ref h, .int (iZ st), .int (iZ pe), .int (iZ sy), .int (iZ fe), .int (iZ nn), .int (iZ sd)]) ++ List.replicate (7 - (lg_sl ([.ref h, .int (iZ st), .int (iZ pe), .int (iZ sy), .int (iZ fe), .int (iZ nn), .int (iZ sd)])).length) Slot.unset).toArray = ls at hl ⊢
  replace hl : lv_has ls 7 [(0, .ref h), (1, .int (iZ st)), (2, .int (iZ pe)), (3, .int (iZ sy)), (4, .int (iZ fe)), (5, .int (iZ nn)), (6, .int (iZ sd))] := hl
  have hnw := mI_now hI
  refine lv_iload_n hx hb dX8_behind_0 rfl (lv_at hl 1 rfl) ?_
  refine lv_aload_n hx hb dX8_behind_1 rfl (lv_at hl 0 rfl) ?_
  refine lv_aload_n hx hb dX8_behind_2 rfl (lv_at hl 0 rfl) ?_
  refine lv_iload_n hx hb dX8_behind_3 rfl (lv_at hl 2 rfl) ?_
  refine lv_iload_n hx hb dX8_behind_4 rfl (lv_at hl 3 rfl) ?_
  refine lv_iload hx hb dX8_behind_5 (lv_at hl 4 rfl) ?_
  refine lv_iload hx hb dX8_behind_7 (lv_at hl 5 rfl) ?_
  refine lv_iload hx hb dX8_behind_9 (lv_at hl 6 rfl) ?_
  refine lv_aload_n hx hb dX8_behind_11 rfl (lv_at hl 0 rfl) ?_
  refine W.eq (g2 := F0 m 12 ls [.ref h, .int (iZ sd), .int (iZ nn), .int (iZ fe), .int (iZ sy), .int (iZ pe), .ref h, .ref h, .int (iZ st)]) rfl ?_
  refine lv_iconst (v := iZ 0) hx hb dX8_behind_12 (by decide) ?_
  refine mq_ci (As := [.int (iZ 0)]) (rest := [.int (iZ sd), .int (iZ nn), .int (iZ fe), .int (iZ sy), .int (iZ pe), .ref h, .ref h, .int (iZ st)]) ⟨hx, hb, hml, hown, hts⟩ hK hP (C_windIn l D C h a M 0 hI (by omega)) (cwV 1 hts gX8_behind_X8_windIn rfl rfl rfl (by decide +kernel) ⟨Nat.le_of_ble_eq_true rfl, Nat.le_of_ble_eq_true rfl⟩) rfl rfl hl.1 (Nat.le_of_ble_eq_true rfl) ⟨Nat.le_of_ble_eq_true rfl, Nat.le_of_ble_eq_true rfl⟩ dX8_behind_13 ?_
  have hwi := mI_wd hI 0
  refine mq_ci (As := [.int (iZ pe), .int (iZ sy), .int (iZ fe), .int (iZ nn), .int (iZ sd), .int (iZ (s_wind M 0))]) (rest := [.ref h, .int (iZ st)]) ⟨hx, hb, hml, hown, hts⟩ hK hP (C_landsBy l D C h a M pe sy fe nn sd (s_wind M 0) hI (by omega) (by omega) (by omega) (by omega) (by omega) (by omega)) (cwV 6 hts gX8_behind_X8_landsBy rfl rfl rfl (by decide +kernel) ⟨Nat.le_of_ble_eq_true rfl, Nat.le_of_ble_eq_true rfl⟩) rfl rfl hl.1 (Nat.le_of_ble_eq_true rfl) ⟨Nat.le_of_ble_eq_true rfl, Nat.le_of_ble_eq_true rfl⟩ dX8_behind_16 ?_
  have hld := s_land_bd (M 3 (Int.toNat pe)) (M 7 (Int.toNat sy)) (M 6 (Int.toNat sy)) (M 19 1) fe nn sd (s_wind M 0)
  refine lv_iload_n hx hb dX8_behind_19 rfl (lv_at hl 2 rfl) ?_
  refine mq_ci (As := [.int (iZ (s_land (M 3 (Int.toNat pe)) (M 7 (Int.toNat sy)) (M 6 (Int.toNat sy)) (M 19 1) fe nn sd (s_wind M 0))), .int (iZ pe)]) (rest := [.int (iZ st)]) ⟨hx, hb, hml, hown, hts⟩ hK hP (C_hearersOf l D C h a M (s_land (M 3 (Int.toNat pe)) (M 7 (Int.toNat sy)) (M 6 (Int.toNat sy)) (M 19 1) fe nn sd (s_wind M 0)) pe hI (by omega) (by omega)) (cwV 2 hts gX8_behind_X8_hearersOf rfl rfl rfl (by decide +kernel) ⟨Nat.le_of_ble_eq_true rfl, Nat.le_of_ble_eq_true rfl⟩) rfl rfl hl.1 (Nat.le_of_ble_eq_true rfl) ⟨Nat.le_of_ble_eq_true rfl, Nat.le_of_ble_eq_true rfl⟩ dX8_behind_20 ?_
  have hhe := s_hearers_bd M (s_land (M 3 (Int.toNat pe)) (M 7 (Int.toNat sy)) (M 6 (Int.toNat sy)) (M 19 1) fe nn sd (s_wind M 0)) pe (by omega)
  refine z_ior hx hb (by omega) (by omega) dX8_behind_23 ?_
  exact mq_ret hx hb hr rfl rfl dX8_behind_24 hlocks rfl
set_option maxHeartbeats 4000000 in
set_option maxRecDepth 100000 in
theorem C_bodiesOf (l : Launch) (kd : Int) (h1 : -2147483648 ≤ kd ∧ kd < 2147483648) : Met l yX8_bodiesOf wsX8_bodiesOf ({ frames := 0, cells := 0, slots := 0, locals := 0 }) (va_Pc [.int (iZ kd)] (fun _ => True)) (vp_Si (fun r => r = iZ (s_bodies kd))) 0 0 (fun _ => False) := by
  refine Met.ofW (cc := cX8_bodiesOf) (maxL := 1) (ret := (some .int)) (by decide) rfl ?_
  intro p e s m args below meth c s₁ B hml hv
  obtain ⟨rfl, -⟩ := hv
  have hx := B.exec
  have hb := B.bytes
  have hr := B.returns
  have hts := atoms_spec (ws := wsX8_bodiesOf) B.pre
  have hown : s.vm.findClass RX8 = some m.cls := findClass_of_methodNamed B.named
  have hlocks := B.notSynchronized
  have hl := lv_entry ([.int (iZ kd)]) (n := 1) (Nat.le_of_ble_eq_true rfl)
  rw [lg_entry_eq]
  generalize (lg_sl ([.int (iZ kd)]) ++ List.replicate (1 - (lg_sl ([.int (iZ kd)])).length) Slot.unset).toArray = ls at hl ⊢
  replace hl : lv_has ls 1 [(0, .int (iZ kd))] := hl
  refine lv_iload_n hx hb dX8_bodiesOf_0 rfl (lv_at hl 0 rfl) ?_
  by_cases c1 : kd = 0
  · refine lv_tableIn (off := 35) (tgt := 36) hx hb dX8_bodiesOf_1 (by rw [iZ_toInt (by omega)]; omega) (by rw [iZ_toInt (by omega)]; omega) (by rw [iZ_toInt (by omega), c1]; rfl) (by decide) ?_
    refine lv_iconst (v := iZ 1) hx hb dX8_bodiesOf_36 (by decide) ?_
    exact mq_ret hx hb hr rfl (by unfold s_bodies; subst_vars; (repeat' split) <;> first | rfl | omega) dX8_bodiesOf_37 hlocks rfl
  by_cases c2 : kd = 1
  · refine lv_tableIn (off := 37) (tgt := 38) hx hb dX8_bodiesOf_1 (by rw [iZ_toInt (by omega)]; omega) (by rw [iZ_toInt (by omega)]; omega) (by rw [iZ_toInt (by omega), c2]; rfl) (by decide) ?_
    refine lv_iconst (v := iZ 3) hx hb dX8_bodiesOf_38 (by decide) ?_
    refine W.eq (g2 := F0 m 39 ls [.int (iZ 3)]) rfl ?_
    exact mq_ret hx hb hr rfl (by unfold s_bodies; subst_vars; (repeat' split) <;> first | rfl | omega) dX8_bodiesOf_39 hlocks rfl
  by_cases c3 : kd = 2
  · refine lv_tableIn (off := 39) (tgt := 40) hx hb dX8_bodiesOf_1 (by rw [iZ_toInt (by omega)]; omega) (by rw [iZ_toInt (by omega)]; omega) (by rw [iZ_toInt (by omega), c3]; rfl) (by decide) ?_
    refine lv_iconst (v := iZ 5) hx hb dX8_bodiesOf_40 (by decide) ?_
    exact mq_ret hx hb hr rfl (by unfold s_bodies; subst_vars; (repeat' split) <;> first | rfl | omega) dX8_bodiesOf_41 hlocks rfl
  by_cases c4 : kd = 3
  · refine lv_tableIn (off := 41) (tgt := 42) hx hb dX8_bodiesOf_1 (by rw [iZ_toInt (by omega)]; omega) (by rw [iZ_toInt (by omega)]; omega) (by rw [iZ_toInt (by omega), c4]; rfl) (by decide) ?_
    refine lv_bipush (v := iZ 11) hx hb dX8_bodiesOf_42 (by decide) ?_
    exact mq_ret hx hb hr rfl (by unfold s_bodies; subst_vars; (repeat' split) <;> first | rfl | omega) dX8_bodiesOf_44 hlocks rfl
  by_cases c5 : kd = 4
  · refine lv_tableIn (off := 44) (tgt := 45) hx hb dX8_bodiesOf_1 (by rw [iZ_toInt (by omega)]; omega) (by rw [iZ_toInt (by omega)]; omega) (by rw [iZ_toInt (by omega), c5]; rfl) (by decide) ?_
    refine lv_bipush (v := iZ 21) hx hb dX8_bodiesOf_45 (by decide) ?_
    exact mq_ret hx hb hr rfl (by unfold s_bodies; subst_vars; (repeat' split) <;> first | rfl | omega) dX8_bodiesOf_47 hlocks rfl
  refine lv_tableOut (tgt := 48) hx hb dX8_bodiesOf_1 (by rw [iZ_toInt (by omega)]; omega) (by decide) ?_
  refine lv_bipush (v := iZ 33) hx hb dX8_bodiesOf_48 (by decide) ?_
  exact mq_ret hx hb hr rfl (by unfold s_bodies; subst_vars; (repeat' split) <;> first | rfl | omega) dX8_bodiesOf_50 hlocks rfl
set_option maxHeartbeats 4000000 in
set_option maxRecDepth 100000 in
theorem C_count (l : Launch) (D : va_G) (C : mC) (h : Nat) (a : Nat → Nat) (M : Nat → Nat → Int) (wh : Int) (hI : mI M) (h1 : -2147483648 ≤ wh ∧ wh < 2147483648) : Met l yX8_count wsX8_count ({ frames := 0, cells := 0, slots := 0, locals := 0 }) (va_Pc [.ref h, .int (iZ wh)] (mOk D C h a M)) (vp_Si (fun r => r = iZ (s_count M wh))) 0 0 (fun _ => False) := by
  refine Met.ofW (cc := cX8_count) (maxL := 2) (ret := (some .int)) (by decide) rfl ?_
  intro p e s m args below meth c s₁ B hml hv
  obtain ⟨rfl, hP, hK⟩ := hv
  have hx := B.exec
  have hb := B.bytes
  have hr := B.returns
  have hts := atoms_spec (ws := wsX8_count) B.pre
  have hown : s.vm.findClass RX8 = some m.cls := findClass_of_methodNamed B.named
  have hlocks := B.notSynchronized
  have hin : ∀ w ∈ wsX80, w ∈ wsX8_count := fun _ w_h => (List.mem_cons_of_mem _ (List.mem_append_right _ w_h))
  have hl := lv_entry ([.ref h, .int (iZ wh)]) (n := 2) (Nat.le_of_ble_eq_true rfl)
  rw [lg_entry_eq]
  generalize (lg_sl ([.ref h, .int (iZ wh)]) ++ List.replicate (2 - (lg_sl ([.ref h, .int (iZ wh)])).length) Slot.unset).toArray = ls at hl ⊢
  replace hl : lv_has ls 2 [(0, .ref h), (1, .int (iZ wh))] := hl
  have hnw := mI_now hI
  refine lv_iload_n hx hb dX8_count_0 rfl (lv_at hl 1 rfl) ?_
  by_cases c1 : wh = 0
  · refine lv_tableIn (off := 39) (tgt := 40) hx hb dX8_count_1 (by rw [iZ_toInt (by omega)]; omega) (by rw [iZ_toInt (by omega)]; omega) (by rw [iZ_toInt (by omega), c1]; rfl) (by decide) ?_
    refine lv_aload_n hx hb dX8_count_40 rfl (lv_at hl 0 rfl) ?_
    refine W.eq (g2 := F0 m 41 ls [.ref h]) rfl ?_
    refine mq_get hx hb hts hin hown hK hP 2 (by decide) (hts (.fieldLink RX8 13 "WordFletchersModel" "people" "[I") (List.mem_cons_of_mem _ (List.mem_append_left _ (List.mem_of_getElem? (i := 0) rfl)))) rfl dX8_count_41 ?_
    refine lv_iconst (v := iZ 0) hx hb dX8_count_44 (by decide) ?_
    refine mq_iald hx hb hK hP 2 2 (n := 2) rfl (by decide) 0 rfl (by omega) dX8_count_45 ?_
    exact mq_ret hx hb hr rfl (by unfold s_count; subst_vars; (repeat' split) <;> first | rfl | omega) dX8_count_46 hlocks rfl
  by_cases c2 : wh = 1
  · refine lv_tableIn (off := 46) (tgt := 47) hx hb dX8_count_1 (by rw [iZ_toInt (by omega)]; omega) (by rw [iZ_toInt (by omega)]; omega) (by rw [iZ_toInt (by omega), c2]; rfl) (by decide) ?_
    refine lv_aload_n hx hb dX8_count_47 rfl (lv_at hl 0 rfl) ?_
    refine mq_get hx hb hts hin hown hK hP 5 (by decide) (hts (.fieldLink RX8 23 "WordFletchersModel" "sayings" "[I") (List.mem_cons_of_mem _ (List.mem_append_left _ (List.mem_of_getElem? (i := 1) rfl)))) rfl dX8_count_48 ?_
    refine lv_iconst (v := iZ 0) hx hb dX8_count_51 (by decide) ?_
    refine mq_iald hx hb hK hP 5 5 (n := 2) rfl (by decide) 0 rfl (by omega) dX8_count_52 ?_
    exact mq_ret hx hb hr rfl (by unfold s_count; subst_vars; (repeat' split) <;> first | rfl | omega) dX8_count_53 hlocks rfl
  by_cases c3 : wh = 2
  · refine lv_tableIn (off := 53) (tgt := 54) hx hb dX8_count_1 (by rw [iZ_toInt (by omega)]; omega) (by rw [iZ_toInt (by omega)]; omega) (by rw [iZ_toInt (by omega), c3]; rfl) (by decide) ?_
    refine lv_aload_n hx hb dX8_count_54 rfl (lv_at hl 0 rfl) ?_
    refine mq_get hx hb hts hin hown hK hP 9 (by decide) (hts (.fieldLink RX8 35 "WordFletchersModel" "winds" "[I") (List.mem_cons_of_mem _ (List.mem_append_left _ (List.mem_of_getElem? (i := 2) rfl)))) rfl dX8_count_55 ?_
    refine lv_iconst (v := iZ 0) hx hb dX8_count_58 (by decide) ?_
    refine W.eq (g2 := F0 m 59 ls [.int (iZ 0), .ref (a 9)]) rfl ?_
    refine mq_iald hx hb hK hP 9 9 (n := 2) rfl (by decide) 0 rfl (by omega) dX8_count_59 ?_
    exact mq_ret hx hb hr rfl (by unfold s_count; subst_vars; (repeat' split) <;> first | rfl | omega) dX8_count_60 hlocks rfl
  by_cases c4 : wh = 3
  · refine lv_tableIn (off := 60) (tgt := 61) hx hb dX8_count_1 (by rw [iZ_toInt (by omega)]; omega) (by rw [iZ_toInt (by omega)]; omega) (by rw [iZ_toInt (by omega), c4]; rfl) (by decide) ?_
    refine lv_aload_n hx hb dX8_count_61 rfl (lv_at hl 0 rfl) ?_
    refine mq_get hx hb hts hin hown hK hP 28 (by decide) (hts (.fieldLink RX8 131 "WordFletchersModel" "sights" "I") (List.mem_cons_of_mem _ (List.mem_append_left _ (List.mem_of_getElem? (i := 3) rfl)))) rfl dX8_count_62 ?_
    exact mq_ret hx hb hr rfl (by unfold s_count; subst_vars; (repeat' split) <;> first | rfl | omega) dX8_count_65 hlocks rfl
  by_cases c5 : wh = 4
  · refine lv_tableIn (off := 65) (tgt := 66) hx hb dX8_count_1 (by rw [iZ_toInt (by omega)]; omega) (by rw [iZ_toInt (by omega)]; omega) (by rw [iZ_toInt (by omega), c5]; rfl) (by decide) ?_
    refine lv_aload_n hx hb dX8_count_66 rfl (lv_at hl 0 rfl) ?_
    refine mq_get hx hb hts hin hown hK hP 20 (by decide) (hts (.fieldLink RX8 47 "WordFletchersModel" "known" "[I") (List.mem_cons_of_mem _ (List.mem_append_left _ (List.mem_of_getElem? (i := 4) rfl)))) rfl dX8_count_67 ?_
    refine lv_iconst (v := iZ 0) hx hb dX8_count_70 (by decide) ?_
    refine mq_iald hx hb hK hP 20 13 (n := 3) rfl (by decide) 0 rfl (by omega) dX8_count_71 ?_
    exact mq_ret hx hb hr rfl (by unfold s_count; subst_vars; (repeat' split) <;> first | rfl | omega) dX8_count_72 hlocks rfl
  by_cases c6 : wh = 5
  · refine lv_tableIn (off := 72) (tgt := 73) hx hb dX8_count_1 (by rw [iZ_toInt (by omega)]; omega) (by rw [iZ_toInt (by omega)]; omega) (by rw [iZ_toInt (by omega), c6]; rfl) (by decide) ?_
    refine lv_aload_n hx hb dX8_count_73 rfl (lv_at hl 0 rfl) ?_
    refine mq_get hx hb hts hin hown hK hP 1 (by decide) (hts (.fieldLink RX8 76 "WordFletchersModel" "typed" "I") (List.mem_cons_of_mem _ (List.mem_append_left _ (List.mem_of_getElem? (i := 5) rfl)))) rfl dX8_count_74 ?_
    refine W.eq (g2 := F0 m 77 ls [.int (iZ (M 1 0))]) rfl ?_
    exact mq_ret hx hb hr rfl (by unfold s_count; subst_vars; (repeat' split) <;> first | rfl | omega) dX8_count_77 hlocks rfl
  refine lv_tableOut (tgt := 78) hx hb dX8_count_1 (by rw [iZ_toInt (by omega)]; omega) (by decide) ?_
  refine lv_iconst (v := iZ (-1)) hx hb dX8_count_78 (by decide) ?_
  exact mq_ret hx hb hr rfl (by unfold s_count; subst_vars; (repeat' split) <;> first | rfl | omega) dX8_count_79 hlocks rfl
