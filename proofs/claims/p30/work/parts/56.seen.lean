set_option maxHeartbeats 4000000 in
set_option maxRecDepth 100000 in
theorem C_odds (l : Launch) (D : va_G) (C : mC) (h : Nat) (a : Nat → Nat) (M : Nat → Nat → Int) (pe ot sy sh wh : Int) (hI : mI M) (h0 : -2147483648 ≤ pe ∧ pe < 2147483648) (h1 : -2147483648 ≤ ot ∧ ot < 2147483648) (h2 : -2147483648 ≤ sy ∧ sy < 2147483648) (h3 : -2147483648 ≤ sh ∧ sh < 2147483648) (h4 : -2147483648 ≤ wh ∧ wh < 2147483648) : Met l yX8_odds wsX8_odds ({ frames := 3, cells := 0, slots := 0, locals := 77 }) (va_Pc [.ref h, .int (iZ pe), .int (iZ ot), .int (iZ sy), .int (iZ sh), .int (iZ wh)] (mOk D C h a M)) (vp_Si (fun r => r = iZ (s_odds M pe ot sy sh wh))) 0 0 (fun _ => False) := by
  refine Met.ofW (cc := cX8_odds) (maxL := 10) (ret := (some .int)) (by decide) rfl ?_
  intro p e s m args below meth c s₁ B hml hv
  obtain ⟨rfl, hP, hK⟩ := hv
  have hx := B.exec
  have hb := B.bytes
  have hr := B.returns
  have hts := atoms_spec (ws := wsX8_odds) B.pre
  have hown : s.vm.findClass RX8 = some m.cls := findClass_of_methodNamed B.named
  have hlocks := B.notSynchronized
  have hin : ∀ w ∈ wsX80, w ∈ wsX8_odds := fun _ w_h => (List.mem_cons_of_mem _ (List.mem_append_right _ w_h))
  have hl := lv_entry ([.ref h, .int (iZ pe), .int (iZ ot), .int (iZ sy), .int (iZ sh), .int (iZ wh)]) (n := 10) (Nat.le_of_ble_eq_true rfl)
  rw [lg_entry_eq]
  generalize (lg_sl ([.ref h, .int (iZ pe), .int (iZ ot), .int (iZ sy), .int (iZ sh), .int (iZ wh)]) ++ List.replicate (10 - (lg_sl ([.ref h, .int (iZ pe), .int (iZ ot), .int (iZ sy), .int (iZ sh), .int (iZ wh)])).length) Slot.unset).toArray = ls at hl ⊢
  replace hl : lv_has ls 10 [(0, .ref h), (1, .int (iZ pe)), (2, .int (iZ ot)), (3, .int (iZ sy)), (4, .int (iZ sh)), (5, .int (iZ wh))] := hl
  have hnw := mI_now hI
  refine lv_aload_n hx hb dX8_odds_0 rfl (lv_at hl 0 rfl) ?_
  refine lv_iload_n hx hb dX8_odds_1 rfl (lv_at hl 1 rfl) ?_
  refine lv_iload_n hx hb dX8_odds_2 rfl (lv_at hl 2 rfl) ?_
  refine mq_ci (As := [.int (iZ pe), .int (iZ ot)]) (rest := []) ⟨hx, hb, hml, hown, hts⟩ hK hP (C_areUnlike l D C h a M pe ot hI (by omega) (by omega)) (cwV 2 hts gX8_odds_X8_areUnlike rfl rfl rfl (by decide +kernel) ⟨Nat.le_of_ble_eq_true rfl, Nat.le_of_ble_eq_true rfl⟩) rfl rfl hl.1 (Nat.le_of_ble_eq_true rfl) ⟨Nat.le_of_ble_eq_true rfl, Nat.le_of_ble_eq_true rfl⟩ dX8_odds_3 ?_
  refine z_ifb_eq (P := ((0 ≤ pe ∧ pe < M 2 0) ∧ (0 ≤ ot ∧ ot < M 2 0) ∧ ¬ (pe = ot))) (tgt := 35) hx hb dX8_odds_6 (by decide) (fun c1 => ?_) (fun c1 => ?_)
  · refine lv_iconst (v := iZ (-1)) hx hb dX8_odds_35 (by decide) ?_
    exact mq_ret hx hb hr rfl (by unfold s_odds; first | (rw [if_pos (by omega)]; done) | (have q : kk = M 9 0 := (by omega); have q2 : s_up M pe ot sy sh = up := (by rw [i2, q]; rfl); have q3 : s_ogc M pe ot sy sh = aa := (by unfold s_ogc; rw [q2]; exact hg.symm); rw [if_neg (by omega), q2, q3]; first | assumption | omega) | omega) dX8_odds_36 hlocks rfl
  · refine W.eq (g2 := F0 m 9 ls []) rfl ?_
    refine lv_aload_n hx hb dX8_odds_9 rfl (lv_at hl 0 rfl) ?_
    refine lv_iload_n hx hb dX8_odds_10 rfl (lv_at hl 3 rfl) ?_
    refine mq_ci (As := [.int (iZ sy)]) (rest := []) ⟨hx, hb, hml, hown, hts⟩ hK hP (C_isSaying l D C h a M sy hI (by omega)) (cwV 1 hts gX8_odds_X8_isSaying rfl rfl rfl (by decide +kernel) ⟨Nat.le_of_ble_eq_true rfl, Nat.le_of_ble_eq_true rfl⟩) rfl rfl hl.1 (Nat.le_of_ble_eq_true rfl) ⟨Nat.le_of_ble_eq_true rfl, Nat.le_of_ble_eq_true rfl⟩ dX8_odds_11 ?_
    refine z_ifb_eq (P := (0 ≤ sy ∧ sy < M 5 0)) (tgt := 35) hx hb dX8_odds_14 (by decide) (fun c2 => ?_) (fun c2 => ?_)
    · refine lv_iconst (v := iZ (-1)) hx hb dX8_odds_35 (by decide) ?_
      exact mq_ret hx hb hr rfl (by unfold s_odds; first | (rw [if_pos (by omega)]; done) | (have q : kk = M 9 0 := (by omega); have q2 : s_up M pe ot sy sh = up := (by rw [i2, q]; rfl); have q3 : s_ogc M pe ot sy sh = aa := (by unfold s_ogc; rw [q2]; exact hg.symm); rw [if_neg (by omega), q2, q3]; first | assumption | omega) | omega) dX8_odds_36 hlocks rfl
    · refine lv_iload hx hb dX8_odds_17 (lv_at hl 4 rfl) ?_
      refine mq_cs (As := [.int (iZ sh)]) (rest := []) ⟨hx, hb, hml, hown, hts⟩ (C_isShotBy l sh (by omega)) (va_cwS 1 hts gX8_odds_X8_isShotBy rfl rfl rfl (by decide +kernel) ⟨Nat.le_of_ble_eq_true rfl, Nat.le_of_ble_eq_true rfl⟩) rfl rfl hl.1 (Nat.le_of_ble_eq_true rfl) ⟨Nat.le_of_ble_eq_true rfl, Nat.le_of_ble_eq_true rfl⟩ dX8_odds_19 ?_
      refine z_ifb_eq (P := (0 ≤ sh ∧ sh / 100 ≤ 3 ∧ sh / 10 % 10 ≤ 3 ∧ sh % 10 ≤ 1)) (tgt := 35) hx hb dX8_odds_22 (by decide) (fun c3 => ?_) (fun c3 => ?_)
      · refine lv_iconst (v := iZ (-1)) hx hb dX8_odds_35 (by decide) ?_
        exact mq_ret hx hb hr rfl (by unfold s_odds; first | (rw [if_pos (by omega)]; done) | (have q : kk = M 9 0 := (by omega); have q2 : s_up M pe ot sy sh = up := (by rw [i2, q]; rfl); have q3 : s_ogc M pe ot sy sh = aa := (by unfold s_ogc; rw [q2]; exact hg.symm); rw [if_neg (by omega), q2, q3]; first | assumption | omega) | omega) dX8_odds_36 hlocks rfl
      · refine lv_iload hx hb dX8_odds_25 (lv_at hl 5 rfl) ?_
        refine W.eq (g2 := F0 m 27 ls [.int (iZ wh)]) rfl ?_
        refine lv_iconst (v := iZ 0) hx hb dX8_odds_27 (by decide) ?_
        refine lv_iconst (v := iZ 1) hx hb dX8_odds_28 (by decide) ?_
        refine mq_cs (As := [.int (iZ wh), .int (iZ 0), .int (iZ 1)]) (rest := []) ⟨hx, hb, hml, hown, hts⟩ (C_in l wh 0 1 (by omega) (by omega) (by omega)) (va_cwS 3 hts gX8_odds_X8_in rfl rfl rfl (by decide +kernel) ⟨Nat.le_of_ble_eq_true rfl, Nat.le_of_ble_eq_true rfl⟩) rfl rfl hl.1 (Nat.le_of_ble_eq_true rfl) ⟨Nat.le_of_ble_eq_true rfl, Nat.le_of_ble_eq_true rfl⟩ dX8_odds_29 ?_
        refine z_ifb_ne (P := (0 ≤ wh ∧ wh ≤ 1)) (tgt := 37) hx hb dX8_odds_32 (by decide) (fun c4 => ?_) (fun c4 => ?_)
        · refine lv_iconst (v := iZ 0) hx hb dX8_odds_37 (by decide) ?_
          refine lv_istore (lv' := [(6, .int (iZ 0)), (0, .ref h), (1, .int (iZ pe)), (2, .int (iZ ot)), (3, .int (iZ sy)), (4, .int (iZ sh)), (5, .int (iZ wh))]) hx hb dX8_odds_38 hl (by decide) rfl (fun ls hl => ?_)
          refine lv_iconst (v := iZ 0) hx hb dX8_odds_40 (by decide) ?_
          refine lv_istore (lv' := [(7, .int (iZ 0)), (6, .int (iZ 0)), (0, .ref h), (1, .int (iZ pe)), (2, .int (iZ ot)), (3, .int (iZ sy)), (4, .int (iZ sh)), (5, .int (iZ wh))]) hx hb dX8_odds_41 hl (by decide) rfl (fun ls hl => ?_)
          replace hl : lv_has ls 10 [(7, .int (iZ (0 : Int))), (6, .int (iZ (0 : Int))), (0, .ref h), (1, .int (iZ pe)), (2, .int (iZ ot)), (3, .int (iZ sy)), (4, .int (iZ sh)), (5, .int (iZ wh))] := lv_sub hl [0, 1, 2, 3, 4, 5, 6, 7] rfl
          revert ls
          refine z_loop (σ := Int × Int) (fun x9 => ((0 ≤ x9.2 ∧ x9.2 ≤ M 9 0) ∧ (0 ≤ x9.1 ∧ x9.1 ≤ x9.2)) ∧ (x9.1 = s_upN M pe ot sy sh (Int.toNat x9.2))) (fun x9 => [(7, .int (iZ (x9.2))), (6, .int (iZ (x9.1))), (0, .ref h), (1, .int (iZ pe)), (2, .int (iZ ot)), (3, .int (iZ sy)), (4, .int (iZ sh)), (5, .int (iZ wh))]) 10 (fun x9 => (M 9 0 - x9.2).toNat) ((0 : Int), (0 : Int)) ⟨(by show (0 ≤ (0 : Int) ∧ (0 : Int) ≤ M 9 0) ∧ (0 ≤ (0 : Int) ∧ (0 : Int) ≤ (0 : Int)); omega), (by show (0 : Int) = s_upN M pe ot sy sh (Int.toNat (0 : Int)); rfl)⟩ ?_
          rintro ⟨up, kk⟩ hI9 ih43 ls hl
          obtain ⟨i1, i2⟩ := hI9
          replace i1 : (0 ≤ kk ∧ kk ≤ M 9 0) ∧ (0 ≤ up ∧ up ≤ kk) := i1
          replace i2 : up = s_upN M pe ot sy sh (Int.toNat kk) := i2
          replace hl : lv_has ls 10 [(7, .int (iZ kk)), (6, .int (iZ up)), (0, .ref h), (1, .int (iZ pe)), (2, .int (iZ ot)), (3, .int (iZ sy)), (4, .int (iZ sh)), (5, .int (iZ wh))] := hl
          have hwk : kk < M 9 0 → -4 ≤ M 10 (Int.toNat kk) ∧ M 10 (Int.toNat kk) ≤ 4 := fun q => mI_wk hI ⟨by omega, q⟩
          refine lv_iload hx hb dX8_odds_43 (lv_at hl 0 rfl) ?_
          refine lv_aload_n hx hb dX8_odds_45 rfl (lv_at hl 2 rfl) ?_
          refine mq_get hx hb hts hin hown hK hP 9 (by decide) (hts (.fieldLink RX8 35 "WordFletchersModel" "winds" "[I") (List.mem_cons_of_mem _ (List.mem_append_left _ (List.mem_append_left _ (List.mem_of_getElem? (i := 0) rfl))))) rfl dX8_odds_46 ?_
          refine lv_iconst (v := iZ 0) hx hb dX8_odds_49 (by decide) ?_
          refine W.eq (g2 := F0 m 50 ls [.int (iZ 0), .ref (a 9), .int (iZ kk)]) rfl ?_
          refine mq_iald hx hb hK hP 9 9 (n := 2) rfl (by decide) 0 rfl (by omega) dX8_odds_50 ?_
          refine z_icmp_ge (x := kk) (y := (M 9 0)) (tgt := 89) hx hb (by omega) (by omega) dX8_odds_51 (by decide) (fun c5 => ?_) (fun c5 => ?_)
          · refine lv_iload hx hb dX8_odds_89 (lv_at hl 1 rfl) ?_
            refine lv_istore (lv' := [(7, .int (iZ up)), (6, .int (iZ up)), (0, .ref h), (1, .int (iZ pe)), (2, .int (iZ ot)), (3, .int (iZ sy)), (4, .int (iZ sh)), (5, .int (iZ wh))]) hx hb dX8_odds_91 hl (by decide) rfl (fun ls hl => ?_)
            refine lv_aload_n hx hb dX8_odds_93 rfl (lv_at hl 2 rfl) ?_
            refine W.eq (g2 := F0 m 94 ls [.ref h]) rfl ?_
            refine mq_get hx hb hts hin hown hK hP 9 (by decide) (hts (.fieldLink RX8 35 "WordFletchersModel" "winds" "[I") (List.mem_cons_of_mem _ (List.mem_append_left _ (List.mem_append_left _ (List.mem_of_getElem? (i := 0) rfl))))) rfl dX8_odds_94 ?_
            refine lv_iconst (v := iZ 0) hx hb dX8_odds_97 (by decide) ?_
            refine mq_iald hx hb hK hP 9 9 (n := 2) rfl (by decide) 0 rfl (by omega) dX8_odds_98 ?_
            refine lv_istore (lv' := [(8, .int (iZ (M 9 0))), (7, .int (iZ up)), (6, .int (iZ up)), (0, .ref h), (1, .int (iZ pe)), (2, .int (iZ ot)), (3, .int (iZ sy)), (4, .int (iZ sh)), (5, .int (iZ wh))]) hx hb dX8_odds_99 hl (by decide) rfl (fun ls hl => ?_)
            replace hl : lv_has ls 10 [(8, .int (iZ (M 9 0))), (7, .int (iZ up)), (6, .int (iZ up)), (0, .ref h), (5, .int (iZ wh))] := lv_sub hl [0, 1, 2, 3, 8] rfl
            revert ls
            refine z_loop (σ := Int × Int) (fun x9 => ((0 ≤ x9.1 ∧ x9.1 ≤ 6) ∧ (0 ≤ x9.2 ∧ x9.2 ≤ 6)) ∧ (Nat.gcd (Int.toNat x9.1) (Int.toNat x9.2) = Nat.gcd (Int.toNat up) (Int.toNat (M 9 0)))) (fun x9 => [(8, .int (iZ (x9.2))), (7, .int (iZ (x9.1))), (6, .int (iZ up)), (0, .ref h), (5, .int (iZ wh))]) 10 (fun x9 => (Int.toNat x9.2)) (up, (M 9 0)) ⟨(by show (0 ≤ up ∧ up ≤ 6) ∧ (0 ≤ (M 9 0) ∧ (M 9 0) ≤ 6); omega), (by show Nat.gcd (Int.toNat up) (Int.toNat (M 9 0)) = Nat.gcd (Int.toNat up) (Int.toNat (M 9 0)); rfl)⟩ ?_
            rintro ⟨aa, bb⟩ hI9 ih101 ls hl
            obtain ⟨i3, i4⟩ := hI9
            replace i3 : (0 ≤ aa ∧ aa ≤ 6) ∧ (0 ≤ bb ∧ bb ≤ 6) := i3
            replace i4 : Nat.gcd (Int.toNat aa) (Int.toNat bb) = Nat.gcd (Int.toNat up) (Int.toNat (M 9 0)) := i4
            replace hl : lv_has ls 10 [(8, .int (iZ bb)), (7, .int (iZ aa)), (6, .int (iZ up)), (0, .ref h), (5, .int (iZ wh))] := hl
            refine lv_iload hx hb dX8_odds_101 (lv_at hl 0 rfl) ?_
            refine z_if_eq (x := bb) (tgt := 124) hx hb (by omega) dX8_odds_103 (by decide) (fun c9 => ?_) (fun c9 => ?_)
            · have hg := zg_end i4 (by omega) (by omega)
              have hgp : 0 < aa := by rw [hg]; exact_mod_cast Nat.gcd_pos_of_pos_right _ (by omega)
              refine lv_iload hx hb dX8_odds_124 (lv_at hl 4 rfl) ?_
              have K12 : ∀ (v11 : Int), (v11 = (if wh = 0 then (up / aa) else ((M 9 0) / aa))) → ∀ ls : Array Slot, lv_has ls 10 [] → W p l e ((headSpec wsX8_odds ({ frames := 3, cells := 0, slots := 0, locals := 77 })).room) s m (([.ref h, .int (iZ pe), .int (iZ ot), .int (iZ sy), .int (iZ sh), .int (iZ wh)] : List Value).toArray) below meth c s.heap [] 0 0 (MQ below (vp_Si (fun r => r = iZ (s_odds M pe ot sy sh wh))) (([.ref h, .int (iZ pe), .int (iZ ot), .int (iZ sy), .int (iZ sh), .int (iZ wh)] : List Value).toArray) s 0 0 (fun _ => False)) (F0 m 146 ls [.int (iZ v11)]) := by
                intro v11 hv11 ls hl
                exact mq_ret hx hb hr rfl (by unfold s_odds; first | (rw [if_pos (by omega)]; done) | (have q : kk = M 9 0 := (by omega); have q2 : s_up M pe ot sy sh = up := (by rw [i2, q]; rfl); have q3 : s_ogc M pe ot sy sh = aa := (by unfold s_ogc; rw [q2]; exact hg.symm); rw [if_neg (by omega), q2, q3]; first | assumption | omega) | omega) dX8_odds_146 hlocks rfl
              refine z_if_ne (x := wh) (tgt := 137) hx hb (by omega) dX8_odds_126 (by decide) (fun c10 => ?_) (fun c10 => ?_)
              · refine lv_aload_n hx hb dX8_odds_137 rfl (lv_at hl 3 rfl) ?_
                refine mq_get hx hb hts hin hown hK hP 9 (by decide) (hts (.fieldLink RX8 35 "WordFletchersModel" "winds" "[I") (List.mem_cons_of_mem _ (List.mem_append_left _ (List.mem_append_left _ (List.mem_of_getElem? (i := 0) rfl))))) rfl dX8_odds_138 ?_
                refine lv_iconst (v := iZ 0) hx hb dX8_odds_141 (by decide) ?_
                refine mq_iald hx hb hK hP 9 9 (n := 2) rfl (by decide) 0 rfl (by omega) dX8_odds_142 ?_
                refine lv_iload hx hb dX8_odds_143 (lv_at hl 1 rfl) ?_
                refine z_idiv hx hb (by omega) (by omega) dX8_odds_145 ?_
                exact K12 ((M 9 0) / aa) (by first | rfl | (rw [if_neg c10]; done) | omega | (subst_vars; first | rfl | (rw [if_neg c10]; done) | omega)) ls (lv_sub hl [] rfl)
              · refine lv_iload hx hb dX8_odds_129 (lv_at hl 2 rfl) ?_
                refine W.eq (g2 := F0 m 131 ls [.int (iZ up)]) rfl ?_
                refine lv_iload hx hb dX8_odds_131 (lv_at hl 1 rfl) ?_
                refine z_idiv hx hb (by omega) (by omega) dX8_odds_133 ?_
                refine lv_goto (tgt := 146) hx hb dX8_odds_134 (by decide) ?_
                exact K12 (up / aa) (by first | rfl | (rw [if_pos c10]; done) | omega | (subst_vars; first | rfl | (rw [if_pos c10]; done) | omega)) ls (lv_sub hl [] rfl)
            · refine lv_iload hx hb dX8_odds_106 (lv_at hl 1 rfl) ?_
              refine lv_iload hx hb dX8_odds_108 (lv_at hl 0 rfl) ?_
              refine z_irem hx hb (by omega) (by omega) dX8_odds_110 ?_
              have hz := z_mod (x := aa) (y := bb) (by omega)
              refine lv_istore (lv' := [(9, .int (iZ (aa % bb))), (8, .int (iZ bb)), (7, .int (iZ aa)), (6, .int (iZ up)), (0, .ref h), (5, .int (iZ wh))]) hx hb dX8_odds_111 hl (by decide) rfl (fun ls hl => ?_)
              refine lv_iload hx hb dX8_odds_113 (lv_at hl 1 rfl) ?_
              refine lv_istore (lv' := [(7, .int (iZ bb)), (9, .int (iZ (aa % bb))), (8, .int (iZ bb)), (6, .int (iZ up)), (0, .ref h), (5, .int (iZ wh))]) hx hb dX8_odds_115 hl (by decide) rfl (fun ls hl => ?_)
              refine lv_iload hx hb dX8_odds_117 (lv_at hl 1 rfl) ?_
              refine lv_istore (lv' := [(8, .int (iZ (aa % bb))), (7, .int (iZ bb)), (9, .int (iZ (aa % bb))), (6, .int (iZ up)), (0, .ref h), (5, .int (iZ wh))]) hx hb dX8_odds_119 hl (by decide) rfl (fun ls hl => ?_)
              refine W.eq (g2 := F0 m 121 ls []) rfl ?_
              refine lv_goto (tgt := 101) hx hb dX8_odds_121 (by decide) ?_
              exact ih101 (bb, (aa % bb)) ⟨(by show (0 ≤ bb ∧ bb ≤ 6) ∧ (0 ≤ (aa % bb) ∧ (aa % bb) ≤ 6); omega), (by show Nat.gcd (Int.toNat bb) (Int.toNat (aa % bb)) = Nat.gcd (Int.toNat up) (Int.toNat (M 9 0)); rw [zg_step (by omega) (by omega)]; exact i4)⟩ (by show (Int.toNat (aa % bb)) < (Int.toNat bb); omega) ls (lv_sub hl [0, 1, 3, 4, 5] rfl)
          · refine lv_iload hx hb dX8_odds_54 (lv_at hl 1 rfl) ?_
            refine lv_aload_n hx hb dX8_odds_56 rfl (lv_at hl 2 rfl) ?_
            refine lv_iload_n hx hb dX8_odds_57 rfl (lv_at hl 3 rfl) ?_
            refine lv_iload_n hx hb dX8_odds_58 rfl (lv_at hl 4 rfl) ?_
            refine lv_iload_n hx hb dX8_odds_59 rfl (lv_at hl 5 rfl) ?_
            refine lv_iload hx hb dX8_odds_60 (lv_at hl 6 rfl) ?_
            refine lv_aload_n hx hb dX8_odds_62 rfl (lv_at hl 2 rfl) ?_
            refine mq_get hx hb hts hin hown hK hP 10 (by decide) (hts (.fieldLink RX8 38 "WordFletchersModel" "wind" "[I") (List.mem_cons_of_mem _ (List.mem_append_left _ (List.mem_append_left _ (List.mem_of_getElem? (i := 1) rfl))))) rfl dX8_odds_63 ?_
            refine lv_iload hx hb dX8_odds_66 (lv_at hl 0 rfl) ?_
            refine mq_iald hx hb hK hP 10 10 (n := 12) rfl (by decide) (Int.toNat kk) rfl (by omega) dX8_odds_68 ?_
            refine mq_ci (As := [.int (iZ pe), .int (iZ ot), .int (iZ sy), .int (iZ sh), .int (iZ (M 10 (Int.toNat kk)))]) (rest := [.int (iZ up)]) ⟨hx, hb, hml, hown, hts⟩ hK hP (C_isHeard l D C h a M pe ot sy sh (M 10 (Int.toNat kk)) hI (by omega) (by omega) (by omega) (by omega) (by omega) (by omega)) (cwV 5 hts gX8_odds_X8_isHeard rfl rfl rfl (by decide +kernel) ⟨Nat.le_of_ble_eq_true rfl, Nat.le_of_ble_eq_true rfl⟩) rfl rfl hl.1 (Nat.le_of_ble_eq_true rfl) ⟨Nat.le_of_ble_eq_true rfl, Nat.le_of_ble_eq_true rfl⟩ dX8_odds_69 ?_
            refine W.eq (g2 := F0 m 72 ls [.int (iZ (if (s_hrd M pe ot sy sh (M 10 (Int.toNat kk))) then 1 else 0)), .int (iZ up)]) rfl ?_
            have K15 : ∀ (v14 : Int), (v14 = (if (s_hrd M pe ot sy sh (M 10 (Int.toNat kk))) then 1 else 0)) → ∀ ls : Array Slot, lv_has ls 10 [(7, .int (iZ kk)), (0, .ref h), (1, .int (iZ pe)), (2, .int (iZ ot)), (3, .int (iZ sy)), (4, .int (iZ sh)), (5, .int (iZ wh))] → W p l e ((headSpec wsX8_odds ({ frames := 3, cells := 0, slots := 0, locals := 77 })).room) s m (([.ref h, .int (iZ pe), .int (iZ ot), .int (iZ sy), .int (iZ sh), .int (iZ wh)] : List Value).toArray) below meth c s.heap [] 0 0 (MQ below (vp_Si (fun r => r = iZ (s_odds M pe ot sy sh wh))) (([.ref h, .int (iZ pe), .int (iZ ot), .int (iZ sy), .int (iZ sh), .int (iZ wh)] : List Value).toArray) s 0 0 (fun _ => False)) (F0 m 80 ls [.int (iZ v14), .int (iZ up)]) := by
              intro v14 hv14 ls hl
              refine z_iadd hx hb dX8_odds_80 ?_
              refine lv_istore (lv' := [(6, .int (iZ (up + v14))), (7, .int (iZ kk)), (0, .ref h), (1, .int (iZ pe)), (2, .int (iZ ot)), (3, .int (iZ sy)), (4, .int (iZ sh)), (5, .int (iZ wh))]) hx hb dX8_odds_81 hl (by decide) rfl (fun ls hl => ?_)
              refine lv_iinc (v := iZ (kk + 1)) (lv' := [(7, .int (iZ (kk + 1))), (6, .int (iZ (up + v14))), (0, .ref h), (1, .int (iZ pe)), (2, .int (iZ ot)), (3, .int (iZ sy)), (4, .int (iZ sh)), (5, .int (iZ wh))]) hx hb dX8_odds_83 hl (k := 1) rfl (iZ_add _ _) (by decide) rfl (fun ls hl => ?_)
              refine lv_goto (tgt := 43) hx hb dX8_odds_86 (by decide) ?_
              exact ih43 ((up + v14), (kk + 1)) ⟨(by show (0 ≤ (kk + 1) ∧ (kk + 1) ≤ M 9 0) ∧ (0 ≤ (up + v14) ∧ (up + v14) ≤ (kk + 1)); omega), (by show (up + v14) = s_upN M pe ot sy sh (Int.toNat (kk + 1)); rw [s_upN_succ _ _ _ _ _ (by omega), ← i2]; omega)⟩ (by show (M 9 0 - (kk + 1)).toNat < (M 9 0 - kk).toNat; omega) ls (lv_sub hl [0, 1, 2, 3, 4, 5, 6, 7] rfl)
            refine z_ifb_eq (P := (s_hrd M pe ot sy sh (M 10 (Int.toNat kk)))) (tgt := 79) hx hb dX8_odds_72 (by decide) (fun c13 => ?_) (fun c13 => ?_)
            · refine lv_iconst (v := iZ 0) hx hb dX8_odds_79 (by decide) ?_
              exact K15 0 (by first | rfl | (rw [if_neg c13]; done) | omega | (subst_vars; first | rfl | (rw [if_neg c13]; done) | omega)) ls (lv_sub hl [0, 2, 3, 4, 5, 6, 7] rfl)
            · refine lv_iconst (v := iZ 1) hx hb dX8_odds_75 (by decide) ?_
              refine lv_goto (tgt := 80) hx hb dX8_odds_76 (by decide) ?_
              exact K15 1 (by first | rfl | (rw [if_pos c13]; done) | omega | (subst_vars; first | rfl | (rw [if_pos c13]; done) | omega)) ls (lv_sub hl [0, 2, 3, 4, 5, 6, 7] rfl)
        · refine lv_iconst (v := iZ (-1)) hx hb dX8_odds_35 (by decide) ?_
          exact mq_ret hx hb hr rfl (by unfold s_odds; first | (rw [if_pos (by omega)]; done) | (have q : kk = M 9 0 := (by omega); have q2 : s_up M pe ot sy sh = up := (by rw [i2, q]; rfl); have q3 : s_ogc M pe ot sy sh = aa := (by unfold s_ogc; rw [q2]; exact hg.symm); rw [if_neg (by omega), q2, q3]; first | assumption | omega) | omega) dX8_odds_36 hlocks rfl
set_option maxHeartbeats 4000000 in
set_option maxRecDepth 100000 in
theorem C_spotsOf (l : Launch) (D : va_G) (C : mC) (h : Nat) (a : Nat → Nat) (M : Nat → Nat → Int) (pe sy : Int) (hI : mI M) (h1 : 0 ≤ pe ∧ pe < M 2 0) (h2 : 0 ≤ sy ∧ sy < M 5 0) : Met l yX8_spotsOf wsX8_spotsOf ({ frames := 2, cells := 0, slots := 0, locals := 52 }) (va_Pc [.ref h, .int (iZ pe), .int (iZ sy)] (mOk D C h a M)) (vp_Si (fun r => r = iZ (s_spots M pe sy))) 0 0 (fun _ => False) := by
  refine Met.ofW (cc := cX8_spotsOf) (maxL := 6) (ret := (some .int)) (by decide) rfl ?_
  intro p e s m args below meth c s₁ B hml hv
  obtain ⟨rfl, hP, hK⟩ := hv
  have hx := B.exec
  have hb := B.bytes
  have hr := B.returns
  have hts := atoms_spec (ws := wsX8_spotsOf) B.pre
  have hown : s.vm.findClass RX8 = some m.cls := findClass_of_methodNamed B.named
  have hlocks := B.notSynchronized
  have hin : ∀ w ∈ wsX80, w ∈ wsX8_spotsOf := fun _ w_h => (List.mem_cons_of_mem _ (List.mem_append_right _ w_h))
  have hl := lv_entry ([.ref h, .int (iZ pe), .int (iZ sy)]) (n := 6) (Nat.le_of_ble_eq_true rfl)
  rw [lg_entry_eq]
  generalize (lg_sl ([.ref h, .int (iZ pe), .int (iZ sy)]) ++ List.replicate (6 - (lg_sl ([.ref h, .int (iZ pe), .int (iZ sy)])).length) Slot.unset).toArray = ls at hl ⊢
  replace hl : lv_has ls 6 [(0, .ref h), (1, .int (iZ pe)), (2, .int (iZ sy))] := hl
  have hnw := mI_now hI
  refine lv_iconst (v := iZ 0) hx hb dX8_spotsOf_0 (by decide) ?_
  refine lv_istore_n (lv' := [(3, .int (iZ 0)), (0, .ref h), (1, .int (iZ pe)), (2, .int (iZ sy))]) hx hb dX8_spotsOf_1 rfl hl (by decide) rfl (fun ls hl => ?_)
  refine W.eq (g2 := F0 m 2 ls []) rfl ?_
  refine lv_iconst (v := iZ 0) hx hb dX8_spotsOf_2 (by decide) ?_
  refine lv_istore (lv' := [(4, .int (iZ 0)), (3, .int (iZ 0)), (0, .ref h), (1, .int (iZ pe)), (2, .int (iZ sy))]) hx hb dX8_spotsOf_3 hl (by decide) rfl (fun ls hl => ?_)
  replace hl : lv_has ls 6 [(4, .int (iZ (0 : Int))), (3, .int (iZ (0 : Int))), (0, .ref h), (1, .int (iZ pe)), (2, .int (iZ sy))] := lv_sub hl [0, 1, 2, 3, 4] rfl
  revert ls
  refine z_loop (σ := Int × Int) (fun x9 => (0 ≤ x9.2 ∧ x9.2 ≤ 32) ∧ (x9.1 = s_spN M pe sy (Int.toNat x9.2))) (fun x9 => [(4, .int (iZ (x9.2))), (3, .int (iZ (x9.1))), (0, .ref h), (1, .int (iZ pe)), (2, .int (iZ sy))]) 6 (fun x9 => (32 - x9.2).toNat) ((0 : Int), (0 : Int)) ⟨(by show 0 ≤ (0 : Int) ∧ (0 : Int) ≤ 32; omega), (by show (0 : Int) = s_spN M pe sy (Int.toNat (0 : Int)); rfl)⟩ ?_
  rintro ⟨st, kk⟩ hI9 ih5 ls hl
  obtain ⟨i1, i2⟩ := hI9
  replace i1 : 0 ≤ kk ∧ kk ≤ 32 := i1
  replace i2 : st = s_spN M pe sy (Int.toNat kk) := i2
  replace hl : lv_has ls 6 [(4, .int (iZ kk)), (3, .int (iZ st)), (0, .ref h), (1, .int (iZ pe)), (2, .int (iZ sy))] := hl
  have hbd := s_spN_bd M pe sy (Int.toNat kk)
  refine lv_iload hx hb dX8_spotsOf_5 (lv_at hl 0 rfl) ?_
  refine lv_bipush (v := iZ 32) hx hb dX8_spotsOf_7 (by decide) ?_
  refine z_icmp_ge (x := kk) (y := 32) (tgt := 64) hx hb (by omega) (by omega) dX8_spotsOf_9 (by decide) (fun c1 => ?_) (fun c1 => ?_)
  · refine lv_iload_n hx hb dX8_spotsOf_64 rfl (lv_at hl 1 rfl) ?_
    exact mq_ret hx hb hr rfl (by have q : kk = 32 := (by omega); subst q; rw [i2]; rfl) dX8_spotsOf_65 hlocks rfl
  · refine lv_aload_n hx hb dX8_spotsOf_12 rfl (lv_at hl 2 rfl) ?_
    refine lv_iload_n hx hb dX8_spotsOf_13 rfl (lv_at hl 3 rfl) ?_
    refine lv_iload_n hx hb dX8_spotsOf_14 rfl (lv_at hl 4 rfl) ?_
    refine lv_iload hx hb dX8_spotsOf_15 (lv_at hl 0 rfl) ?_
    refine lv_bipush (v := iZ 8) hx hb dX8_spotsOf_17 (by decide) ?_
    refine z_idiv hx hb (by omega) (by omega) dX8_spotsOf_19 ?_
    refine lv_iload hx hb dX8_spotsOf_20 (lv_at hl 0 rfl) ?_
    refine lv_iconst (v := iZ 2) hx hb dX8_spotsOf_22 (by decide) ?_
    refine z_idiv hx hb (by omega) (by omega) dX8_spotsOf_23 ?_
    refine W.eq (g2 := F0 m 24 ls [.int (iZ (kk / 2)), .int (iZ (kk / 8)), .int (iZ sy), .int (iZ pe), .ref h]) rfl ?_
    refine lv_iconst (v := iZ 4) hx hb dX8_spotsOf_24 (by decide) ?_
    refine z_irem hx hb (by omega) (by omega) dX8_spotsOf_25 ?_
    refine lv_iload hx hb dX8_spotsOf_26 (lv_at hl 0 rfl) ?_
    refine lv_iconst (v := iZ 2) hx hb dX8_spotsOf_28 (by decide) ?_
    refine z_irem hx hb (by omega) (by omega) dX8_spotsOf_29 ?_
    refine lv_aload_n hx hb dX8_spotsOf_30 rfl (lv_at hl 2 rfl) ?_
    refine lv_iconst (v := iZ 0) hx hb dX8_spotsOf_31 (by decide) ?_
    refine mq_ci (As := [.int (iZ 0)]) (rest := [.int (iZ (kk % 2)), .int (iZ ((kk / 2) % 4)), .int (iZ (kk / 8)), .int (iZ sy), .int (iZ pe), .ref h]) ⟨hx, hb, hml, hown, hts⟩ hK hP (C_windIn l D C h a M 0 hI (by omega)) (cwV 1 hts gX8_spotsOf_X8_windIn rfl rfl rfl (by decide +kernel) ⟨Nat.le_of_ble_eq_true rfl, Nat.le_of_ble_eq_true rfl⟩) rfl rfl hl.1 (Nat.le_of_ble_eq_true rfl) ⟨Nat.le_of_ble_eq_true rfl, Nat.le_of_ble_eq_true rfl⟩ dX8_spotsOf_32 ?_
    have hwi := mI_wd hI 0
    refine mq_ci (As := [.int (iZ pe), .int (iZ sy), .int (iZ (kk / 8)), .int (iZ ((kk / 2) % 4)), .int (iZ (kk % 2)), .int (iZ (s_wind M 0))]) (rest := []) ⟨hx, hb, hml, hown, hts⟩ hK hP (C_landsBy l D C h a M pe sy (kk / 8) ((kk / 2) % 4) (kk % 2) (s_wind M 0) hI (by omega) (by omega) (by omega) (by omega) (by omega) (by omega)) (cwV 6 hts gX8_spotsOf_X8_landsBy rfl rfl rfl (by decide +kernel) ⟨Nat.le_of_ble_eq_true rfl, Nat.le_of_ble_eq_true rfl⟩) rfl rfl hl.1 (Nat.le_of_ble_eq_true rfl) ⟨Nat.le_of_ble_eq_true rfl, Nat.le_of_ble_eq_true rfl⟩ dX8_spotsOf_35 ?_
    have hld := s_land_bd (M 3 (Int.toNat pe)) (M 7 (Int.toNat sy)) (M 6 (Int.toNat sy)) (M 19 1) (kk / 8) ((kk / 2) % 4) (kk % 2) (s_wind M 0)
    refine z_nm (fun spv hspv => ?_)
    have hl2 : spv = -9 ∨ 0 ≤ spv := by rw [hspv]; exact s_land_or _ _ _ _ _ _ _ _
    have hzp := zp_nn spv
    refine lv_istore (lv' := [(5, .int (iZ spv)), (4, .int (iZ kk)), (3, .int (iZ st)), (0, .ref h), (1, .int (iZ pe)), (2, .int (iZ sy))]) hx hb dX8_spotsOf_38 hl (by decide) rfl (fun ls hl => ?_)
    refine lv_iload_n hx hb dX8_spotsOf_40 rfl (lv_at hl 2 rfl) ?_
    refine lv_iload hx hb dX8_spotsOf_41 (lv_at hl 0 rfl) ?_
    refine W.eq (g2 := F0 m 43 ls [.int (iZ spv), .int (iZ st)]) rfl ?_
    refine lv_bipush (v := iZ (-9)) hx hb dX8_spotsOf_43 (by decide) ?_
    have K7 : ∀ (v6 : Int), (v6 = (if spv = (-9) then 0 else (zp spv))) → ∀ ls : Array Slot, lv_has ls 6 [(4, .int (iZ kk)), (0, .ref h), (1, .int (iZ pe)), (2, .int (iZ sy))] → W p l e ((headSpec wsX8_spotsOf ({ frames := 2, cells := 0, slots := 0, locals := 52 })).room) s m (([.ref h, .int (iZ pe), .int (iZ sy)] : List Value).toArray) below meth c s.heap [] 0 0 (MQ below (vp_Si (fun r => r = iZ (s_spots M pe sy))) (([.ref h, .int (iZ pe), .int (iZ sy)] : List Value).toArray) s 0 0 (fun _ => False)) (F0 m 56 ls [.int (iZ v6), .int (iZ st)]) := by
      intro v6 hv6 ls hl
      refine z_ior hx hb (by omega) (by omega) dX8_spotsOf_56 ?_
      refine lv_istore_n (lv' := [(3, .int (iZ (zor st v6))), (4, .int (iZ kk)), (0, .ref h), (1, .int (iZ pe)), (2, .int (iZ sy))]) hx hb dX8_spotsOf_57 rfl hl (by decide) rfl (fun ls hl => ?_)
      refine lv_iinc (v := iZ (kk + 1)) (lv' := [(4, .int (iZ (kk + 1))), (3, .int (iZ (zor st v6))), (0, .ref h), (1, .int (iZ pe)), (2, .int (iZ sy))]) hx hb dX8_spotsOf_58 hl (k := 1) rfl (iZ_add _ _) (by decide) rfl (fun ls hl => ?_)
      refine lv_goto (tgt := 5) hx hb dX8_spotsOf_61 (by decide) ?_
      exact ih5 ((zor st v6), (kk + 1)) ⟨(by show 0 ≤ (kk + 1) ∧ (kk + 1) ≤ 32; omega), (by show (zor st v6) = s_spN M pe sy (Int.toNat (kk + 1)); rw [s_spN_succ _ _ _ (by omega), ← i2]; have q9 : s_ln M pe sy (kk / 8) (kk / 2 % 4) (kk % 2) = spv := hspv.symm; rw [q9]; congr 1 <;> omega)⟩ (by show (32 - (kk + 1)).toNat < (32 - kk).toNat; omega) ls (lv_sub hl [0, 1, 2, 3, 4] rfl)
    refine z_icmp_ne (x := spv) (y := (-9)) (tgt := 52) hx hb (by omega) (by omega) dX8_spotsOf_45 (by decide) (fun c5 => ?_) (fun c5 => ?_)
    · refine lv_iconst (v := iZ 1) hx hb dX8_spotsOf_52 (by decide) ?_
      refine lv_iload hx hb dX8_spotsOf_53 (lv_at hl 0 rfl) ?_
      refine z_ishl1 hx hb (by omega) dX8_spotsOf_55 ?_
      exact K7 (zp spv) (by first | rfl | (rw [if_neg c5]; done) | omega | (subst_vars; first | rfl | (rw [if_neg c5]; done) | omega)) ls (lv_sub hl [1, 3, 4, 5] rfl)
    · refine lv_iconst (v := iZ 0) hx hb dX8_spotsOf_48 (by decide) ?_
      refine lv_goto (tgt := 56) hx hb dX8_spotsOf_49 (by decide) ?_
      exact K7 0 (by first | rfl | (rw [if_pos c5]; done) | omega | (subst_vars; first | rfl | (rw [if_pos c5]; done) | omega)) ls (lv_sub hl [1, 3, 4, 5] rfl)
set_option maxHeartbeats 4000000 in
set_option maxRecDepth 100000 in
theorem C_who (l : Launch) (D : va_G) (C : mC) (h : Nat) (a : Nat → Nat) (M : Nat → Nat → Int) (hI : mI M) : Met l yX8_who wsX8_who ({ frames := 3, cells := 0, slots := 0, locals := 77 }) (va_Pc [.ref h] (mOk D C h a M)) (vp_Si (fun r => r = iZ (s_who M))) 0 0 (fun _ => False) := by
  refine Met.ofW (cc := cX8_who) (maxL := 5) (ret := (some .int)) (by decide) rfl ?_
  intro p e s m args below meth c s₁ B hml hv
  obtain ⟨rfl, hP, hK⟩ := hv
  have hx := B.exec
  have hb := B.bytes
  have hr := B.returns
  have hts := atoms_spec (ws := wsX8_who) B.pre
  have hown : s.vm.findClass RX8 = some m.cls := findClass_of_methodNamed B.named
  have hlocks := B.notSynchronized
  have hin : ∀ w ∈ wsX80, w ∈ wsX8_who := fun _ w_h => (List.mem_cons_of_mem _ (List.mem_append_right _ w_h))
  have hl := lv_entry ([.ref h]) (n := 5) (Nat.le_of_ble_eq_true rfl)
  rw [lg_entry_eq]
  generalize (lg_sl ([.ref h]) ++ List.replicate (5 - (lg_sl ([.ref h])).length) Slot.unset).toArray = ls at hl ⊢
  replace hl : lv_has ls 5 [(0, .ref h)] := hl
  have hnw := mI_now hI
  refine lv_iconst (v := iZ 0) hx hb dX8_who_0 (by decide) ?_
  refine W.eq (g2 := F0 m 1 ls [.int (iZ 0)]) rfl ?_
  refine lv_istore_n (lv' := [(1, .int (iZ 0)), (0, .ref h)]) hx hb dX8_who_1 rfl hl (by decide) rfl (fun ls hl => ?_)
  refine lv_iconst (v := iZ 0) hx hb dX8_who_2 (by decide) ?_
  refine lv_istore_n (lv' := [(2, .int (iZ 0)), (1, .int (iZ 0)), (0, .ref h)]) hx hb dX8_who_3 rfl hl (by decide) rfl (fun ls hl => ?_)
  replace hl : lv_has ls 5 [(2, .int (iZ (0 : Int))), (1, .int (iZ (0 : Int))), (0, .ref h)] := lv_sub hl [0, 1, 2] rfl
  revert ls
  refine z_loop (σ := Int × Int) (fun x9 => (0 ≤ x9.2 ∧ x9.2 ≤ M 2 0) ∧ (x9.1 = s_whoN M (Int.toNat x9.2))) (fun x9 => [(2, .int (iZ (x9.2))), (1, .int (iZ (x9.1))), (0, .ref h)]) 5 (fun x9 => (M 2 0 - x9.2).toNat) ((0 : Int), (0 : Int)) ⟨(by show 0 ≤ (0 : Int) ∧ (0 : Int) ≤ M 2 0; omega), (by show (0 : Int) = s_whoN M (Int.toNat (0 : Int)); rfl)⟩ ?_
  rintro ⟨st, pp⟩ hI9 ih4 ls hl
  obtain ⟨i1, i2⟩ := hI9
  replace i1 : 0 ≤ pp ∧ pp ≤ M 2 0 := i1
  replace i2 : st = s_whoN M (Int.toNat pp) := i2
  replace hl : lv_has ls 5 [(2, .int (iZ pp)), (1, .int (iZ st)), (0, .ref h)] := hl
  have hzp := zp_nn pp
  have hbd := s_whoN_bd M (Int.toNat pp) 6 (by omega)
  refine lv_iload_n hx hb dX8_who_4 rfl (lv_at hl 0 rfl) ?_
  refine lv_aload_n hx hb dX8_who_5 rfl (lv_at hl 2 rfl) ?_
  refine mq_get hx hb hts hin hown hK hP 2 (by decide) (hts (.fieldLink RX8 13 "WordFletchersModel" "people" "[I") (List.mem_cons_of_mem _ (List.mem_append_left _ (List.mem_append_left _ (List.mem_of_getElem? (i := 0) rfl))))) rfl dX8_who_6 ?_
  refine lv_iconst (v := iZ 0) hx hb dX8_who_9 (by decide) ?_
  refine mq_iald hx hb hK hP 2 2 (n := 2) rfl (by decide) 0 rfl (by omega) dX8_who_10 ?_
  refine z_icmp_ge (x := pp) (y := (M 2 0)) (tgt := 89) hx hb (by omega) (by omega) dX8_who_11 (by decide) (fun c1 => ?_) (fun c1 => ?_)
  · refine lv_iload_n hx hb dX8_who_89 rfl (lv_at hl 1 rfl) ?_
    exact mq_ret hx hb hr rfl (by have q : pp = M 2 0 := (by omega); rw [i2, q]; rfl) dX8_who_90 hlocks rfl
  · refine lv_iconst (v := iZ 1) hx hb dX8_who_14 (by decide) ?_
    refine lv_istore_n (lv' := [(3, .int (iZ 1)), (2, .int (iZ pp)), (1, .int (iZ st)), (0, .ref h)]) hx hb dX8_who_15 rfl hl (by decide) rfl (fun ls hl => ?_)
    refine lv_iconst (v := iZ 0) hx hb dX8_who_16 (by decide) ?_
    refine lv_istore (lv' := [(4, .int (iZ 0)), (3, .int (iZ 1)), (2, .int (iZ pp)), (1, .int (iZ st)), (0, .ref h)]) hx hb dX8_who_17 hl (by decide) rfl (fun ls hl => ?_)
    replace hl : lv_has ls 5 [(4, .int (iZ (0 : Int))), (3, .int (iZ (1 : Int))), (2, .int (iZ pp)), (1, .int (iZ st)), (0, .ref h)] := lv_sub hl [0, 1, 2, 3, 4] rfl
    revert ls
    refine z_loop (σ := Int × Int) (fun x9 => (0 ≤ x9.2 ∧ x9.2 ≤ M 28 0) ∧ (x9.1 = s_isN M pp (Int.toNat x9.2)) ∧ (x9.1 = 0 ∨ x9.1 = 1)) (fun x9 => [(4, .int (iZ (x9.2))), (3, .int (iZ (x9.1))), (2, .int (iZ pp)), (1, .int (iZ st)), (0, .ref h)]) 5 (fun x9 => (M 28 0 - x9.2).toNat) ((1 : Int), (0 : Int)) ⟨(by show 0 ≤ (0 : Int) ∧ (0 : Int) ≤ M 28 0; omega), (by show (1 : Int) = s_isN M pp (Int.toNat (0 : Int)); rfl), (by show (1 : Int) = 0 ∨ (1 : Int) = 1; omega)⟩ ?_
    rintro ⟨iz, kk⟩ hI9 ih19 ls hl
    obtain ⟨i4, i5, i6⟩ := hI9
    replace i4 : 0 ≤ kk ∧ kk ≤ M 28 0 := i4
    replace i5 : iz = s_isN M pp (Int.toNat kk) := i5
    replace i6 : iz = 0 ∨ iz = 1 := i6
    replace hl : lv_has ls 5 [(4, .int (iZ kk)), (3, .int (iZ iz)), (2, .int (iZ pp)), (1, .int (iZ st)), (0, .ref h)] := hl
    have hsi : kk < M 28 0 → (0 ≤ M 26 (Int.toNat kk) ∧ M 26 (Int.toNat kk) < M 5 0) ∧ (0 ≤ M 27 (Int.toNat kk) ∧ M 27 (Int.toNat kk) ≤ 30) := fun q => mI_si hI ⟨by omega, q⟩
    refine lv_iload hx hb dX8_who_19 (lv_at hl 0 rfl) ?_
    refine lv_aload_n hx hb dX8_who_21 rfl (lv_at hl 4 rfl) ?_
    refine mq_get hx hb hts hin hown hK hP 28 (by decide) (hts (.fieldLink RX8 131 "WordFletchersModel" "sights" "I") (List.mem_cons_of_mem _ (List.mem_append_left _ (List.mem_append_left _ (List.mem_of_getElem? (i := 1) rfl))))) rfl dX8_who_22 ?_
    refine z_icmp_ge (x := kk) (y := (M 28 0)) (tgt := 69) hx hb (by omega) (by omega) dX8_who_25 (by decide) (fun c14 => ?_) (fun c14 => ?_)
    · refine lv_iload_n hx hb dX8_who_69 rfl (lv_at hl 3 rfl) ?_
      refine lv_iload_n hx hb dX8_who_70 rfl (lv_at hl 1 rfl) ?_
      have K21 : ∀ (v20 : Int), (v20 = (if iz = 0 then 0 else (zp pp))) → ∀ ls : Array Slot, lv_has ls 5 [(2, .int (iZ pp)), (0, .ref h)] → W p l e ((headSpec wsX8_who ({ frames := 3, cells := 0, slots := 0, locals := 77 })).room) s m (([.ref h] : List Value).toArray) below meth c s.heap [] 0 0 (MQ below (vp_Si (fun r => r = iZ (s_who M))) (([.ref h] : List Value).toArray) s 0 0 (fun _ => False)) (F0 m 81 ls [.int (iZ v20), .int (iZ st)]) := by
        intro v20 hv20 ls hl
        refine z_ior hx hb (by omega) (by omega) dX8_who_81 ?_
        refine lv_istore_n (lv' := [(1, .int (iZ (zor st v20))), (2, .int (iZ pp)), (0, .ref h)]) hx hb dX8_who_82 rfl hl (by decide) rfl (fun ls hl => ?_)
        refine lv_iinc (v := iZ (pp + 1)) (lv' := [(2, .int (iZ (pp + 1))), (1, .int (iZ (zor st v20))), (0, .ref h)]) hx hb dX8_who_83 hl (k := 1) rfl (iZ_add _ _) (by decide) rfl (fun ls hl => ?_)
        refine lv_goto (tgt := 4) hx hb dX8_who_86 (by decide) ?_
        exact ih4 ((zor st v20), (pp + 1)) ⟨(by show 0 ≤ (pp + 1) ∧ (pp + 1) ≤ M 2 0; omega), (by show (zor st v20) = s_whoN M (Int.toNat (pp + 1)); rw [s_whoN_succ _ (by omega), ← i2]; congr 1; have q : kk = M 28 0 := (by omega); have q2 : s_isN M pp (Int.toNat (M 28 0)) = iz := (by rw [i5, q]); rw [q2]; omega)⟩ (by show (M 2 0 - (pp + 1)).toNat < (M 2 0 - pp).toNat; omega) ls (lv_sub hl [0, 1, 2] rfl)
      refine z_if_eq (x := iz) (tgt := 80) hx hb (by omega) dX8_who_71 (by decide) (fun c19 => ?_) (fun c19 => ?_)
      · refine W.eq (g2 := F0 m 80 ls [.int (iZ st)]) rfl ?_
        refine lv_iconst (v := iZ 0) hx hb dX8_who_80 (by decide) ?_
        exact K21 0 (by first | rfl | (rw [if_pos c19]; done) | omega | (subst_vars; first | rfl | (rw [if_pos c19]; done) | omega)) ls (lv_sub hl [2, 4] rfl)
      · refine lv_iconst (v := iZ 1) hx hb dX8_who_74 (by decide) ?_
        refine lv_iload_n hx hb dX8_who_75 rfl (lv_at hl 2 rfl) ?_
        refine z_ishl1 hx hb (by omega) dX8_who_76 ?_
        refine lv_goto (tgt := 81) hx hb dX8_who_77 (by decide) ?_
        exact K21 (zp pp) (by first | rfl | (rw [if_neg c19]; done) | omega | (subst_vars; first | rfl | (rw [if_neg c19]; done) | omega)) ls (lv_sub hl [2, 4] rfl)
    · refine lv_iload_n hx hb dX8_who_28 rfl (lv_at hl 1 rfl) ?_
      have K25 : ∀ (v24 : Int), (v24 = (if iz = 0 then 0 else (if ((s_spots M pp (M 26 (Int.toNat kk))) / zp (M 27 (Int.toNat kk)) % 2 = 1) then 1 else 0))) → ∀ ls : Array Slot, lv_has ls 5 [(4, .int (iZ kk)), (2, .int (iZ pp)), (1, .int (iZ st)), (0, .ref h)] → W p l e ((headSpec wsX8_who ({ frames := 3, cells := 0, slots := 0, locals := 77 })).room) s m (([.ref h] : List Value).toArray) below meth c s.heap [] 0 0 (MQ below (vp_Si (fun r => r = iZ (s_who M))) (([.ref h] : List Value).toArray) s 0 0 (fun _ => False)) (F0 m 62 ls [.int (iZ v24)]) := by
        intro v24 hv24 ls hl
        refine lv_istore_n (lv' := [(3, .int (iZ v24)), (4, .int (iZ kk)), (2, .int (iZ pp)), (1, .int (iZ st)), (0, .ref h)]) hx hb dX8_who_62 rfl hl (by decide) rfl (fun ls hl => ?_)
        refine lv_iinc (v := iZ (kk + 1)) (lv' := [(4, .int (iZ (kk + 1))), (3, .int (iZ v24)), (2, .int (iZ pp)), (1, .int (iZ st)), (0, .ref h)]) hx hb dX8_who_63 hl (k := 1) rfl (iZ_add _ _) (by decide) rfl (fun ls hl => ?_)
        refine lv_goto (tgt := 19) hx hb dX8_who_66 (by decide) ?_
        exact ih19 (v24, (kk + 1)) ⟨(by show 0 ≤ (kk + 1) ∧ (kk + 1) ≤ M 28 0; omega), (by show v24 = s_isN M pp (Int.toNat (kk + 1)); rw [s_isN_succ _ _ (by omega), ← i5]; omega), (by show v24 = 0 ∨ v24 = 1; omega)⟩ (by show (M 28 0 - (kk + 1)).toNat < (M 28 0 - kk).toNat; omega) ls (lv_sub hl [0, 1, 2, 3, 4] rfl)
      refine z_if_eq (x := iz) (tgt := 61) hx hb (by omega) dX8_who_29 (by decide) (fun c22 => ?_) (fun c22 => ?_)
      · refine lv_iconst (v := iZ 0) hx hb dX8_who_61 (by decide) ?_
        exact K25 0 (by first | rfl | (rw [if_pos c22]; done) | omega | (subst_vars; first | rfl | (rw [if_pos c22]; done) | omega)) ls (lv_sub hl [0, 2, 3, 4] rfl)
      · refine W.eq (g2 := F0 m 32 ls []) rfl ?_
        refine lv_aload_n hx hb dX8_who_32 rfl (lv_at hl 4 rfl) ?_
        refine lv_iload_n hx hb dX8_who_33 rfl (lv_at hl 2 rfl) ?_
        refine lv_aload_n hx hb dX8_who_34 rfl (lv_at hl 4 rfl) ?_
        refine mq_get hx hb hts hin hown hK hP 26 (by decide) (hts (.fieldLink RX8 66 "WordFletchersModel" "sightOf" "[I") (List.mem_cons_of_mem _ (List.mem_append_left _ (List.mem_append_left _ (List.mem_of_getElem? (i := 2) rfl))))) rfl dX8_who_35 ?_
        refine lv_iload hx hb dX8_who_38 (lv_at hl 0 rfl) ?_
        refine mq_iald hx hb hK hP 26 19 (n := 4) rfl (by decide) (Int.toNat kk) rfl (by omega) dX8_who_40 ?_
        refine mq_ci (As := [.int (iZ pp), .int (iZ (M 26 (Int.toNat kk)))]) (rest := []) ⟨hx, hb, hml, hown, hts⟩ hK hP (C_spotsOf l D C h a M pp (M 26 (Int.toNat kk)) hI (by omega) (by omega)) (cwV 2 hts gX8_who_X8_spotsOf rfl rfl rfl (by decide +kernel) ⟨Nat.le_of_ble_eq_true rfl, Nat.le_of_ble_eq_true rfl⟩) rfl rfl hl.1 (Nat.le_of_ble_eq_true rfl) ⟨Nat.le_of_ble_eq_true rfl, Nat.le_of_ble_eq_true rfl⟩ dX8_who_41 ?_
        have hsb := s_spots_bd M pp (M 26 (Int.toNat kk))
        refine lv_aload_n hx hb dX8_who_44 rfl (lv_at hl 4 rfl) ?_
        refine mq_get hx hb hts hin hown hK hP 27 (by decide) (hts (.fieldLink RX8 69 "WordFletchersModel" "sightAt" "[I") (List.mem_cons_of_mem _ (List.mem_append_left _ (List.mem_append_left _ (List.mem_of_getElem? (i := 3) rfl))))) rfl dX8_who_45 ?_
        refine lv_iload hx hb dX8_who_48 (lv_at hl 0 rfl) ?_
        refine mq_iald hx hb hK hP 27 20 (n := 4) rfl (by decide) (Int.toNat kk) rfl (by omega) dX8_who_50 ?_
        refine mq_cs (As := [.int (iZ (s_spots M pp (M 26 (Int.toNat kk)))), .int (iZ (M 27 (Int.toNat kk)))]) (rest := []) ⟨hx, hb, hml, hown, hts⟩ (C_has l (s_spots M pp (M 26 (Int.toNat kk))) (M 27 (Int.toNat kk)) (by omega) (by omega)) (va_cwS 2 hts gX8_who_X8_has rfl rfl rfl (by decide +kernel) ⟨Nat.le_of_ble_eq_true rfl, Nat.le_of_ble_eq_true rfl⟩) rfl rfl hl.1 (Nat.le_of_ble_eq_true rfl) ⟨Nat.le_of_ble_eq_true rfl, Nat.le_of_ble_eq_true rfl⟩ dX8_who_51 ?_
        refine W.eq (g2 := F0 m 54 ls [.int (iZ (if ((s_spots M pp (M 26 (Int.toNat kk))) / zp (M 27 (Int.toNat kk)) % 2 = 1) then 1 else 0))]) rfl ?_
        refine z_ifb_eq (P := ((s_spots M pp (M 26 (Int.toNat kk))) / zp (M 27 (Int.toNat kk)) % 2 = 1)) (tgt := 61) hx hb dX8_who_54 (by decide) (fun c23 => ?_) (fun c23 => ?_)
        · refine lv_iconst (v := iZ 0) hx hb dX8_who_61 (by decide) ?_
          exact K25 0 (by first | rfl | (rw [if_neg c22, if_neg c23]; done) | omega | (subst_vars; first | rfl | (rw [if_neg c22, if_neg c23]; done) | omega)) ls (lv_sub hl [0, 2, 3, 4] rfl)
        · refine lv_iconst (v := iZ 1) hx hb dX8_who_57 (by decide) ?_
          refine lv_goto (tgt := 62) hx hb dX8_who_58 (by decide) ?_
          exact K25 1 (by first | rfl | (rw [if_neg c22, if_pos c23]; done) | omega | (subst_vars; first | rfl | (rw [if_neg c22, if_pos c23]; done) | omega)) ls (lv_sub hl [0, 2, 3, 4] rfl)
set_option maxHeartbeats 4000000 in
set_option maxRecDepth 100000 in
theorem C_ask (l : Launch) (D : va_G) (C : mC) (h : Nat) (a : Nat → Nat) (M : Nat → Nat → Int) (hI : mI M) : Met l yX8_ask wsX8_ask ({ frames := 4, cells := 0, slots := 0, locals := 101 }) (va_Pc [.ref h] (mOk D C h a M)) (vp_Si (fun r => r = iZ (s_ask M))) 0 0 (fun _ => False) := by
  refine Met.ofW (cc := cX8_ask) (maxL := 9) (ret := (some .int)) (by decide) rfl ?_
  intro p e s m args below meth c s₁ B hml hv
  obtain ⟨rfl, hP, hK⟩ := hv
  have hx := B.exec
  have hb := B.bytes
  have hr := B.returns
  have hts := atoms_spec (ws := wsX8_ask) B.pre
  have hown : s.vm.findClass RX8 = some m.cls := findClass_of_methodNamed B.named
  have hlocks := B.notSynchronized
  have hin : ∀ w ∈ wsX80, w ∈ wsX8_ask := fun _ w_h => (List.mem_cons_of_mem _ (List.mem_append_right _ w_h))
  have hl := lv_entry ([.ref h]) (n := 9) (Nat.le_of_ble_eq_true rfl)
  rw [lg_entry_eq]
  generalize (lg_sl ([.ref h]) ++ List.replicate (9 - (lg_sl ([.ref h])).length) Slot.unset).toArray = ls at hl ⊢
  replace hl : lv_has ls 9 [(0, .ref h)] := hl
  have hnw := mI_now hI
  refine lv_aload_n hx hb dX8_ask_0 rfl (lv_at hl 0 rfl) ?_
  refine mq_ci (As := []) (rest := []) ⟨hx, hb, hml, hown, hts⟩ hK hP (C_who l D C h a M  hI) (cwV 0 hts gX8_ask_X8_who rfl rfl rfl (by decide +kernel) ⟨Nat.le_of_ble_eq_true rfl, Nat.le_of_ble_eq_true rfl⟩) rfl rfl hl.1 (Nat.le_of_ble_eq_true rfl) ⟨Nat.le_of_ble_eq_true rfl, Nat.le_of_ble_eq_true rfl⟩ dX8_ask_1 ?_
  have hwb := s_who_bd M (by omega)
  refine z_nm (fun ws hws => ?_)
  refine lv_istore_n (lv' := [(1, .int (iZ ws)), (0, .ref h)]) hx hb dX8_ask_4 rfl hl (by decide) rfl (fun ls hl => ?_)
  refine lv_bipush (v := iZ (-9)) hx hb dX8_ask_5 (by decide) ?_
  refine lv_istore_n (lv' := [(2, .int (iZ (-9))), (1, .int (iZ ws)), (0, .ref h)]) hx hb dX8_ask_7 rfl hl (by decide) rfl (fun ls hl => ?_)
  refine W.eq (g2 := F0 m 8 ls []) rfl ?_
  refine lv_iconst (v := iZ 0) hx hb dX8_ask_8 (by decide) ?_
  refine lv_istore_n (lv' := [(3, .int (iZ 0)), (2, .int (iZ (-9))), (1, .int (iZ ws)), (0, .ref h)]) hx hb dX8_ask_9 rfl hl (by decide) rfl (fun ls hl => ?_)
  refine lv_iconst (v := iZ 0) hx hb dX8_ask_10 (by decide) ?_
  refine lv_istore (lv' := [(4, .int (iZ 0)), (3, .int (iZ 0)), (2, .int (iZ (-9))), (1, .int (iZ ws)), (0, .ref h)]) hx hb dX8_ask_11 hl (by decide) rfl (fun ls hl => ?_)
  replace hl : lv_has ls 9 [(4, .int (iZ (0 : Int))), (3, .int (iZ (0 : Int))), (2, .int (iZ ((-9) : Int))), (1, .int (iZ ws)), (0, .ref h)] := lv_sub hl [0, 1, 2, 3, 4] rfl
  revert ls
  refine z_loop (σ := Int × Int × Int) (fun x9 => ((0 ≤ x9.2.2 ∧ x9.2.2 ≤ M 5 0) ∧ (-9 ≤ x9.1 ∧ x9.1 ≤ 6) ∧ (0 ≤ x9.2.1 ∧ x9.2.1 ≤ 6)) ∧ (x9.1 = (s_askN M ws (Int.toNat x9.2.2)).1) ∧ (x9.2.1 = (s_askN M ws (Int.toNat x9.2.2)).2) ∧ (s_bits ws ≤ 1 → x9.2.2 = 0)) (fun x9 => [(4, .int (iZ (x9.2.2))), (3, .int (iZ (x9.2.1))), (2, .int (iZ (x9.1))), (1, .int (iZ ws)), (0, .ref h)]) 9 (fun x9 => (M 5 0 - x9.2.2).toNat) (((-9) : Int), (0 : Int), (0 : Int)) ⟨(by show (0 ≤ (0 : Int) ∧ (0 : Int) ≤ M 5 0) ∧ (-9 ≤ ((-9) : Int) ∧ ((-9) : Int) ≤ 6) ∧ (0 ≤ (0 : Int) ∧ (0 : Int) ≤ 6); omega), (by show ((-9) : Int) = (s_askN M ws (Int.toNat (0 : Int))).1; rfl), (by show (0 : Int) = (s_askN M ws (Int.toNat (0 : Int))).2; rfl), (by show s_bits ws ≤ 1 → (0 : Int) = 0; intro _; rfl)⟩ ?_
  rintro ⟨fo, le, ss⟩ hI9 ih13 ls hl
  obtain ⟨i1, i2, i3, i4⟩ := hI9
  replace i1 : (0 ≤ ss ∧ ss ≤ M 5 0) ∧ (-9 ≤ fo ∧ fo ≤ 6) ∧ (0 ≤ le ∧ le ≤ 6) := i1
  replace i2 : fo = (s_askN M ws (Int.toNat ss)).1 := i2
  replace i3 : le = (s_askN M ws (Int.toNat ss)).2 := i3
  replace i4 : s_bits ws ≤ 1 → ss = 0 := i4
  replace hl : lv_has ls 9 [(4, .int (iZ ss)), (3, .int (iZ le)), (2, .int (iZ fo)), (1, .int (iZ ws)), (0, .ref h)] := hl
  refine lv_iload hx hb dX8_ask_13 (lv_at hl 0 rfl) ?_
  refine lv_aload_n hx hb dX8_ask_15 rfl (lv_at hl 4 rfl) ?_
  refine mq_get hx hb hts hin hown hK hP 5 (by decide) (hts (.fieldLink RX8 23 "WordFletchersModel" "sayings" "[I") (List.mem_cons_of_mem _ (List.mem_append_left _ (List.mem_append_left _ (List.mem_of_getElem? (i := 0) rfl))))) rfl dX8_ask_16 ?_
  refine lv_iconst (v := iZ 0) hx hb dX8_ask_19 (by decide) ?_
  refine mq_iald hx hb hK hP 5 5 (n := 2) rfl (by decide) 0 rfl (by omega) dX8_ask_20 ?_
  refine z_icmp_ge (x := ss) (y := (M 5 0)) (tgt := 171) hx hb (by omega) (by omega) dX8_ask_21 (by decide) (fun c1 => ?_) (fun c1 => ?_)
  · refine lv_iload_n hx hb dX8_ask_171 rfl (lv_at hl 2 rfl) ?_
    exact mq_ret hx hb hr rfl (by unfold s_ask; rw [← hws]; by_cases q0 : s_bits ws ≤ 1 <;> first | (rw [if_pos q0, i2, i4 q0]; rfl) | (exfalso; omega) | (have q : ss = M 5 0 := (by omega); rw [if_neg q0, i2, q]; done) | omega) dX8_ask_172 hlocks rfl
  · refine W.eq (g2 := F0 m 24 ls []) rfl ?_
    refine lv_iload_n hx hb dX8_ask_24 rfl (lv_at hl 3 rfl) ?_
    refine mq_cs (As := [.int (iZ ws)]) (rest := []) ⟨hx, hb, hml, hown, hts⟩ (C_bitsOf l ws (by omega)) (va_cwS 1 hts gX8_ask_X8_bitsOf rfl rfl rfl (by decide +kernel) ⟨Nat.le_of_ble_eq_true rfl, Nat.le_of_ble_eq_true rfl⟩) rfl rfl hl.1 (Nat.le_of_ble_eq_true rfl) ⟨Nat.le_of_ble_eq_true rfl, Nat.le_of_ble_eq_true rfl⟩ dX8_ask_25 ?_
    have hbi := s_bits_bd ws
    refine lv_iconst (v := iZ 1) hx hb dX8_ask_28 (by decide) ?_
    refine z_icmp_le (x := s_bits ws) (y := 1) (tgt := 171) hx hb (by omega) (by omega) dX8_ask_29 (by decide) (fun c2 => ?_) (fun c2 => ?_)
    · refine lv_iload_n hx hb dX8_ask_171 rfl (lv_at hl 2 rfl) ?_
      exact mq_ret hx hb hr rfl (by unfold s_ask; rw [← hws]; by_cases q0 : s_bits ws ≤ 1 <;> first | (rw [if_pos q0, i2, i4 q0]; rfl) | (exfalso; omega) | (have q : ss = M 5 0 := (by omega); rw [if_neg q0, i2, q]; done) | omega) dX8_ask_172 hlocks rfl
    · refine lv_iconst (v := iZ 0) hx hb dX8_ask_32 (by decide) ?_
      refine lv_istore (lv' := [(5, .int (iZ 0)), (4, .int (iZ ss)), (3, .int (iZ le)), (2, .int (iZ fo)), (1, .int (iZ ws)), (0, .ref h)]) hx hb dX8_ask_33 hl (by decide) rfl (fun ls hl => ?_)
      refine lv_iconst (v := iZ 0) hx hb dX8_ask_35 (by decide) ?_
      refine lv_istore (lv' := [(6, .int (iZ 0)), (5, .int (iZ 0)), (4, .int (iZ ss)), (3, .int (iZ le)), (2, .int (iZ fo)), (1, .int (iZ ws)), (0, .ref h)]) hx hb dX8_ask_36 hl (by decide) rfl (fun ls hl => ?_)
      replace hl : lv_has ls 9 [(6, .int (iZ (0 : Int))), (5, .int (iZ (0 : Int))), (4, .int (iZ ss)), (3, .int (iZ le)), (2, .int (iZ fo)), (1, .int (iZ ws)), (0, .ref h)] := lv_sub hl [0, 1, 2, 3, 4, 5, 6] rfl
      revert ls
      refine z_loop (σ := Int × Int) (fun x9 => ((0 ≤ x9.2 ∧ x9.2 ≤ M 2 0) ∧ (0 ≤ x9.1 ∧ x9.1 ≤ 6)) ∧ (x9.1 = s_mostN M ws ss (Int.toNat x9.2))) (fun x9 => [(6, .int (iZ (x9.2))), (5, .int (iZ (x9.1))), (4, .int (iZ ss)), (3, .int (iZ le)), (2, .int (iZ fo)), (1, .int (iZ ws)), (0, .ref h)]) 9 (fun x9 => (M 2 0 - x9.2).toNat) ((0 : Int), (0 : Int)) ⟨(by show (0 ≤ (0 : Int) ∧ (0 : Int) ≤ M 2 0) ∧ (0 ≤ (0 : Int) ∧ (0 : Int) ≤ 6); omega), (by show (0 : Int) = s_mostN M ws ss (Int.toNat (0 : Int)); rfl)⟩ ?_
      rintro ⟨mo, pp⟩ hI9 ih38 ls hl
      obtain ⟨i5, i6⟩ := hI9
      replace i5 : (0 ≤ pp ∧ pp ≤ M 2 0) ∧ (0 ≤ mo ∧ mo ≤ 6) := i5
      replace i6 : mo = s_mostN M ws ss (Int.toNat pp) := i6
      replace hl : lv_has ls 9 [(6, .int (iZ pp)), (5, .int (iZ mo)), (4, .int (iZ ss)), (3, .int (iZ le)), (2, .int (iZ fo)), (1, .int (iZ ws)), (0, .ref h)] := hl
      refine lv_iload hx hb dX8_ask_38 (lv_at hl 0 rfl) ?_
      refine lv_aload_n hx hb dX8_ask_40 rfl (lv_at hl 6 rfl) ?_
      refine W.eq (g2 := F0 m 41 ls [.ref h, .int (iZ pp)]) rfl ?_
      refine mq_get hx hb hts hin hown hK hP 2 (by decide) (hts (.fieldLink RX8 13 "WordFletchersModel" "people" "[I") (List.mem_cons_of_mem _ (List.mem_append_left _ (List.mem_append_left _ (List.mem_of_getElem? (i := 1) rfl))))) rfl dX8_ask_41 ?_
      refine lv_iconst (v := iZ 0) hx hb dX8_ask_44 (by decide) ?_
      refine mq_iald hx hb hK hP 2 2 (n := 2) rfl (by decide) 0 rfl (by omega) dX8_ask_45 ?_
      refine z_icmp_ge (x := pp) (y := (M 2 0)) (tgt := 147) hx hb (by omega) (by omega) dX8_ask_46 (by decide) (fun c37 => ?_) (fun c37 => ?_)
      · refine lv_iload_n hx hb dX8_ask_147 rfl (lv_at hl 4 rfl) ?_
        refine lv_bipush (v := iZ (-9)) hx hb dX8_ask_148 (by decide) ?_
        have K56 : ∀ (v54 : Int) (v55 : Int), (v54 = (if fo = (-9) then mo else (if le ≤ mo then le else mo))) → (v55 = (if fo = (-9) then ss else (if le ≤ mo then fo else ss))) → ∀ ls : Array Slot, lv_has ls 9 [(3, .int (iZ v54)), (2, .int (iZ v55)), (4, .int (iZ ss)), (1, .int (iZ ws)), (0, .ref h)] → W p l e ((headSpec wsX8_ask ({ frames := 4, cells := 0, slots := 0, locals := 101 })).room) s m (([.ref h] : List Value).toArray) below meth c s.heap [] 0 0 (MQ below (vp_Si (fun r => r = iZ (s_ask M))) (([.ref h] : List Value).toArray) s 0 0 (fun _ => False)) (F0 m 165 ls []) := by
          intro v54 v55 hv54 hv55 ls hl
          refine lv_iinc (v := iZ (ss + 1)) (lv' := [(4, .int (iZ (ss + 1))), (3, .int (iZ v54)), (2, .int (iZ v55)), (1, .int (iZ ws)), (0, .ref h)]) hx hb dX8_ask_165 hl (k := 2) rfl (iZ_add _ _) (by decide) rfl (fun ls hl => ?_)
          refine W.eq (g2 := F0 m 168 ls []) rfl ?_
          refine lv_goto (tgt := 13) hx hb dX8_ask_168 (by decide) ?_
          exact ih13 (v55, v54, (ss + 1)) ⟨(by show (0 ≤ (ss + 1) ∧ (ss + 1) ≤ M 5 0) ∧ (-9 ≤ v55 ∧ v55 ≤ 6) ∧ (0 ≤ v54 ∧ v54 ≤ 6); omega), (by show v55 = (s_askN M ws (Int.toNat (ss + 1))).1; rw [s_askN_1 _ _ (by omega), ← i2, ← i3]; have q : pp = M 2 0 := (by omega); have q2 : s_most M ws ss = mo := (by rw [i6, q]; rfl); rw [q2]; omega), (by show v54 = (s_askN M ws (Int.toNat (ss + 1))).2; rw [s_askN_2 _ _ (by omega), ← i2, ← i3]; have q : pp = M 2 0 := (by omega); have q2 : s_most M ws ss = mo := (by rw [i6, q]; rfl); rw [q2]; omega), (by show s_bits ws ≤ 1 → (ss + 1) = 0; omega)⟩ (by show (M 5 0 - (ss + 1)).toNat < (M 5 0 - ss).toNat; omega) ls (lv_sub hl [0, 1, 2, 3, 4] rfl)
        refine z_icmp_eq (x := fo) (y := (-9)) (tgt := 159) hx hb (by omega) (by omega) dX8_ask_150 (by decide) (fun c52 => ?_) (fun c52 => ?_)
        · refine W.eq (g2 := F0 m 159 ls []) rfl ?_
          refine lv_iload hx hb dX8_ask_159 (lv_at hl 2 rfl) ?_
          refine lv_istore_n (lv' := [(2, .int (iZ ss)), (6, .int (iZ pp)), (5, .int (iZ mo)), (4, .int (iZ ss)), (3, .int (iZ le)), (1, .int (iZ ws)), (0, .ref h)]) hx hb dX8_ask_161 rfl hl (by decide) rfl (fun ls hl => ?_)
          refine lv_iload hx hb dX8_ask_162 (lv_at hl 2 rfl) ?_
          refine lv_istore_n (lv' := [(3, .int (iZ mo)), (2, .int (iZ ss)), (6, .int (iZ pp)), (5, .int (iZ mo)), (4, .int (iZ ss)), (1, .int (iZ ws)), (0, .ref h)]) hx hb dX8_ask_164 rfl hl (by decide) rfl (fun ls hl => ?_)
          exact K56 mo ss (by first | rfl | (rw [if_pos c52]; done) | omega | (subst_vars; first | rfl | (rw [if_pos c52]; done) | omega)) (by first | rfl | (rw [if_pos c52]; done) | omega | (subst_vars; first | rfl | (rw [if_pos c52]; done) | omega)) ls (lv_sub hl [0, 1, 4, 5, 6] rfl)
        · refine lv_iload hx hb dX8_ask_153 (lv_at hl 1 rfl) ?_
          refine lv_iload_n hx hb dX8_ask_155 rfl (lv_at hl 3 rfl) ?_
          refine z_icmp_ge (x := mo) (y := le) (tgt := 165) hx hb (by omega) (by omega) dX8_ask_156 (by decide) (fun c53 => ?_) (fun c53 => ?_)
          · exact K56 le fo (by first | rfl | (rw [if_neg c52, if_pos c53]; done) | omega | (subst_vars; first | rfl | (rw [if_neg c52, if_pos c53]; done) | omega)) (by first | rfl | (rw [if_neg c52, if_pos c53]; done) | omega | (subst_vars; first | rfl | (rw [if_neg c52, if_pos c53]; done) | omega)) ls (lv_sub hl [3, 4, 2, 5, 6] rfl)
          · refine lv_iload hx hb dX8_ask_159 (lv_at hl 2 rfl) ?_
            refine lv_istore_n (lv' := [(2, .int (iZ ss)), (6, .int (iZ pp)), (5, .int (iZ mo)), (4, .int (iZ ss)), (3, .int (iZ le)), (1, .int (iZ ws)), (0, .ref h)]) hx hb dX8_ask_161 rfl hl (by decide) rfl (fun ls hl => ?_)
            refine lv_iload hx hb dX8_ask_162 (lv_at hl 2 rfl) ?_
            refine lv_istore_n (lv' := [(3, .int (iZ mo)), (2, .int (iZ ss)), (6, .int (iZ pp)), (5, .int (iZ mo)), (4, .int (iZ ss)), (1, .int (iZ ws)), (0, .ref h)]) hx hb dX8_ask_164 rfl hl (by decide) rfl (fun ls hl => ?_)
            exact K56 mo ss (by first | rfl | (rw [if_neg c52, if_neg c53]; done) | omega | (subst_vars; first | rfl | (rw [if_neg c52, if_neg c53]; done) | omega)) (by first | rfl | (rw [if_neg c52, if_neg c53]; done) | omega | (subst_vars; first | rfl | (rw [if_neg c52, if_neg c53]; done) | omega)) ls (lv_sub hl [0, 1, 4, 5, 6] rfl)
      · refine lv_iconst (v := iZ 0) hx hb dX8_ask_49 (by decide) ?_
        refine lv_istore (lv' := [(7, .int (iZ 0)), (6, .int (iZ pp)), (5, .int (iZ mo)), (4, .int (iZ ss)), (3, .int (iZ le)), (2, .int (iZ fo)), (1, .int (iZ ws)), (0, .ref h)]) hx hb dX8_ask_50 hl (by decide) rfl (fun ls hl => ?_)
        refine lv_iconst (v := iZ 0) hx hb dX8_ask_52 (by decide) ?_
        refine lv_istore (lv' := [(8, .int (iZ 0)), (7, .int (iZ 0)), (6, .int (iZ pp)), (5, .int (iZ mo)), (4, .int (iZ ss)), (3, .int (iZ le)), (2, .int (iZ fo)), (1, .int (iZ ws)), (0, .ref h)]) hx hb dX8_ask_53 hl (by decide) rfl (fun ls hl => ?_)
        replace hl : lv_has ls 9 [(8, .int (iZ (0 : Int))), (7, .int (iZ (0 : Int))), (6, .int (iZ pp)), (5, .int (iZ mo)), (4, .int (iZ ss)), (3, .int (iZ le)), (2, .int (iZ fo)), (1, .int (iZ ws)), (0, .ref h)] := lv_sub hl [0, 1, 2, 3, 4, 5, 6, 7, 8] rfl
        revert ls
        refine z_loop (σ := Int × Int) (fun x9 => ((0 ≤ x9.2 ∧ x9.2 ≤ M 2 0) ∧ (0 ≤ x9.1 ∧ x9.1 ≤ x9.2)) ∧ (x9.1 = s_cntN M ws ss pp (Int.toNat x9.2))) (fun x9 => [(8, .int (iZ (x9.2))), (7, .int (iZ (x9.1))), (6, .int (iZ pp)), (5, .int (iZ mo)), (4, .int (iZ ss)), (3, .int (iZ le)), (2, .int (iZ fo)), (1, .int (iZ ws)), (0, .ref h)]) 9 (fun x9 => (M 2 0 - x9.2).toNat) ((0 : Int), (0 : Int)) ⟨(by show (0 ≤ (0 : Int) ∧ (0 : Int) ≤ M 2 0) ∧ (0 ≤ (0 : Int) ∧ (0 : Int) ≤ (0 : Int)); omega), (by show (0 : Int) = s_cntN M ws ss pp (Int.toNat (0 : Int)); rfl)⟩ ?_
        rintro ⟨nn, oo⟩ hI9 ih55 ls hl
        obtain ⟨i7, i8⟩ := hI9
        replace i7 : (0 ≤ oo ∧ oo ≤ M 2 0) ∧ (0 ≤ nn ∧ nn ≤ oo) := i7
        replace i8 : nn = s_cntN M ws ss pp (Int.toNat oo) := i8
        replace hl : lv_has ls 9 [(8, .int (iZ oo)), (7, .int (iZ nn)), (6, .int (iZ pp)), (5, .int (iZ mo)), (4, .int (iZ ss)), (3, .int (iZ le)), (2, .int (iZ fo)), (1, .int (iZ ws)), (0, .ref h)] := hl
        refine lv_iload hx hb dX8_ask_55 (lv_at hl 0 rfl) ?_
        refine lv_aload_n hx hb dX8_ask_57 rfl (lv_at hl 8 rfl) ?_
        refine mq_get hx hb hts hin hown hK hP 2 (by decide) (hts (.fieldLink RX8 13 "WordFletchersModel" "people" "[I") (List.mem_cons_of_mem _ (List.mem_append_left _ (List.mem_append_left _ (List.mem_of_getElem? (i := 1) rfl))))) rfl dX8_ask_58 ?_
        refine lv_iconst (v := iZ 0) hx hb dX8_ask_61 (by decide) ?_
        refine mq_iald hx hb hK hP 2 2 (n := 2) rfl (by decide) 0 rfl (by omega) dX8_ask_62 ?_
        refine z_icmp_ge (x := oo) (y := (M 2 0)) (tgt := 125) hx hb (by omega) (by omega) dX8_ask_63 (by decide) (fun c57 => ?_) (fun c57 => ?_)
        · refine lv_iload hx hb dX8_ask_125 (lv_at hl 1 rfl) ?_
          refine lv_iload hx hb dX8_ask_127 (lv_at hl 3 rfl) ?_
          have K65 : ∀ (v64 : Int), (v64 = (if nn ≤ mo then mo else nn)) → ∀ ls : Array Slot, lv_has ls 9 [(6, .int (iZ pp)), (4, .int (iZ ss)), (3, .int (iZ le)), (2, .int (iZ fo)), (1, .int (iZ ws)), (0, .ref h)] → W p l e ((headSpec wsX8_ask ({ frames := 4, cells := 0, slots := 0, locals := 101 })).room) s m (([.ref h] : List Value).toArray) below meth c s.heap [] 0 0 (MQ below (vp_Si (fun r => r = iZ (s_ask M))) (([.ref h] : List Value).toArray) s 0 0 (fun _ => False)) (F0 m 139 ls [.int (iZ v64)]) := by
            intro v64 hv64 ls hl
            refine lv_istore (lv' := [(5, .int (iZ v64)), (6, .int (iZ pp)), (4, .int (iZ ss)), (3, .int (iZ le)), (2, .int (iZ fo)), (1, .int (iZ ws)), (0, .ref h)]) hx hb dX8_ask_139 hl (by decide) rfl (fun ls hl => ?_)
            refine lv_iinc (v := iZ (pp + 1)) (lv' := [(6, .int (iZ (pp + 1))), (5, .int (iZ v64)), (4, .int (iZ ss)), (3, .int (iZ le)), (2, .int (iZ fo)), (1, .int (iZ ws)), (0, .ref h)]) hx hb dX8_ask_141 hl (k := 1) rfl (iZ_add _ _) (by decide) rfl (fun ls hl => ?_)
            refine W.eq (g2 := F0 m 144 ls []) rfl ?_
            refine lv_goto (tgt := 38) hx hb dX8_ask_144 (by decide) ?_
            exact ih38 (v64, (pp + 1)) ⟨(by show (0 ≤ (pp + 1) ∧ (pp + 1) ≤ M 2 0) ∧ (0 ≤ v64 ∧ v64 ≤ 6); omega), (by show v64 = s_mostN M ws ss (Int.toNat (pp + 1)); rw [s_mostN_succ _ _ _ (by omega), ← i6]; have q : oo = M 2 0 := (by omega); have q2 : s_cnt M ws ss pp = nn := (by rw [i8, q]; rfl); rw [q2]; omega)⟩ (by show (M 2 0 - (pp + 1)).toNat < (M 2 0 - pp).toNat; omega) ls (lv_sub hl [0, 1, 2, 3, 4, 5, 6] rfl)
          refine z_icmp_le (x := nn) (y := mo) (tgt := 137) hx hb (by omega) (by omega) dX8_ask_129 (by decide) (fun c63 => ?_) (fun c63 => ?_)
          · refine lv_iload hx hb dX8_ask_137 (lv_at hl 3 rfl) ?_
            exact K65 mo (by first | rfl | (rw [if_pos c63]; done) | omega | (subst_vars; first | rfl | (rw [if_pos c63]; done) | omega)) ls (lv_sub hl [2, 4, 5, 6, 7, 8] rfl)
          · refine lv_iload hx hb dX8_ask_132 (lv_at hl 1 rfl) ?_
            refine lv_goto (tgt := 139) hx hb dX8_ask_134 (by decide) ?_
            exact K65 nn (by first | rfl | (rw [if_neg c63]; done) | omega | (subst_vars; first | rfl | (rw [if_neg c63]; done) | omega)) ls (lv_sub hl [2, 4, 5, 6, 7, 8] rfl)
        · refine lv_iload hx hb dX8_ask_66 (lv_at hl 1 rfl) ?_
          refine lv_iload_n hx hb dX8_ask_68 rfl (lv_at hl 7 rfl) ?_
          refine lv_iload hx hb dX8_ask_69 (lv_at hl 2 rfl) ?_
          refine mq_cs (As := [.int (iZ ws), .int (iZ pp)]) (rest := [.int (iZ nn)]) ⟨hx, hb, hml, hown, hts⟩ (C_has l ws pp (by omega) (by omega)) (va_cwS 2 hts gX8_ask_X8_has rfl rfl rfl (by decide +kernel) ⟨Nat.le_of_ble_eq_true rfl, Nat.le_of_ble_eq_true rfl⟩) rfl rfl hl.1 (Nat.le_of_ble_eq_true rfl) ⟨Nat.le_of_ble_eq_true rfl, Nat.le_of_ble_eq_true rfl⟩ dX8_ask_71 ?_
          have K70 : ∀ (v69 : Int), (v69 = (if (ws / zp pp % 2 = 1) then (if (ws / zp oo % 2 = 1) then (if s_bits (s_spots M oo ss) = s_bits (s_spots M pp ss) then 1 else 0) else 0) else 0)) → ∀ ls : Array Slot, lv_has ls 9 [(8, .int (iZ oo)), (6, .int (iZ pp)), (5, .int (iZ mo)), (4, .int (iZ ss)), (3, .int (iZ le)), (2, .int (iZ fo)), (1, .int (iZ ws)), (0, .ref h)] → W p l e ((headSpec wsX8_ask ({ frames := 4, cells := 0, slots := 0, locals := 101 })).room) s m (([.ref h] : List Value).toArray) below meth c s.heap [] 0 0 (MQ below (vp_Si (fun r => r = iZ (s_ask M))) (([.ref h] : List Value).toArray) s 0 0 (fun _ => False)) (F0 m 116 ls [.int (iZ v69), .int (iZ nn)]) := by
            intro v69 hv69 ls hl
            refine z_iadd hx hb dX8_ask_116 ?_
            refine lv_istore (lv' := [(7, .int (iZ (nn + v69))), (8, .int (iZ oo)), (6, .int (iZ pp)), (5, .int (iZ mo)), (4, .int (iZ ss)), (3, .int (iZ le)), (2, .int (iZ fo)), (1, .int (iZ ws)), (0, .ref h)]) hx hb dX8_ask_117 hl (by decide) rfl (fun ls hl => ?_)
            refine lv_iinc (v := iZ (oo + 1)) (lv' := [(8, .int (iZ (oo + 1))), (7, .int (iZ (nn + v69))), (6, .int (iZ pp)), (5, .int (iZ mo)), (4, .int (iZ ss)), (3, .int (iZ le)), (2, .int (iZ fo)), (1, .int (iZ ws)), (0, .ref h)]) hx hb dX8_ask_119 hl (k := 1) rfl (iZ_add _ _) (by decide) rfl (fun ls hl => ?_)
            refine lv_goto (tgt := 55) hx hb dX8_ask_122 (by decide) ?_
            exact ih55 ((nn + v69), (oo + 1)) ⟨(by show (0 ≤ (oo + 1) ∧ (oo + 1) ≤ M 2 0) ∧ (0 ≤ (nn + v69) ∧ (nn + v69) ≤ (oo + 1)); omega), (by show (nn + v69) = s_cntN M ws ss pp (Int.toNat (oo + 1)); rw [s_cntN_succ _ _ _ _ (by omega), ← i8]; omega)⟩ (by show (M 2 0 - (oo + 1)).toNat < (M 2 0 - oo).toNat; omega) ls (lv_sub hl [0, 1, 2, 3, 4, 5, 6, 7, 8] rfl)
          refine z_ifb_eq (P := (ws / zp pp % 2 = 1)) (tgt := 115) hx hb dX8_ask_74 (by decide) (fun c66 => ?_) (fun c66 => ?_)
          · refine lv_iconst (v := iZ 0) hx hb dX8_ask_115 (by decide) ?_
            exact K70 0 (by first | rfl | (rw [if_neg c66]; done) | omega | (subst_vars; first | rfl | (rw [if_neg c66]; done) | omega)) ls (lv_sub hl [0, 2, 3, 4, 5, 6, 7, 8] rfl)
          · refine lv_iload_n hx hb dX8_ask_77 rfl (lv_at hl 7 rfl) ?_
            refine lv_iload hx hb dX8_ask_78 (lv_at hl 0 rfl) ?_
            refine mq_cs (As := [.int (iZ ws), .int (iZ oo)]) (rest := [.int (iZ nn)]) ⟨hx, hb, hml, hown, hts⟩ (C_has l ws oo (by omega) (by omega)) (va_cwS 2 hts gX8_ask_X8_has rfl rfl rfl (by decide +kernel) ⟨Nat.le_of_ble_eq_true rfl, Nat.le_of_ble_eq_true rfl⟩) rfl rfl hl.1 (Nat.le_of_ble_eq_true rfl) ⟨Nat.le_of_ble_eq_true rfl, Nat.le_of_ble_eq_true rfl⟩ dX8_ask_80 ?_
            refine z_ifb_eq (P := (ws / zp oo % 2 = 1)) (tgt := 115) hx hb dX8_ask_83 (by decide) (fun c67 => ?_) (fun c67 => ?_)
            · refine lv_iconst (v := iZ 0) hx hb dX8_ask_115 (by decide) ?_
              exact K70 0 (by first | rfl | (rw [if_pos c66, if_neg c67]; done) | omega | (subst_vars; first | rfl | (rw [if_pos c66, if_neg c67]; done) | omega)) ls (lv_sub hl [0, 2, 3, 4, 5, 6, 7, 8] rfl)
            · refine W.eq (g2 := F0 m 86 ls [.int (iZ nn)]) rfl ?_
              refine lv_aload_n hx hb dX8_ask_86 rfl (lv_at hl 8 rfl) ?_
              refine lv_iload hx hb dX8_ask_87 (lv_at hl 0 rfl) ?_
              refine lv_iload hx hb dX8_ask_89 (lv_at hl 4 rfl) ?_
              refine mq_ci (As := [.int (iZ oo), .int (iZ ss)]) (rest := [.int (iZ nn)]) ⟨hx, hb, hml, hown, hts⟩ hK hP (C_spotsOf l D C h a M oo ss hI (by omega) (by omega)) (cwV 2 hts gX8_ask_X8_spotsOf rfl rfl rfl (by decide +kernel) ⟨Nat.le_of_ble_eq_true rfl, Nat.le_of_ble_eq_true rfl⟩) rfl rfl hl.1 (Nat.le_of_ble_eq_true rfl) ⟨Nat.le_of_ble_eq_true rfl, Nat.le_of_ble_eq_true rfl⟩ dX8_ask_91 ?_
              have hsb := s_spots_bd M oo ss
              refine mq_cs (As := [.int (iZ (s_spots M oo ss))]) (rest := [.int (iZ nn)]) ⟨hx, hb, hml, hown, hts⟩ (C_bitsOf l (s_spots M oo ss) (by omega)) (va_cwS 1 hts gX8_ask_X8_bitsOf rfl rfl rfl (by decide +kernel) ⟨Nat.le_of_ble_eq_true rfl, Nat.le_of_ble_eq_true rfl⟩) rfl rfl hl.1 (Nat.le_of_ble_eq_true rfl) ⟨Nat.le_of_ble_eq_true rfl, Nat.le_of_ble_eq_true rfl⟩ dX8_ask_94 ?_
              have hbi := s_bits_bd (s_spots M oo ss)
              refine lv_aload_n hx hb dX8_ask_97 rfl (lv_at hl 8 rfl) ?_
              refine lv_iload hx hb dX8_ask_98 (lv_at hl 2 rfl) ?_
              refine lv_iload hx hb dX8_ask_100 (lv_at hl 4 rfl) ?_
              refine mq_ci (As := [.int (iZ pp), .int (iZ ss)]) (rest := [.int (iZ (s_bits (s_spots M oo ss))), .int (iZ nn)]) ⟨hx, hb, hml, hown, hts⟩ hK hP (C_spotsOf l D C h a M pp ss hI (by omega) (by omega)) (cwV 2 hts gX8_ask_X8_spotsOf rfl rfl rfl (by decide +kernel) ⟨Nat.le_of_ble_eq_true rfl, Nat.le_of_ble_eq_true rfl⟩) rfl rfl hl.1 (Nat.le_of_ble_eq_true rfl) ⟨Nat.le_of_ble_eq_true rfl, Nat.le_of_ble_eq_true rfl⟩ dX8_ask_102 ?_
              have hsb := s_spots_bd M pp ss
              refine mq_cs (As := [.int (iZ (s_spots M pp ss))]) (rest := [.int (iZ (s_bits (s_spots M oo ss))), .int (iZ nn)]) ⟨hx, hb, hml, hown, hts⟩ (C_bitsOf l (s_spots M pp ss) (by omega)) (va_cwS 1 hts gX8_ask_X8_bitsOf rfl rfl rfl (by decide +kernel) ⟨Nat.le_of_ble_eq_true rfl, Nat.le_of_ble_eq_true rfl⟩) rfl rfl hl.1 (Nat.le_of_ble_eq_true rfl) ⟨Nat.le_of_ble_eq_true rfl, Nat.le_of_ble_eq_true rfl⟩ dX8_ask_105 ?_
              have hbi := s_bits_bd (s_spots M pp ss)
              refine z_icmp_ne (x := s_bits (s_spots M oo ss)) (y := s_bits (s_spots M pp ss)) (tgt := 115) hx hb (by omega) (by omega) dX8_ask_108 (by decide) (fun c68 => ?_) (fun c68 => ?_)
              · refine lv_iconst (v := iZ 0) hx hb dX8_ask_115 (by decide) ?_
                exact K70 0 (by first | rfl | (rw [if_pos c66, if_pos c67, if_neg c68]; done) | omega | (subst_vars; first | rfl | (rw [if_pos c66, if_pos c67, if_neg c68]; done) | omega)) ls (lv_sub hl [0, 2, 3, 4, 5, 6, 7, 8] rfl)
              · refine W.eq (g2 := F0 m 111 ls [.int (iZ nn)]) rfl ?_
                refine lv_iconst (v := iZ 1) hx hb dX8_ask_111 (by decide) ?_
                refine lv_goto (tgt := 116) hx hb dX8_ask_112 (by decide) ?_
                exact K70 1 (by first | rfl | (rw [if_pos c66, if_pos c67, if_pos c68]; done) | omega | (subst_vars; first | rfl | (rw [if_pos c66, if_pos c67, if_pos c68]; done) | omega)) ls (lv_sub hl [0, 2, 3, 4, 5, 6, 7, 8] rfl)
