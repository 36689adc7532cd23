set_option maxHeartbeats 4000000 in
set_option maxRecDepth 100000 in
theorem C_relay (l : Launch) (D : va_G) (C : mC) (h : Nat) (a : Nat → Nat) (M : Nat → Nat → Int) (sy to wh : Int) (hI : mI M) (h0 : -2147483648 ≤ sy ∧ sy < 2147483648) (h1 : -2147483648 ≤ to ∧ to < 2147483648) (h2 : -2147483648 ≤ wh ∧ wh < 2147483648) (hN : va_D (fun _ => True) (mW C h a M)) : Met l yX8_relay wsX8_relay ({ frames := 4, cells := 0, slots := 0, locals := 106 }) (va_Pc [.ref h, .int (iZ sy), .int (iZ to), .int (iZ wh)] (mOk D C h a M)) (va_Qi (fun r (_ : Unit) => r = iZ (s_relay M sy to wh)) (fun _ t => mOk D C h a (f_relay M sy to wh) t) (mA h a)) 0 0 (mA h a) := by
  refine Met.ofW (cc := cX8_relay) (maxL := 11) (ret := (some .int)) (by decide) rfl ?_
  intro p e s m args below meth c s₁ B hml hv
  obtain ⟨rfl, hP, hK⟩ := hv
  have hx := B.exec
  have hb := B.bytes
  have hr := B.returns
  have hts := atoms_spec (ws := wsX8_relay) B.pre
  have hown : s.vm.findClass RX8 = some m.cls := findClass_of_methodNamed B.named
  have hlocks := B.notSynchronized
  have hin : ∀ w ∈ wsX80, w ∈ wsX8_relay := fun _ w_h => (List.mem_cons_of_mem _ (List.mem_append_right _ w_h))
  have hl := lv_entry ([.ref h, .int (iZ sy), .int (iZ to), .int (iZ wh)]) (n := 11) (Nat.le_of_ble_eq_true rfl)
  rw [lg_entry_eq]
  generalize (lg_sl ([.ref h, .int (iZ sy), .int (iZ to), .int (iZ wh)]) ++ List.replicate (11 - (lg_sl ([.ref h, .int (iZ sy), .int (iZ to), .int (iZ wh)])).length) Slot.unset).toArray = ls at hl ⊢
  replace hl : lv_has ls 11 [(0, .ref h), (1, .int (iZ sy)), (2, .int (iZ to)), (3, .int (iZ wh))] := hl
  have hD : va_D (mA h a) (mW C h a M) := mD_own hN
  have hA : ∀ q, mA h a q → mA h a q := fun _ h9 => h9
  generalize hHe : s.heap = H at hP ⊢
  have hS : va_S (mA h a) s.heap H [] := by rw [hHe]; exact va_S.rf
  generalize hlo : ([] : List Loc) = locs at hS ⊢
  clear hHe hlo
  have hnw := mI_now hI
  refine lv_aload_n hx hb dX8_relay_0 rfl (lv_at hl 0 rfl) ?_
  refine W.eq (g2 := F0 m 1 ls [.ref h]) rfl ?_
  refine lv_iload_n hx hb dX8_relay_1 rfl (lv_at hl 1 rfl) ?_
  refine mq_ci (As := [.int (iZ sy)]) (rest := []) ⟨hx, hb, hml, hown, hts⟩ hK hP (C_isSaying l D C h a M sy hI (by omega)) (cwV 1 hts gX8_relay_X8_isSaying rfl rfl rfl (by decide +kernel) ⟨Nat.le_of_ble_eq_true rfl, Nat.le_of_ble_eq_true rfl⟩) rfl rfl hl.1 (Nat.le_of_ble_eq_true rfl) ⟨Nat.le_of_ble_eq_true rfl, Nat.le_of_ble_eq_true rfl⟩ dX8_relay_2 ?_
  refine z_ifb_eq (P := (0 ≤ sy ∧ sy < M 5 0)) (tgt := 25) hx hb dX8_relay_5 (by decide) (fun c1 => ?_) (fun c1 => ?_)
  · refine lv_iconst (v := iZ (-1)) hx hb dX8_relay_25 (by decide) ?_
    exact mq_retM hx hb hK hP hS hr rfl (by first | (unfold s_relay; rw [if_pos (by omega)]; done) | (rw [e8]; unfold s_rel4; first | (rw [if_pos (by omega)]; done) | (rw [if_neg (by omega), if_pos (by omega)]; done) | (rw [if_neg (by omega), if_neg (by omega), if_pos (by omega)]; done) | (have r1 := s_rsh_at i4 (by omega) ⟨by rw [← hth2]; omega, by omega, by rw [← hth2]; omega⟩; have r2 := s_rpe_at i2 (by omega) (by omega) r1 (by omega); rw [if_neg (by omega), if_neg (by omega), if_neg (by omega), r2, if_neg (by omega), r1]; unfold s_code; omega) | (rcases r9 with r9 | r9 <;> first | (rw [if_neg (by omega), if_neg (by omega), if_pos (by omega)]; done) | (rw [if_neg (by omega), if_neg (by omega), if_neg (by omega), if_pos r9]; done) | (exfalso; omega)) | omega) | omega) (by unfold f_relay; first | (rw [if_pos (by omega)]; done) | (rw [if_neg (by omega), hK9]; done) | omega) dX8_relay_26 hlocks
  · refine lv_aload_n hx hb dX8_relay_8 rfl (lv_at hl 0 rfl) ?_
    refine lv_iload_n hx hb dX8_relay_9 rfl (lv_at hl 2 rfl) ?_
    refine mq_ci (As := [.int (iZ to)]) (rest := []) ⟨hx, hb, hml, hown, hts⟩ hK hP (C_isOne l D C h a M to hI (by omega)) (cwV 1 hts gX8_relay_X8_isOne rfl rfl rfl (by decide +kernel) ⟨Nat.le_of_ble_eq_true rfl, Nat.le_of_ble_eq_true rfl⟩) rfl rfl hl.1 (Nat.le_of_ble_eq_true rfl) ⟨Nat.le_of_ble_eq_true rfl, Nat.le_of_ble_eq_true rfl⟩ dX8_relay_10 ?_
    refine z_ifb_eq (P := (0 ≤ to ∧ to < M 2 0)) (tgt := 25) hx hb dX8_relay_13 (by decide) (fun c2 => ?_) (fun c2 => ?_)
    · refine lv_iconst (v := iZ (-1)) hx hb dX8_relay_25 (by decide) ?_
      exact mq_retM hx hb hK hP hS hr rfl (by first | (unfold s_relay; rw [if_pos (by omega)]; done) | (rw [e8]; unfold s_rel4; first | (rw [if_pos (by omega)]; done) | (rw [if_neg (by omega), if_pos (by omega)]; done) | (rw [if_neg (by omega), if_neg (by omega), if_pos (by omega)]; done) | (have r1 := s_rsh_at i4 (by omega) ⟨by rw [← hth2]; omega, by omega, by rw [← hth2]; omega⟩; have r2 := s_rpe_at i2 (by omega) (by omega) r1 (by omega); rw [if_neg (by omega), if_neg (by omega), if_neg (by omega), r2, if_neg (by omega), r1]; unfold s_code; omega) | (rcases r9 with r9 | r9 <;> first | (rw [if_neg (by omega), if_neg (by omega), if_pos (by omega)]; done) | (rw [if_neg (by omega), if_neg (by omega), if_neg (by omega), if_pos r9]; done) | (exfalso; omega)) | omega) | omega) (by unfold f_relay; first | (rw [if_pos (by omega)]; done) | (rw [if_neg (by omega), hK9]; done) | omega) dX8_relay_26 hlocks
    · refine lv_iload_n hx hb dX8_relay_16 rfl (lv_at hl 3 rfl) ?_
      refine W.eq (g2 := F0 m 17 ls [.int (iZ wh)]) rfl ?_
      refine lv_iconst (v := iZ 0) hx hb dX8_relay_17 (by decide) ?_
      refine lv_iconst (v := iZ 2) hx hb dX8_relay_18 (by decide) ?_
      refine mq_cs (As := [.int (iZ wh), .int (iZ 0), .int (iZ 2)]) (rest := []) ⟨hx, hb, hml, hown, hts⟩ (C_in l wh 0 2 (by omega) (by omega) (by omega)) (va_cwS 3 hts gX8_relay_X8_in rfl rfl rfl (by decide +kernel) ⟨Nat.le_of_ble_eq_true rfl, Nat.le_of_ble_eq_true rfl⟩) rfl rfl hl.1 (Nat.le_of_ble_eq_true rfl) ⟨Nat.le_of_ble_eq_true rfl, Nat.le_of_ble_eq_true rfl⟩ dX8_relay_19 ?_
      refine z_ifb_ne (P := (0 ≤ wh ∧ wh ≤ 2)) (tgt := 27) hx hb dX8_relay_22 (by decide) (fun c3 => ?_) (fun c3 => ?_)
      · refine lv_aload_n hx hb dX8_relay_27 rfl (lv_at hl 0 rfl) ?_
        refine lv_iload_n hx hb dX8_relay_28 rfl (lv_at hl 1 rfl) ?_
        refine lv_iload_n hx hb dX8_relay_29 rfl (lv_at hl 2 rfl) ?_
        refine mq_cv (As := [.int (iZ sy), .int (iZ to)]) (rest := []) ⟨hx, hb, hml, hown, hts⟩ hK hP hD hS hA (C_measure l D C h a M sy to hI (by omega) (by omega) (hD.weaken (fun _ _ _ _ => trivial))) (cwV 2 hts gX8_relay_X8_measure rfl rfl rfl (by decide +kernel) ⟨Nat.le_of_ble_eq_true rfl, Nat.le_of_ble_eq_true rfl⟩) rfl rfl hl.1 (Nat.le_of_ble_eq_true rfl) ⟨Nat.le_of_ble_eq_true rfl, Nat.le_of_ble_eq_true rfl⟩ dX8_relay_30 (fun H locs hP hD hS => ?_)
        obtain ⟨M4, hM4⟩ : ∃ z : Nat → Nat → Int, z = (f_meas M sy to) := ⟨_, rfl⟩
        rw [← hM4] at hP hD
        have hK9 : f_meas M sy to = M4 := hM4.symm
        have q3 : ∀ f, f ≠ 24 → M4 f = M f := fun f hf => by rw [hM4]; exact f_ms_o _ _ _ _ _ hf
        have hI_M4 : mI M4 := mI_oo hI (fun f hf _ => q3 f hf)
        have hnw2 := mI_now hI_M4
        have g2 := congrFun (q3 2 (by decide)) 0
        have g5 := congrFun (q3 5 (by decide)) 0
        have hmb : ∀ k : Nat, 1 ≤ k → k ≤ 63 → 0 ≤ M4 24 k ∧ M4 24 k ≤ 1000000 := fun k a9 b9 => by rw [← hK9]; exact f_meas_bd (by omega) sy to k a9 b9
        have hs1 := mI_kn hI_M4 (k := sy) (by omega)
        have hs2 := mI_k1 hI_M4 (k := sy) (by omega)
        refine lv_aload_n hx hb dX8_relay_33 rfl (lv_at hl 0 rfl) ?_
        refine mq_get hx hb hts hin hown hK hP 19 (by decide) (hts (.fieldLink RX8 44 "WordFletchersModel" "now" "[I") (List.mem_cons_of_mem _ (List.mem_append_left _ (List.mem_append_left _ (List.mem_of_getElem? (i := 0) rfl))))) rfl dX8_relay_34 ?_
        refine lv_bipush (v := iZ 6) hx hb dX8_relay_37 (by decide) ?_
        refine lv_iload_n hx hb dX8_relay_39 rfl (lv_at hl 1 rfl) ?_
        refine W.eq (g2 := F0 m 40 ls [.int (iZ sy), .int (iZ 6), .ref (a 19)]) rfl ?_
        refine z_iadd hx hb dX8_relay_40 ?_
        refine mq_iald hx hb hK hP 19 12 (n := 29) rfl (by decide) (Int.toNat (6 + sy)) rfl (by omega) dX8_relay_41 ?_
        refine z_nm (fun st hst => ?_)
        have e7 : s_relay M sy to wh = s_rel3 M4 sy wh st := by unfold s_relay; rw [if_neg (by omega), hK9]; unfold s_rel2; rw [← hst]
        refine lv_istore (lv' := [(4, .int (iZ st)), (0, .ref h), (1, .int (iZ sy)), (2, .int (iZ to)), (3, .int (iZ wh))]) hx hb dX8_relay_42 hl (by decide) rfl (fun ls hl => ?_)
        refine lv_aload_n hx hb dX8_relay_44 rfl (lv_at hl 1 rfl) ?_
        refine mq_get hx hb hts hin hown hK hP 24 (by decide) (hts (.fieldLink RX8 60 "WordFletchersModel" "needed" "[I") (List.mem_cons_of_mem _ (List.mem_append_left _ (List.mem_append_left _ (List.mem_of_getElem? (i := 1) rfl))))) rfl dX8_relay_45 ?_
        refine lv_iload hx hb dX8_relay_48 (lv_at hl 0 rfl) ?_
        refine mq_iald hx hb hK hP 24 17 (n := 64) rfl (by decide) (Int.toNat st) rfl (by omega) dX8_relay_50 ?_
        refine z_nm (fun al hal => ?_)
        have e8 : s_relay M sy to wh = s_rel4 M4 sy wh st al := by rw [e7]; unfold s_rel3; rw [← hal]
        have hal2 : 0 ≤ al ∧ al ≤ 1000000 := by rw [hal]; exact hmb _ (by omega) (by omega)
        refine lv_istore (lv' := [(5, .int (iZ al)), (4, .int (iZ st)), (0, .ref h), (1, .int (iZ sy)), (2, .int (iZ to)), (3, .int (iZ wh))]) hx hb dX8_relay_51 hl (by decide) rfl (fun ls hl => ?_)
        refine lv_iload hx hb dX8_relay_53 (lv_at hl 0 rfl) ?_
        refine z_ldc (n := 1000000) hx hb hown (hts (Cond.constant RX8 181 (1000000)) (List.mem_cons_of_mem _ (List.mem_append_left _ (List.mem_append_left _ (List.mem_of_getElem? (i := 2) rfl))))) (by decide) dX8_relay_55 ?_
        refine z_icmp_lt (x := al) (y := 1000000) (tgt := 63) hx hb (by omega) (by omega) dX8_relay_57 (by decide) (fun c5 => ?_) (fun c5 => ?_)
        · refine lv_iload_n hx hb dX8_relay_63 rfl (lv_at hl 5 rfl) ?_
          refine W.eq (g2 := F0 m 64 ls [.int (iZ wh)]) rfl ?_
          refine z_if_ne (x := wh) (tgt := 70) hx hb (by omega) dX8_relay_64 (by decide) (fun c6 => ?_) (fun c6 => ?_)
          · refine lv_iconst (v := iZ 0) hx hb dX8_relay_70 (by decide) ?_
            refine lv_istore (lv' := [(6, .int (iZ 0)), (5, .int (iZ al)), (4, .int (iZ st)), (0, .ref h), (1, .int (iZ sy)), (2, .int (iZ to)), (3, .int (iZ wh))]) hx hb dX8_relay_71 hl (by decide) rfl (fun ls hl => ?_)
            replace hl : lv_has ls 11 [(6, .int (iZ (0 : Int))), (5, .int (iZ al)), (4, .int (iZ st)), (0, .ref h), (1, .int (iZ sy)), (3, .int (iZ wh))] := lv_sub hl [0, 1, 2, 3, 4, 6] rfl
            revert ls
            refine z_loop (σ := Int) (fun x9 => (0 ≤ x9 ∧ x9 ≤ M4 2 0) ∧ (s_rpe M4 sy st al = zfind (fun q => decide (st / zp q % 2 = 1 ∧ ¬ (s_rsh M4 sy st al q = -9))) (Int.toNat (M4 2 0 - x9)) x9)) (fun x9 => [(6, .int (iZ x9)), (5, .int (iZ al)), (4, .int (iZ st)), (0, .ref h), (1, .int (iZ sy)), (3, .int (iZ wh))]) 11 (fun x9 => (M4 2 0 - x9).toNat) (0 : Int) ⟨(by show 0 ≤ (0 : Int) ∧ (0 : Int) ≤ M4 2 0; omega), (by show s_rpe M4 sy st al = zfind (fun q => decide (st / zp q % 2 = 1 ∧ ¬ (s_rsh M4 sy st al q = -9))) (Int.toNat (M4 2 0 - (0 : Int))) (0 : Int); rfl)⟩ ?_
            rintro pp hI9 ih73 ls hl
            obtain ⟨i1, i2⟩ := hI9
            replace i1 : 0 ≤ pp ∧ pp ≤ M4 2 0 := i1
            replace i2 : s_rpe M4 sy st al = zfind (fun q => decide (st / zp q % 2 = 1 ∧ ¬ (s_rsh M4 sy st al q = -9))) (Int.toNat (M4 2 0 - pp)) pp := i2
            replace hl : lv_has ls 11 [(6, .int (iZ pp)), (5, .int (iZ al)), (4, .int (iZ st)), (0, .ref h), (1, .int (iZ sy)), (3, .int (iZ wh))] := hl
            refine lv_iload hx hb dX8_relay_73 (lv_at hl 0 rfl) ?_
            refine lv_aload_n hx hb dX8_relay_75 rfl (lv_at hl 3 rfl) ?_
            refine mq_get hx hb hts hin hown hK hP 2 (by decide) (hts (.fieldLink RX8 13 "WordFletchersModel" "people" "[I") (List.mem_cons_of_mem _ (List.mem_append_left _ (List.mem_append_left _ (List.mem_of_getElem? (i := 3) rfl))))) rfl dX8_relay_76 ?_
            refine lv_iconst (v := iZ 0) hx hb dX8_relay_79 (by decide) ?_
            refine mq_iald hx hb hK hP 2 2 (n := 2) rfl (by decide) 0 rfl (by omega) dX8_relay_80 ?_
            refine z_icmp_ge (x := pp) (y := (M4 2 0)) (tgt := 213) hx hb (by omega) (by omega) dX8_relay_81 (by decide) (fun c7 => ?_) (fun c7 => ?_)
            · have r9 : al ≤ 0 ∨ s_rpe M4 sy st al = -9 := by first | (left; omega) | (right; rw [i2, show Int.toNat (M4 2 0 - pp) = 0 by omega]; rfl)
              refine lv_bipush (v := iZ (-9)) hx hb dX8_relay_213 (by decide) ?_
              exact mq_retM hx hb hK hP hS hr rfl (by first | (unfold s_relay; rw [if_pos (by omega)]; done) | (rw [e8]; unfold s_rel4; first | (rw [if_pos (by omega)]; done) | (rw [if_neg (by omega), if_pos (by omega)]; done) | (rw [if_neg (by omega), if_neg (by omega), if_pos (by omega)]; done) | (have r1 := s_rsh_at i4 (by omega) ⟨by rw [← hth2]; omega, by omega, by rw [← hth2]; omega⟩; have r2 := s_rpe_at i2 (by omega) (by omega) r1 (by omega); rw [if_neg (by omega), if_neg (by omega), if_neg (by omega), r2, if_neg (by omega), r1]; unfold s_code; omega) | (rcases r9 with r9 | r9 <;> first | (rw [if_neg (by omega), if_neg (by omega), if_pos (by omega)]; done) | (rw [if_neg (by omega), if_neg (by omega), if_neg (by omega), if_pos r9]; done) | (exfalso; omega)) | omega) | omega) (by unfold f_relay; first | (rw [if_pos (by omega)]; done) | (rw [if_neg (by omega), hK9]; done) | omega) dX8_relay_215 hlocks
            · refine lv_iload hx hb dX8_relay_84 (lv_at hl 1 rfl) ?_
              refine W.eq (g2 := F0 m 86 ls [.int (iZ al)]) rfl ?_
              refine z_if_le (x := al) (tgt := 213) hx hb (by omega) dX8_relay_86 (by decide) (fun c8 => ?_) (fun c8 => ?_)
              · have r9 : al ≤ 0 ∨ s_rpe M4 sy st al = -9 := by first | (left; omega) | (right; rw [i2, show Int.toNat (M4 2 0 - pp) = 0 by omega]; rfl)
                refine lv_bipush (v := iZ (-9)) hx hb dX8_relay_213 (by decide) ?_
                exact mq_retM hx hb hK hP hS hr rfl (by first | (unfold s_relay; rw [if_pos (by omega)]; done) | (rw [e8]; unfold s_rel4; first | (rw [if_pos (by omega)]; done) | (rw [if_neg (by omega), if_pos (by omega)]; done) | (rw [if_neg (by omega), if_neg (by omega), if_pos (by omega)]; done) | (have r1 := s_rsh_at i4 (by omega) ⟨by rw [← hth2]; omega, by omega, by rw [← hth2]; omega⟩; have r2 := s_rpe_at i2 (by omega) (by omega) r1 (by omega); rw [if_neg (by omega), if_neg (by omega), if_neg (by omega), r2, if_neg (by omega), r1]; unfold s_code; omega) | (rcases r9 with r9 | r9 <;> first | (rw [if_neg (by omega), if_neg (by omega), if_pos (by omega)]; done) | (rw [if_neg (by omega), if_neg (by omega), if_neg (by omega), if_pos r9]; done) | (exfalso; omega)) | omega) | omega) (by unfold f_relay; first | (rw [if_pos (by omega)]; done) | (rw [if_neg (by omega), hK9]; done) | omega) dX8_relay_215 hlocks
              · refine lv_iconst (v := iZ 0) hx hb dX8_relay_89 (by decide) ?_
                refine lv_istore (lv' := [(7, .int (iZ 0)), (6, .int (iZ pp)), (5, .int (iZ al)), (4, .int (iZ st)), (0, .ref h), (1, .int (iZ sy)), (3, .int (iZ wh))]) hx hb dX8_relay_90 hl (by decide) rfl (fun ls hl => ?_)
                replace hl : lv_has ls 11 [(7, .int (iZ (0 : Int))), (6, .int (iZ pp)), (5, .int (iZ al)), (4, .int (iZ st)), (0, .ref h), (1, .int (iZ sy)), (3, .int (iZ wh))] := lv_sub hl [0, 1, 2, 3, 4, 5, 6] rfl
                revert ls
                refine z_loop (σ := Int) (fun x9 => ((0 ≤ x9 ∧ x9 ≤ 32)) ∧ (s_rsh M4 sy st al pp = zfind (fun q => decide (s_rok M4 sy st pp al q)) (Int.toNat (32 - x9)) x9)) (fun x9 => [(7, .int (iZ x9)), (6, .int (iZ pp)), (5, .int (iZ al)), (4, .int (iZ st)), (0, .ref h), (1, .int (iZ sy)), (3, .int (iZ wh))]) 11 (fun x9 => (32 - x9).toNat) (0 : Int) ⟨(by show (0 ≤ (0 : Int) ∧ (0 : Int) ≤ 32); omega), (by show s_rsh M4 sy st al pp = zfind (fun q => decide (s_rok M4 sy st pp al q)) (Int.toNat (32 - (0 : Int))) (0 : Int); rfl)⟩ ?_
                rintro sh hI9 ih92 ls hl
                obtain ⟨i3, i4⟩ := hI9
                replace i3 : (0 ≤ sh ∧ sh ≤ 32) := i3
                replace i4 : s_rsh M4 sy st al pp = zfind (fun q => decide (s_rok M4 sy st pp al q)) (Int.toNat (32 - sh)) sh := i4
                replace hl : lv_has ls 11 [(7, .int (iZ sh)), (6, .int (iZ pp)), (5, .int (iZ al)), (4, .int (iZ st)), (0, .ref h), (1, .int (iZ sy)), (3, .int (iZ wh))] := hl
                refine lv_iload hx hb dX8_relay_92 (lv_at hl 0 rfl) ?_
                refine lv_bipush (v := iZ 32) hx hb dX8_relay_94 (by decide) ?_
                refine z_icmp_ge (x := sh) (y := 32) (tgt := 207) hx hb (by omega) (by omega) dX8_relay_96 (by decide) (fun c9 => ?_) (fun c9 => ?_)
                · refine lv_iinc (v := iZ (pp + 1)) (lv' := [(6, .int (iZ (pp + 1))), (7, .int (iZ sh)), (5, .int (iZ al)), (4, .int (iZ st)), (0, .ref h), (1, .int (iZ sy)), (3, .int (iZ wh))]) hx hb dX8_relay_207 hl (k := 1) rfl (iZ_add _ _) (by decide) rfl (fun ls hl => ?_)
                  refine lv_goto (tgt := 73) hx hb dX8_relay_210 (by decide) ?_
                  exact ih73 (pp + 1) ⟨(by show 0 ≤ (pp + 1) ∧ (pp + 1) ≤ M4 2 0; omega), (by show s_rpe M4 sy st al = zfind (fun q => decide (st / zp q % 2 = 1 ∧ ¬ (s_rsh M4 sy st al q = -9))) (Int.toNat (M4 2 0 - (pp + 1))) (pp + 1); rw [i2, zfind_step _ _ _ (by omega)]; refine if_neg (fun h9 => ?_); have h8 := of_decide_eq_true h9; first | (exact absurd h8.1 (by omega)) | (refine h8.2 ?_; rw [i4, show Int.toNat (32 - sh) = 0 by omega]; rfl))⟩ (by show (M4 2 0 - (pp + 1)).toNat < (M4 2 0 - pp).toNat; omega) ls (lv_sub hl [0, 2, 3, 4, 5, 6] rfl)
                · refine lv_iload hx hb dX8_relay_99 (lv_at hl 3 rfl) ?_
                  refine lv_iload hx hb dX8_relay_101 (lv_at hl 1 rfl) ?_
                  refine W.eq (g2 := F0 m 103 ls [.int (iZ pp), .int (iZ st)]) rfl ?_
                  refine mq_cs (As := [.int (iZ st), .int (iZ pp)]) (rest := []) ⟨hx, hb, hml, hown, hts⟩ (C_has l st pp (by omega) (by omega)) (va_cwS 2 hts gX8_relay_X8_has rfl rfl rfl (by decide +kernel) ⟨Nat.le_of_ble_eq_true rfl, Nat.le_of_ble_eq_true rfl⟩) rfl rfl hl.1 (Nat.le_of_ble_eq_true rfl) ⟨Nat.le_of_ble_eq_true rfl, Nat.le_of_ble_eq_true rfl⟩ dX8_relay_103 ?_
                  refine z_ifb_eq (P := (st / zp pp % 2 = 1)) (tgt := 207) hx hb dX8_relay_106 (by decide) (fun c10 => ?_) (fun c10 => ?_)
                  · refine lv_iinc (v := iZ (pp + 1)) (lv' := [(6, .int (iZ (pp + 1))), (7, .int (iZ sh)), (5, .int (iZ al)), (4, .int (iZ st)), (0, .ref h), (1, .int (iZ sy)), (3, .int (iZ wh))]) hx hb dX8_relay_207 hl (k := 1) rfl (iZ_add _ _) (by decide) rfl (fun ls hl => ?_)
                    refine lv_goto (tgt := 73) hx hb dX8_relay_210 (by decide) ?_
                    exact ih73 (pp + 1) ⟨(by show 0 ≤ (pp + 1) ∧ (pp + 1) ≤ M4 2 0; omega), (by show s_rpe M4 sy st al = zfind (fun q => decide (st / zp q % 2 = 1 ∧ ¬ (s_rsh M4 sy st al q = -9))) (Int.toNat (M4 2 0 - (pp + 1))) (pp + 1); rw [i2, zfind_step _ _ _ (by omega)]; refine if_neg (fun h9 => ?_); have h8 := of_decide_eq_true h9; first | (exact absurd h8.1 (by omega)) | (refine h8.2 ?_; rw [i4, show Int.toNat (32 - sh) = 0 by omega]; rfl))⟩ (by show (M4 2 0 - (pp + 1)).toNat < (M4 2 0 - pp).toNat; omega) ls (lv_sub hl [0, 2, 3, 4, 5, 6] rfl)
                  · refine lv_iload hx hb dX8_relay_109 (lv_at hl 0 rfl) ?_
                    refine lv_bipush (v := iZ 8) hx hb dX8_relay_111 (by decide) ?_
                    refine z_idiv hx hb (by omega) (by omega) dX8_relay_113 ?_
                    refine lv_istore (lv' := [(8, .int (iZ (sh / 8))), (7, .int (iZ sh)), (6, .int (iZ pp)), (5, .int (iZ al)), (4, .int (iZ st)), (0, .ref h), (1, .int (iZ sy)), (3, .int (iZ wh))]) hx hb dX8_relay_114 hl (by decide) rfl (fun ls hl => ?_)
                    refine lv_iload hx hb dX8_relay_116 (lv_at hl 1 rfl) ?_
                    refine lv_iconst (v := iZ 2) hx hb dX8_relay_118 (by decide) ?_
                    refine z_idiv hx hb (by omega) (by omega) dX8_relay_119 ?_
                    refine lv_iconst (v := iZ 4) hx hb dX8_relay_120 (by decide) ?_
                    refine W.eq (g2 := F0 m 121 ls [.int (iZ 4), .int (iZ (sh / 2))]) rfl ?_
                    refine z_irem hx hb (by omega) (by omega) dX8_relay_121 ?_
                    refine lv_istore (lv' := [(9, .int (iZ ((sh / 2) % 4))), (8, .int (iZ (sh / 8))), (7, .int (iZ sh)), (6, .int (iZ pp)), (5, .int (iZ al)), (4, .int (iZ st)), (0, .ref h), (1, .int (iZ sy)), (3, .int (iZ wh))]) hx hb dX8_relay_122 hl (by decide) rfl (fun ls hl => ?_)
                    refine lv_aload_n hx hb dX8_relay_124 rfl (lv_at hl 6 rfl) ?_
                    refine lv_iload hx hb dX8_relay_125 (lv_at hl 5 rfl) ?_
                    refine lv_iload hx hb dX8_relay_127 (lv_at hl 3 rfl) ?_
                    refine lv_iload_n hx hb dX8_relay_129 rfl (lv_at hl 7 rfl) ?_
                    refine lv_iload hx hb dX8_relay_130 (lv_at hl 1 rfl) ?_
                    refine lv_iload hx hb dX8_relay_132 (lv_at hl 0 rfl) ?_
                    refine lv_iload hx hb dX8_relay_134 (lv_at hl 2 rfl) ?_
                    refine lv_iconst (v := iZ 2) hx hb dX8_relay_136 (by decide) ?_
                    refine z_irem hx hb (by omega) (by omega) dX8_relay_137 ?_
                    refine mq_ci (As := [.int (iZ st), .int (iZ pp), .int (iZ sy), .int (iZ (sh / 8)), .int (iZ ((sh / 2) % 4)), .int (iZ (sh % 2))]) (rest := []) ⟨hx, hb, hml, hown, hts⟩ hK hP (C_behind l D C h a M4 st pp sy (sh / 8) ((sh / 2) % 4) (sh % 2) hI_M4 (by omega) (by omega) (by omega) (by omega) (by omega) (by omega)) (cwV 6 hts gX8_relay_X8_behind rfl rfl rfl (by decide +kernel) ⟨Nat.le_of_ble_eq_true rfl, Nat.le_of_ble_eq_true rfl⟩) rfl rfl hl.1 (Nat.le_of_ble_eq_true rfl) ⟨Nat.le_of_ble_eq_true rfl, Nat.le_of_ble_eq_true rfl⟩ dX8_relay_138 ?_
                    have hbe := s_beh_bd M4 (s_ln M4 pp sy (sh / 8) ((sh / 2) % 4) (sh % 2)) pp st (by omega) (by omega)
                    refine z_nm (fun th hth => ?_)
                    have hth2 : th = s_beh M4 sy st pp sh := hth
                    have hge : st ≤ th := by rw [hth]; exact zor_ge (by omega)
                    have hnb : 0 ≤ M4 24 (Int.toNat th) ∧ M4 24 (Int.toNat th) ≤ 1000000 := hmb _ (by omega) (by omega)
                    refine W.eq (g2 := F0 m 141 ls [.int (iZ th)]) rfl ?_
                    refine lv_istore (lv' := [(10, .int (iZ th)), (9, .int (iZ ((sh / 2) % 4))), (8, .int (iZ (sh / 8))), (7, .int (iZ sh)), (6, .int (iZ pp)), (5, .int (iZ al)), (4, .int (iZ st)), (0, .ref h), (1, .int (iZ sy)), (3, .int (iZ wh))]) hx hb dX8_relay_141 hl (by decide) rfl (fun ls hl => ?_)
                    refine lv_iload hx hb dX8_relay_143 (lv_at hl 0 rfl) ?_
                    refine lv_iload hx hb dX8_relay_145 (lv_at hl 6 rfl) ?_
                    refine z_icmp_eq (x := th) (y := st) (tgt := 201) hx hb (by omega) (by omega) dX8_relay_147 (by decide) (fun c11 => ?_) (fun c11 => ?_)
                    · refine lv_iinc (v := iZ (sh + 1)) (lv' := [(7, .int (iZ (sh + 1))), (10, .int (iZ th)), (9, .int (iZ ((sh / 2) % 4))), (8, .int (iZ (sh / 8))), (6, .int (iZ pp)), (5, .int (iZ al)), (4, .int (iZ st)), (0, .ref h), (1, .int (iZ sy)), (3, .int (iZ wh))]) hx hb dX8_relay_201 hl (k := 3) rfl (iZ_add _ _) (by decide) rfl (fun ls hl => ?_)
                      refine lv_goto (tgt := 92) hx hb dX8_relay_204 (by decide) ?_
                      exact ih92 (sh + 1) ⟨(by show (0 ≤ (sh + 1) ∧ (sh + 1) ≤ 32); omega), (by show s_rsh M4 sy st al pp = zfind (fun q => decide (s_rok M4 sy st pp al q)) (Int.toNat (32 - (sh + 1))) (sh + 1); rw [i4, zfind_step _ 32 _ (by omega)]; refine if_neg (fun h9 => ?_); obtain ⟨h81, h82, h83⟩ := of_decide_eq_true h9; rw [← hth2] at h81 h83; omega)⟩ (by show (32 - (sh + 1)).toNat < (32 - sh).toNat; omega) ls (lv_sub hl [0, 4, 5, 6, 7, 8, 9] rfl)
                    · refine lv_iload hx hb dX8_relay_150 (lv_at hl 1 rfl) ?_
                      refine z_if_gt (x := ((sh / 2) % 4)) (tgt := 160) hx hb (by omega) dX8_relay_152 (by decide) (fun c12 => ?_) (fun c12 => ?_)
                      · refine lv_aload_n hx hb dX8_relay_160 rfl (lv_at hl 7 rfl) ?_
                        refine mq_get hx hb hts hin hown hK hP 24 (by decide) (hts (.fieldLink RX8 60 "WordFletchersModel" "needed" "[I") (List.mem_cons_of_mem _ (List.mem_append_left _ (List.mem_append_left _ (List.mem_of_getElem? (i := 1) rfl))))) rfl dX8_relay_161 ?_
                        refine lv_iload hx hb dX8_relay_164 (lv_at hl 0 rfl) ?_
                        refine mq_iald hx hb hK hP 24 17 (n := 64) rfl (by decide) (Int.toNat th) rfl (by omega) dX8_relay_166 ?_
                        refine W.eq (g2 := F0 m 167 ls [.int (iZ (M4 24 (Int.toNat th)))]) rfl ?_
                        refine lv_iload hx hb dX8_relay_167 (lv_at hl 5 rfl) ?_
                        refine lv_iconst (v := iZ 1) hx hb dX8_relay_169 (by decide) ?_
                        refine z_isub hx hb dX8_relay_170 ?_
                        refine z_icmp_ne (x := (M4 24 (Int.toNat th))) (y := (al - 1)) (tgt := 201) hx hb (by omega) (by omega) dX8_relay_171 (by decide) (fun c13 => ?_) (fun c13 => ?_)
                        · refine lv_iinc (v := iZ (sh + 1)) (lv' := [(7, .int (iZ (sh + 1))), (10, .int (iZ th)), (9, .int (iZ ((sh / 2) % 4))), (8, .int (iZ (sh / 8))), (6, .int (iZ pp)), (5, .int (iZ al)), (4, .int (iZ st)), (0, .ref h), (1, .int (iZ sy)), (3, .int (iZ wh))]) hx hb dX8_relay_201 hl (k := 3) rfl (iZ_add _ _) (by decide) rfl (fun ls hl => ?_)
                          refine lv_goto (tgt := 92) hx hb dX8_relay_204 (by decide) ?_
                          exact ih92 (sh + 1) ⟨(by show (0 ≤ (sh + 1) ∧ (sh + 1) ≤ 32); omega), (by show s_rsh M4 sy st al pp = zfind (fun q => decide (s_rok M4 sy st pp al q)) (Int.toNat (32 - (sh + 1))) (sh + 1); rw [i4, zfind_step _ 32 _ (by omega)]; refine if_neg (fun h9 => ?_); obtain ⟨h81, h82, h83⟩ := of_decide_eq_true h9; rw [← hth2] at h81 h83; omega)⟩ (by show (32 - (sh + 1)).toNat < (32 - sh).toNat; omega) ls (lv_sub hl [0, 4, 5, 6, 7, 8, 9] rfl)
                        · refine lv_iload_n hx hb dX8_relay_174 rfl (lv_at hl 9 rfl) ?_
                          refine lv_iconst (v := iZ 1) hx hb dX8_relay_175 (by decide) ?_
                          have K16 : ∀ (v15 : Int), (v15 = (if wh = 1 then pp else (((100 * (sh / 8)) + (10 * ((sh / 2) % 4))) + (sh % 2)))) → ∀ ls : Array Slot, lv_has ls 11 [] → W p l e ((headSpec wsX8_relay ({ frames := 4, cells := 0, slots := 0, locals := 106 })).room) s m (([.ref h, .int (iZ sy), .int (iZ to), .int (iZ wh)] : List Value).toArray) below meth c H locs 0 0 (MQ below (va_Qi (fun r (_ : Unit) => r = iZ (s_relay M sy to wh)) (fun _ t => mOk D C h a (f_relay M sy to wh) t) (mA h a)) (([.ref h, .int (iZ sy), .int (iZ to), .int (iZ wh)] : List Value).toArray) s 0 0 (mA h a)) (F0 m 200 ls [.int (iZ v15)]) := by
                            intro v15 hv15 ls hl
                            exact mq_retM hx hb hK hP hS hr rfl (by first | (unfold s_relay; rw [if_pos (by omega)]; done) | (rw [e8]; unfold s_rel4; first | (rw [if_pos (by omega)]; done) | (rw [if_neg (by omega), if_pos (by omega)]; done) | (rw [if_neg (by omega), if_neg (by omega), if_pos (by omega)]; done) | (have r1 := s_rsh_at i4 (by omega) ⟨by rw [← hth2]; omega, by omega, by rw [← hth2]; omega⟩; have r2 := s_rpe_at i2 (by omega) (by omega) r1 (by omega); rw [if_neg (by omega), if_neg (by omega), if_neg (by omega), r2, if_neg (by omega), r1]; unfold s_code; omega) | (rcases r9 with r9 | r9 <;> first | (rw [if_neg (by omega), if_neg (by omega), if_pos (by omega)]; done) | (rw [if_neg (by omega), if_neg (by omega), if_neg (by omega), if_pos r9]; done) | (exfalso; omega)) | omega) | omega) (by unfold f_relay; first | (rw [if_pos (by omega)]; done) | (rw [if_neg (by omega), hK9]; done) | omega) dX8_relay_200 hlocks
                          refine z_icmp_ne (x := wh) (y := 1) (tgt := 184) hx hb (by omega) (by omega) dX8_relay_176 (by decide) (fun c14 => ?_) (fun c14 => ?_)
                          · refine lv_bipush (v := iZ 100) hx hb dX8_relay_184 (by decide) ?_
                            refine lv_iload hx hb dX8_relay_186 (lv_at hl 2 rfl) ?_
                            refine z_imul hx hb dX8_relay_188 ?_
                            refine W.eq (g2 := F0 m 189 ls [.int (iZ (100 * (sh / 8)))]) rfl ?_
                            refine lv_bipush (v := iZ 10) hx hb dX8_relay_189 (by decide) ?_
                            refine lv_iload hx hb dX8_relay_191 (lv_at hl 1 rfl) ?_
                            refine z_imul hx hb dX8_relay_193 ?_
                            refine z_iadd hx hb dX8_relay_194 ?_
                            refine lv_iload hx hb dX8_relay_195 (lv_at hl 3 rfl) ?_
                            refine lv_iconst (v := iZ 2) hx hb dX8_relay_197 (by decide) ?_
                            refine z_irem hx hb (by omega) (by omega) dX8_relay_198 ?_
                            refine z_iadd hx hb dX8_relay_199 ?_
                            exact K16 (((100 * (sh / 8)) + (10 * ((sh / 2) % 4))) + (sh % 2)) (by first | rfl | (rw [if_neg c14]; done) | omega | (subst_vars; first | rfl | (rw [if_neg c14]; done) | omega)) ls (lv_sub hl [] rfl)
                          · refine lv_iload hx hb dX8_relay_179 (lv_at hl 4 rfl) ?_
                            refine lv_goto (tgt := 200) hx hb dX8_relay_181 (by decide) ?_
                            exact K16 pp (by first | rfl | (rw [if_pos c14]; done) | omega | (subst_vars; first | rfl | (rw [if_pos c14]; done) | omega)) ls (lv_sub hl [] rfl)
                      · refine lv_iload hx hb dX8_relay_155 (lv_at hl 2 rfl) ?_
                        refine W.eq (g2 := F0 m 157 ls [.int (iZ (sh / 8))]) rfl ?_
                        refine z_if_ne (x := (sh / 8)) (tgt := 201) hx hb (by omega) dX8_relay_157 (by decide) (fun c17 => ?_) (fun c17 => ?_)
                        · refine lv_iinc (v := iZ (sh + 1)) (lv' := [(7, .int (iZ (sh + 1))), (10, .int (iZ th)), (9, .int (iZ ((sh / 2) % 4))), (8, .int (iZ (sh / 8))), (6, .int (iZ pp)), (5, .int (iZ al)), (4, .int (iZ st)), (0, .ref h), (1, .int (iZ sy)), (3, .int (iZ wh))]) hx hb dX8_relay_201 hl (k := 3) rfl (iZ_add _ _) (by decide) rfl (fun ls hl => ?_)
                          refine lv_goto (tgt := 92) hx hb dX8_relay_204 (by decide) ?_
                          exact ih92 (sh + 1) ⟨(by show (0 ≤ (sh + 1) ∧ (sh + 1) ≤ 32); omega), (by show s_rsh M4 sy st al pp = zfind (fun q => decide (s_rok M4 sy st pp al q)) (Int.toNat (32 - (sh + 1))) (sh + 1); rw [i4, zfind_step _ 32 _ (by omega)]; refine if_neg (fun h9 => ?_); obtain ⟨h81, h82, h83⟩ := of_decide_eq_true h9; rw [← hth2] at h81 h83; omega)⟩ (by show (32 - (sh + 1)).toNat < (32 - sh).toNat; omega) ls (lv_sub hl [0, 4, 5, 6, 7, 8, 9] rfl)
                        · refine lv_aload_n hx hb dX8_relay_160 rfl (lv_at hl 7 rfl) ?_
                          refine mq_get hx hb hts hin hown hK hP 24 (by decide) (hts (.fieldLink RX8 60 "WordFletchersModel" "needed" "[I") (List.mem_cons_of_mem _ (List.mem_append_left _ (List.mem_append_left _ (List.mem_of_getElem? (i := 1) rfl))))) rfl dX8_relay_161 ?_
                          refine lv_iload hx hb dX8_relay_164 (lv_at hl 0 rfl) ?_
                          refine mq_iald hx hb hK hP 24 17 (n := 64) rfl (by decide) (Int.toNat th) rfl (by omega) dX8_relay_166 ?_
                          refine lv_iload hx hb dX8_relay_167 (lv_at hl 5 rfl) ?_
                          refine lv_iconst (v := iZ 1) hx hb dX8_relay_169 (by decide) ?_
                          refine z_isub hx hb dX8_relay_170 ?_
                          refine z_icmp_ne (x := (M4 24 (Int.toNat th))) (y := (al - 1)) (tgt := 201) hx hb (by omega) (by omega) dX8_relay_171 (by decide) (fun c18 => ?_) (fun c18 => ?_)
                          · refine lv_iinc (v := iZ (sh + 1)) (lv' := [(7, .int (iZ (sh + 1))), (10, .int (iZ th)), (9, .int (iZ ((sh / 2) % 4))), (8, .int (iZ (sh / 8))), (6, .int (iZ pp)), (5, .int (iZ al)), (4, .int (iZ st)), (0, .ref h), (1, .int (iZ sy)), (3, .int (iZ wh))]) hx hb dX8_relay_201 hl (k := 3) rfl (iZ_add _ _) (by decide) rfl (fun ls hl => ?_)
                            refine W.eq (g2 := F0 m 204 ls []) rfl ?_
                            refine lv_goto (tgt := 92) hx hb dX8_relay_204 (by decide) ?_
                            exact ih92 (sh + 1) ⟨(by show (0 ≤ (sh + 1) ∧ (sh + 1) ≤ 32); omega), (by show s_rsh M4 sy st al pp = zfind (fun q => decide (s_rok M4 sy st pp al q)) (Int.toNat (32 - (sh + 1))) (sh + 1); rw [i4, zfind_step _ 32 _ (by omega)]; refine if_neg (fun h9 => ?_); obtain ⟨h81, h82, h83⟩ := of_decide_eq_true h9; rw [← hth2] at h81 h83; omega)⟩ (by show (32 - (sh + 1)).toNat < (32 - sh).toNat; omega) ls (lv_sub hl [0, 4, 5, 6, 7, 8, 9] rfl)
                          · refine lv_iload_n hx hb dX8_relay_174 rfl (lv_at hl 9 rfl) ?_
                            refine lv_iconst (v := iZ 1) hx hb dX8_relay_175 (by decide) ?_
                            have K21 : ∀ (v20 : Int), (v20 = (if wh = 1 then pp else (((100 * (sh / 8)) + (10 * ((sh / 2) % 4))) + (sh % 2)))) → ∀ ls : Array Slot, lv_has ls 11 [] → W p l e ((headSpec wsX8_relay ({ frames := 4, cells := 0, slots := 0, locals := 106 })).room) s m (([.ref h, .int (iZ sy), .int (iZ to), .int (iZ wh)] : List Value).toArray) below meth c H locs 0 0 (MQ below (va_Qi (fun r (_ : Unit) => r = iZ (s_relay M sy to wh)) (fun _ t => mOk D C h a (f_relay M sy to wh) t) (mA h a)) (([.ref h, .int (iZ sy), .int (iZ to), .int (iZ wh)] : List Value).toArray) s 0 0 (mA h a)) (F0 m 200 ls [.int (iZ v20)]) := by
                              intro v20 hv20 ls hl
                              exact mq_retM hx hb hK hP hS hr rfl (by first | (unfold s_relay; rw [if_pos (by omega)]; done) | (rw [e8]; unfold s_rel4; first | (rw [if_pos (by omega)]; done) | (rw [if_neg (by omega), if_pos (by omega)]; done) | (rw [if_neg (by omega), if_neg (by omega), if_pos (by omega)]; done) | (have r1 := s_rsh_at i4 (by omega) ⟨by rw [← hth2]; omega, by omega, by rw [← hth2]; omega⟩; have r2 := s_rpe_at i2 (by omega) (by omega) r1 (by omega); rw [if_neg (by omega), if_neg (by omega), if_neg (by omega), r2, if_neg (by omega), r1]; unfold s_code; omega) | (rcases r9 with r9 | r9 <;> first | (rw [if_neg (by omega), if_neg (by omega), if_pos (by omega)]; done) | (rw [if_neg (by omega), if_neg (by omega), if_neg (by omega), if_pos r9]; done) | (exfalso; omega)) | omega) | omega) (by unfold f_relay; first | (rw [if_pos (by omega)]; done) | (rw [if_neg (by omega), hK9]; done) | omega) dX8_relay_200 hlocks
                            refine z_icmp_ne (x := wh) (y := 1) (tgt := 184) hx hb (by omega) (by omega) dX8_relay_176 (by decide) (fun c19 => ?_) (fun c19 => ?_)
                            · refine lv_bipush (v := iZ 100) hx hb dX8_relay_184 (by decide) ?_
                              refine lv_iload hx hb dX8_relay_186 (lv_at hl 2 rfl) ?_
                              refine z_imul hx hb dX8_relay_188 ?_
                              refine lv_bipush (v := iZ 10) hx hb dX8_relay_189 (by decide) ?_
                              refine lv_iload hx hb dX8_relay_191 (lv_at hl 1 rfl) ?_
                              refine z_imul hx hb dX8_relay_193 ?_
                              refine z_iadd hx hb dX8_relay_194 ?_
                              refine lv_iload hx hb dX8_relay_195 (lv_at hl 3 rfl) ?_
                              refine W.eq (g2 := F0 m 197 ls [.int (iZ sh), .int (iZ ((100 * (sh / 8)) + (10 * ((sh / 2) % 4))))]) rfl ?_
                              refine lv_iconst (v := iZ 2) hx hb dX8_relay_197 (by decide) ?_
                              refine z_irem hx hb (by omega) (by omega) dX8_relay_198 ?_
                              refine z_iadd hx hb dX8_relay_199 ?_
                              exact K21 (((100 * (sh / 8)) + (10 * ((sh / 2) % 4))) + (sh % 2)) (by first | rfl | (rw [if_neg c19]; done) | omega | (subst_vars; first | rfl | (rw [if_neg c19]; done) | omega)) ls (lv_sub hl [] rfl)
                            · refine lv_iload hx hb dX8_relay_179 (lv_at hl 4 rfl) ?_
                              refine lv_goto (tgt := 200) hx hb dX8_relay_181 (by decide) ?_
                              exact K21 pp (by first | rfl | (rw [if_pos c19]; done) | omega | (subst_vars; first | rfl | (rw [if_pos c19]; done) | omega)) ls (lv_sub hl [] rfl)
          · refine lv_iload hx hb dX8_relay_67 (lv_at hl 0 rfl) ?_
            exact mq_retM hx hb hK hP hS hr rfl (by first | (unfold s_relay; rw [if_pos (by omega)]; done) | (rw [e8]; unfold s_rel4; first | (rw [if_pos (by omega)]; done) | (rw [if_neg (by omega), if_pos (by omega)]; done) | (rw [if_neg (by omega), if_neg (by omega), if_pos (by omega)]; done) | (have r1 := s_rsh_at i4 (by omega) ⟨by rw [← hth2]; omega, by omega, by rw [← hth2]; omega⟩; have r2 := s_rpe_at i2 (by omega) (by omega) r1 (by omega); rw [if_neg (by omega), if_neg (by omega), if_neg (by omega), r2, if_neg (by omega), r1]; unfold s_code; omega) | (rcases r9 with r9 | r9 <;> first | (rw [if_neg (by omega), if_neg (by omega), if_pos (by omega)]; done) | (rw [if_neg (by omega), if_neg (by omega), if_neg (by omega), if_pos r9]; done) | (exfalso; omega)) | omega) | omega) (by unfold f_relay; first | (rw [if_pos (by omega)]; done) | (rw [if_neg (by omega), hK9]; done) | omega) dX8_relay_69 hlocks
        · refine lv_bipush (v := iZ (-9)) hx hb dX8_relay_60 (by decide) ?_
          exact mq_retM hx hb hK hP hS hr rfl (by first | (unfold s_relay; rw [if_pos (by omega)]; done) | (rw [e8]; unfold s_rel4; first | (rw [if_pos (by omega)]; done) | (rw [if_neg (by omega), if_pos (by omega)]; done) | (rw [if_neg (by omega), if_neg (by omega), if_pos (by omega)]; done) | (have r1 := s_rsh_at i4 (by omega) ⟨by rw [← hth2]; omega, by omega, by rw [← hth2]; omega⟩; have r2 := s_rpe_at i2 (by omega) (by omega) r1 (by omega); rw [if_neg (by omega), if_neg (by omega), if_neg (by omega), r2, if_neg (by omega), r1]; unfold s_code; omega) | (rcases r9 with r9 | r9 <;> first | (rw [if_neg (by omega), if_neg (by omega), if_pos (by omega)]; done) | (rw [if_neg (by omega), if_neg (by omega), if_neg (by omega), if_pos r9]; done) | (exfalso; omega)) | omega) | omega) (by unfold f_relay; first | (rw [if_pos (by omega)]; done) | (rw [if_neg (by omega), hK9]; done) | omega) dX8_relay_62 hlocks
      · refine lv_iconst (v := iZ (-1)) hx hb dX8_relay_25 (by decide) ?_
        exact mq_retM hx hb hK hP hS hr rfl (by first | (unfold s_relay; rw [if_pos (by omega)]; done) | (rw [e8]; unfold s_rel4; first | (rw [if_pos (by omega)]; done) | (rw [if_neg (by omega), if_pos (by omega)]; done) | (rw [if_neg (by omega), if_neg (by omega), if_pos (by omega)]; done) | (have r1 := s_rsh_at i4 (by omega) ⟨by rw [← hth2]; omega, by omega, by rw [← hth2]; omega⟩; have r2 := s_rpe_at i2 (by omega) (by omega) r1 (by omega); rw [if_neg (by omega), if_neg (by omega), if_neg (by omega), r2, if_neg (by omega), r1]; unfold s_code; omega) | (rcases r9 with r9 | r9 <;> first | (rw [if_neg (by omega), if_neg (by omega), if_pos (by omega)]; done) | (rw [if_neg (by omega), if_neg (by omega), if_neg (by omega), if_pos r9]; done) | (exfalso; omega)) | omega) | omega) (by unfold f_relay; first | (rw [if_pos (by omega)]; done) | (rw [if_neg (by omega), hK9]; done) | omega) dX8_relay_26 hlocks
