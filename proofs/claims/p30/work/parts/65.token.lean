set_option maxHeartbeats 4000000 in
set_option maxRecDepth 100000 in
theorem C_here (l : Launch) (D : va_G) (C : mC) (h : Nat) (a : Nat → Nat) (M : Nat → Nat → Int) (hT : 0 ≤ M 1 0 ∧ M 1 0 ≤ 120) (hAt : 0 ≤ M 12 0 ∧ M 12 0 ≤ M 1 0) : Met l yX8_here wsX8_here ({ frames := 0, cells := 0, slots := 0, locals := 0 }) (va_Pc [.ref h] (mOk D C h a M)) (vp_Si (fun r => r = iZ (s_ch M (M 12 0)))) 0 0 (fun _ => False) := by
  refine Met.ofW (cc := cX8_here) (maxL := 1) (ret := (some .int)) (by decide) rfl ?_
  intro p e s m args below meth c s₁ B hml hv
  obtain ⟨rfl, hP, hK⟩ := hv
  have hx := B.exec
  have hb := B.bytes
  have hr := B.returns
  have hts := atoms_spec (ws := wsX8_here) B.pre
  have hown : s.vm.findClass RX8 = some m.cls := findClass_of_methodNamed B.named
  have hlocks := B.notSynchronized
  have hin : ∀ w ∈ wsX80, w ∈ wsX8_here := fun _ w_h => (List.mem_cons_of_mem _ (List.mem_append_right _ w_h))
  have hl := lv_entry ([.ref h]) (n := 1) (Nat.le_of_ble_eq_true rfl)
  rw [lg_entry_eq]
  generalize (lg_sl ([.ref h]) ++ List.replicate (1 - (lg_sl ([.ref h])).length) Slot.unset).toArray = ls at hl ⊢
  replace hl : lv_has ls 1 [(0, .ref h)] := hl
  refine lv_aload_n hx hb dX8_here_0 rfl (lv_at hl 0 rfl) ?_
  refine mq_get hx hb hts hin hown hK hP 12 (by decide) (hts (.fieldLink RX8 80 "WordFletchersModel" "at" "I") (List.mem_cons_of_mem _ (List.mem_append_left _ (List.mem_of_getElem? (i := 0) rfl)))) rfl dX8_here_1 ?_
  refine W.eq (g2 := F0 m 4 ls [.int (iZ (M 12 0))]) rfl ?_
  refine lv_aload_n hx hb dX8_here_4 rfl (lv_at hl 0 rfl) ?_
  refine mq_get hx hb hts hin hown hK hP 1 (by decide) (hts (.fieldLink RX8 76 "WordFletchersModel" "typed" "I") (List.mem_cons_of_mem _ (List.mem_append_left _ (List.mem_of_getElem? (i := 1) rfl)))) rfl dX8_here_5 ?_
  have K3 : ∀ (v2 : Int), (v2 = (if (M 1 0) ≤ (M 12 0) then (-9) else ((M 0 (Int.toNat (M 12 0))) % 256))) → ∀ ls : Array Slot, lv_has ls 1 [] → W p l e ((headSpec wsX8_here ({ frames := 0, cells := 0, slots := 0, locals := 0 })).room) s m (([.ref h] : List Value).toArray) below meth c s.heap [] 0 0 (MQ below (vp_Si (fun r => r = iZ (s_ch M (M 12 0)))) (([.ref h] : List Value).toArray) s 0 0 (fun _ => False)) (F0 m 29 ls [.int (iZ v2)]) := by
    intro v2 hv2 ls hl
    refine W.eq (g2 := F0 m 29 ls [.int (iZ v2)]) rfl ?_
    exact mq_ret hx hb hr rfl (by unfold s_ch; omega) dX8_here_29 hlocks rfl
  refine z_icmp_ge (x := (M 12 0)) (y := (M 1 0)) (tgt := 27) hx hb (by omega) (by omega) dX8_here_8 (by decide) (fun c1 => ?_) (fun c1 => ?_)
  · refine lv_bipush (v := iZ (-9)) hx hb dX8_here_27 (by decide) ?_
    exact K3 (-9) (by first | rfl | (rw [if_pos c1]; done) | omega | (subst_vars; first | rfl | (rw [if_pos c1]; done) | omega)) ls (lv_sub hl [] rfl)
  · refine lv_aload_n hx hb dX8_here_11 rfl (lv_at hl 0 rfl) ?_
    refine mq_get hx hb hts hin hown hK hP 0 (by decide) (hts (.fieldLink RX8 7 "WordFletchersModel" "text" "[B") (List.mem_cons_of_mem _ (List.mem_append_left _ (List.mem_of_getElem? (i := 2) rfl)))) rfl dX8_here_12 ?_
    refine lv_aload_n hx hb dX8_here_15 rfl (lv_at hl 0 rfl) ?_
    refine mq_get hx hb hts hin hown hK hP 12 (by decide) (hts (.fieldLink RX8 80 "WordFletchersModel" "at" "I") (List.mem_cons_of_mem _ (List.mem_append_left _ (List.mem_of_getElem? (i := 0) rfl)))) rfl dX8_here_16 ?_
    refine mq_bald hx hb hK hP 0 1 (n := 120) rfl (by decide) (Int.toNat (M 12 0)) rfl (by omega) dX8_here_19 ?_
    refine lv_sipush (v := iZ 255) hx hb dX8_here_20 (by decide) ?_
    refine z_iand255 hx hb dX8_here_23 ?_
    refine lv_goto (tgt := 29) hx hb dX8_here_24 (by decide) ?_
    exact K3 ((M 0 (Int.toNat (M 12 0))) % 256) (by first | rfl | (rw [if_neg c1]; done) | omega | (subst_vars; first | rfl | (rw [if_neg c1]; done) | omega)) ls (lv_sub hl [] rfl)
set_option maxHeartbeats 4000000 in
set_option maxRecDepth 100000 in
theorem C_step (l : Launch) (D : va_G) (C : mC) (h : Nat) (a : Nat → Nat) (M : Nat → Nat → Int) (hT : 0 ≤ M 1 0 ∧ M 1 0 ≤ 120) (hAt : 0 ≤ M 12 0 ∧ M 12 0 ≤ M 1 0) (hN : va_D (fun _ => True) (mW C h a M)) : Met l yX8_step wsX8_step ({ frames := 1, cells := 0, slots := 0, locals := 22 }) (va_Pc [.ref h] (mOk D C h a M)) (va_Qv (fun (_ : Unit) => True) (fun _ t => mOk D C h a (f_step M) t) (mA h a)) 0 0 (mA h a) := by
  refine Met.ofW (cc := cX8_step) (maxL := 2) (ret := none) (by decide) rfl ?_
  intro p e s m args below meth c s₁ B hml hv
  obtain ⟨rfl, hP, hK⟩ := hv
  have hx := B.exec
  have hb := B.bytes
  have hr := B.returns
  have hts := atoms_spec (ws := wsX8_step) B.pre
  have hown : s.vm.findClass RX8 = some m.cls := findClass_of_methodNamed B.named
  have hlocks := B.notSynchronized
  have hin : ∀ w ∈ wsX80, w ∈ wsX8_step := fun _ w_h => (List.mem_cons_of_mem _ (List.mem_append_right _ w_h))
  have hl := lv_entry ([.ref h]) (n := 2) (Nat.le_of_ble_eq_true rfl)
  rw [lg_entry_eq]
  generalize (lg_sl ([.ref h]) ++ List.replicate (2 - (lg_sl ([.ref h])).length) Slot.unset).toArray = ls at hl ⊢
  replace hl : lv_has ls 2 [(0, .ref h)] := hl
  have hD : va_D (mA h a) (mW C h a M) := mD_own hN
  have hA : ∀ q, mA h a q → mA h a q := fun _ h9 => h9
  generalize hHe : s.heap = H at hP ⊢
  have hS : va_S (mA h a) s.heap H [] := by rw [hHe]; exact va_S.rf
  generalize hlo : ([] : List Loc) = locs at hS ⊢
  clear hHe hlo
  replace hl : lv_has ls 2 [(0, .ref h)] := lv_sub hl [0] rfl
  replace hP := And.intro hP hS
  clear hS
  revert ls
  revert hP
  revert H locs
  refine z_loopH (σ := (Nat → Nat → Int)) (fun x9 => (M 12 0 ≤ x9 12 0 ∧ x9 12 0 ≤ M 1 0) ∧ (x9 = m4 M (x9 12 0) (M 13 0) (M 15 0) (M 14 0)) ∧ (z_run (fun q => decide (s_ch M q = 32)) (Int.toNat (121 - M 12 0)) (M 12 0) = z_run (fun q => decide (s_ch M q = 32)) (Int.toNat (121 - x9 12 0)) (x9 12 0))) (fun x9 H9 locs9 => va_P D vwCl (mW C h a x9) H9 ∧ va_S (mA h a) s.heap H9 locs9) (fun x9 => [(0, .ref h)]) 2 (fun x9 => (121 - x9 12 0).toNat) M ⟨(by show M 12 0 ≤ M 12 0 ∧ M 12 0 ≤ M 1 0; omega), (by show M = m4 M (M 12 0) (M 13 0) (M 15 0) (M 14 0); exact m4_id M), (by show z_run (fun q => decide (s_ch M q = 32)) (Int.toNat (121 - M 12 0)) (M 12 0) = z_run (fun q => decide (s_ch M q = 32)) (Int.toNat (121 - M 12 0)) (M 12 0); rfl)⟩ ?_
  rintro Ma hI9 ih0 H locs hPS ls hl
  have hP : va_P D vwCl (mW C h a Ma) H := hPS.1
  have hS : va_S (mA h a) s.heap H locs := hPS.2
  clear hPS
  have hD : va_D (mA h a) (mW C h a Ma) := mD_re hD
  obtain ⟨k1, k2, k3⟩ := hI9
  replace k1 : M 12 0 ≤ Ma 12 0 ∧ Ma 12 0 ≤ M 1 0 := k1
  replace k2 : Ma = m4 M (Ma 12 0) (M 13 0) (M 15 0) (M 14 0) := k2
  replace k3 : z_run (fun q => decide (s_ch M q = 32)) (Int.toNat (121 - M 12 0)) (M 12 0) = z_run (fun q => decide (s_ch M q = 32)) (Int.toNat (121 - Ma 12 0)) (Ma 12 0) := k3
  replace hl : lv_has ls 2 [(0, .ref h)] := hl
  have qc : ∀ i, s_ch Ma i = s_ch M i := fun i => by unfold s_ch; rw [k2]; rfl
  have qch := qc (Ma 12 0)
  have hlt := s_ch_lt M (Ma 12 0)
  have t1 : Ma 1 0 = M 1 0 := by rw [k2]; rfl
  refine lv_aload_n hx hb dX8_step_0 rfl (lv_at hl 0 rfl) ?_
  refine mq_ci (As := []) (rest := []) ⟨hx, hb, hml, hown, hts⟩ hK hP (C_here l D C h a Ma  (by omega) (by omega)) (cwV 0 hts gX8_step_X8_here rfl rfl rfl (by decide +kernel) ⟨Nat.le_of_ble_eq_true rfl, Nat.le_of_ble_eq_true rfl⟩) rfl rfl hl.1 (Nat.le_of_ble_eq_true rfl) ⟨Nat.le_of_ble_eq_true rfl, Nat.le_of_ble_eq_true rfl⟩ dX8_step_1 ?_
  have hch := s_ch_bd Ma (Ma 12 0)
  refine lv_bipush (v := iZ 32) hx hb dX8_step_4 (by decide) ?_
  refine z_icmp_ne (x := s_ch Ma (Ma 12 0)) (y := 32) (tgt := 22) hx hb (by omega) (by omega) dX8_step_6 (by decide) (fun c1 => ?_) (fun c1 => ?_)
  · refine W.eq (g2 := F0 m 22 ls []) rfl ?_
    have ka0 : s_a1 M = Ma 12 0 := by unfold s_a1; rw [k3, z_run_step _ 121 _ (by omega)]; exact if_neg (fun h9 => absurd (of_decide_eq_true h9) (by omega))
    obtain ⟨A9, hA9⟩ : ∃ z : Int, z = Ma 12 0 := ⟨_, rfl⟩
    have ka : s_a1 M = A9 := by rw [hA9]; exact ka0
    have kb : 0 ≤ A9 ∧ A9 ≤ M 1 0 := by omega
    refine lv_aload_n hx hb dX8_step_22 rfl (lv_at hl 0 rfl) ?_
    refine lv_aload_n hx hb dX8_step_23 rfl (lv_at hl 0 rfl) ?_
    refine mq_get hx hb hts hin hown hK hP 12 (by decide) (hts (.fieldLink RX8 80 "WordFletchersModel" "at" "I") (List.mem_cons_of_mem _ (List.mem_append_left _ (List.mem_of_getElem? (i := 0) rfl)))) rfl dX8_step_24 ?_
    refine mq_put (ty := .int) hx hb hts hin hown hK hP hD hS 13 (by decide) (hts (.fieldLink RX8 87 "WordFletchersModel" "stands" "I") (List.mem_cons_of_mem _ (List.mem_append_left _ (List.mem_of_getElem? (i := 1) rfl)))) rfl (by decide +kernel) rfl rfl (mS_13 C h a _ _) dX8_step_27 (fun H locs hP hD hS => ?_)
    obtain ⟨M3, hM3⟩ : ∃ z : Nat → Nat → Int, z = (mU Ma 13 0 (Ma 12 0)) := ⟨_, rfl⟩
    rw [← hM3] at hP hD
    have w27 : M3 = m4 M A9 A9 (M 15 0) (M 14 0) := by have t := m4_13 M (Ma 12 0) (M 13 0) (M 15 0) (M 14 0) (Ma 12 0); rw [← k2] at t; rw [hM3, hA9]; exact t
    refine lv_aload_n hx hb dX8_step_30 rfl (lv_at hl 0 rfl) ?_
    refine lv_iconst (v := iZ 0) hx hb dX8_step_31 (by decide) ?_
    refine mq_put (ty := .int) hx hb hts hin hown hK hP hD hS 15 (by decide) (hts (.fieldLink RX8 90 "WordFletchersModel" "value" "I") (List.mem_cons_of_mem _ (List.mem_append_left _ (List.mem_of_getElem? (i := 2) rfl)))) rfl (by decide +kernel) rfl rfl (mS_15 C h a _ _) dX8_step_32 (fun H locs hP hD hS => ?_)
    obtain ⟨M4, hM4⟩ : ∃ z : Nat → Nat → Int, z = (mU M3 15 0 0) := ⟨_, rfl⟩
    rw [← hM4] at hP hD
    have w32 : M4 = m4 M A9 A9 0 (M 14 0) := by have t := m4_15 M A9 A9 (M 15 0) (M 14 0) 0; rw [← w27] at t; rw [hM4]; exact t
    have e12 : M4 12 0 = A9 := by rw [w32]; rfl
    have e15 : M4 15 0 = 0 := by rw [w32]; rfl
    have t32 : M4 1 0 = M 1 0 := by rw [w32]; rfl
    have qc32 : ∀ i, s_ch M4 i = s_ch M i := fun i => by unfold s_ch; rw [w32]; rfl
    refine lv_aload_n hx hb dX8_step_35 rfl (lv_at hl 0 rfl) ?_
    refine mq_ci (As := []) (rest := []) ⟨hx, hb, hml, hown, hts⟩ hK hP (C_here l D C h a M4  (by omega) (by omega)) (cwV 0 hts gX8_step_X8_here rfl rfl rfl (by decide +kernel) ⟨Nat.le_of_ble_eq_true rfl, Nat.le_of_ble_eq_true rfl⟩) rfl rfl hl.1 (Nat.le_of_ble_eq_true rfl) ⟨Nat.le_of_ble_eq_true rfl, Nat.le_of_ble_eq_true rfl⟩ dX8_step_36 ?_
    have hch := s_ch_bd M4 (M4 12 0)
    refine z_nm (fun cc hcc => ?_)
    have hc2 : cc = s_ch M A9 := by rw [hcc, e12]; exact qc32 _
    have kc : s_c1 M = cc := by unfold s_c1; rw [ka]; exact hc2.symm
    have hcb := s_ch_bd M A9
    have hclt := s_ch_lt M A9
    refine lv_istore_n (lv' := [(1, .int (iZ cc)), (0, .ref h)]) hx hb dX8_step_39 rfl hl (by decide) rfl (fun ls hl => ?_)
    refine lv_iload_n hx hb dX8_step_40 rfl (lv_at hl 0 rfl) ?_
    refine lv_bipush (v := iZ (-9)) hx hb dX8_step_41 (by decide) ?_
    refine W.eq (g2 := F0 m 43 ls [.int (iZ (-9)), .int (iZ cc)]) rfl ?_
    refine z_icmp_ne (x := cc) (y := (-9)) (tgt := 54) hx hb (by omega) (by omega) dX8_step_43 (by decide) (fun c5 => ?_) (fun c5 => ?_)
    · refine W.eq (g2 := F0 m 54 ls []) rfl ?_
      refine lv_iload_n hx hb dX8_step_54 rfl (lv_at hl 0 rfl) ?_
      refine lv_bipush (v := iZ 48) hx hb dX8_step_55 (by decide) ?_
      refine lv_bipush (v := iZ 57) hx hb dX8_step_57 (by decide) ?_
      refine mq_cs (As := [.int (iZ cc), .int (iZ 48), .int (iZ 57)]) (rest := []) ⟨hx, hb, hml, hown, hts⟩ (C_in l cc 48 57 (by omega) (by omega) (by omega)) (va_cwS 3 hts gX8_step_X8_in rfl rfl rfl (by decide +kernel) ⟨Nat.le_of_ble_eq_true rfl, Nat.le_of_ble_eq_true rfl⟩) rfl rfl hl.1 (Nat.le_of_ble_eq_true rfl) ⟨Nat.le_of_ble_eq_true rfl, Nat.le_of_ble_eq_true rfl⟩ dX8_step_59 ?_
      refine z_ifb_eq (P := (48 ≤ cc ∧ cc ≤ 57)) (tgt := 167) hx hb dX8_step_62 (by decide) (fun c39 => ?_) (fun c39 => ?_)
      · refine lv_iload_n hx hb dX8_step_167 rfl (lv_at hl 0 rfl) ?_
        refine lv_bipush (v := iZ 97) hx hb dX8_step_168 (by decide) ?_
        refine lv_bipush (v := iZ 122) hx hb dX8_step_170 (by decide) ?_
        refine mq_cs (As := [.int (iZ cc), .int (iZ 97), .int (iZ 122)]) (rest := []) ⟨hx, hb, hml, hown, hts⟩ (C_in l cc 97 122 (by omega) (by omega) (by omega)) (va_cwS 3 hts gX8_step_X8_in rfl rfl rfl (by decide +kernel) ⟨Nat.le_of_ble_eq_true rfl, Nat.le_of_ble_eq_true rfl⟩) rfl rfl hl.1 (Nat.le_of_ble_eq_true rfl) ⟨Nat.le_of_ble_eq_true rfl, Nat.le_of_ble_eq_true rfl⟩ dX8_step_172 ?_
        refine z_ifb_eq (P := (97 ≤ cc ∧ cc ≤ 122)) (tgt := 235) hx hb dX8_step_175 (by decide) (fun c71 => ?_) (fun c71 => ?_)
        · refine lv_aload_n hx hb dX8_step_235 rfl (lv_at hl 1 rfl) ?_
          refine lv_dup hx hb dX8_step_236 rfl ?_
          refine mq_get hx hb hts hin hown hK hP 12 (by decide) (hts (.fieldLink RX8 80 "WordFletchersModel" "at" "I") (List.mem_cons_of_mem _ (List.mem_append_left _ (List.mem_of_getElem? (i := 0) rfl)))) rfl dX8_step_237 ?_
          refine lv_iconst (v := iZ 1) hx hb dX8_step_240 (by decide) ?_
          refine z_iadd hx hb dX8_step_241 ?_
          refine mq_put (ty := .int) hx hb hts hin hown hK hP hD hS 12 (by decide) (hts (.fieldLink RX8 80 "WordFletchersModel" "at" "I") (List.mem_cons_of_mem _ (List.mem_append_left _ (List.mem_of_getElem? (i := 0) rfl)))) rfl (by decide +kernel) rfl rfl (mS_12 C h a _ _) dX8_step_242 (fun H locs hP hD hS => ?_)
          obtain ⟨M85, hM85⟩ : ∃ z : Nat → Nat → Int, z = (mU M4 12 0 ((M4 12 0) + 1)) := ⟨_, rfl⟩
          rw [← hM85] at hP hD
          have w242 : M85 = m4 M (A9 + 1) A9 0 (M 14 0) := by have t := m4_12 M A9 A9 0 (M 14 0) (A9 + 1); rw [← w32] at t; rw [hM85, e12]; exact t
          refine lv_aload_n hx hb dX8_step_245 rfl (lv_at hl 1 rfl) ?_
          refine lv_iload_n hx hb dX8_step_246 rfl (lv_at hl 0 rfl) ?_
          refine lv_bipush (v := iZ 59) hx hb dX8_step_247 (by decide) ?_
          have K88 : ∀ (v87 : Int), (v87 = (if cc = 59 then 3 else 5)) → ∀ ls : Array Slot, lv_has ls 2 [] → W p l e ((headSpec wsX8_step ({ frames := 1, cells := 0, slots := 0, locals := 22 })).room) s m (([.ref h] : List Value).toArray) below meth c H locs 0 0 (MQ below (va_Qv (fun (_ : Unit) => True) (fun _ t => mOk D C h a (f_step M) t) (mA h a)) (([.ref h] : List Value).toArray) s 0 0 (mA h a)) (F0 m 257 ls [.int (iZ v87), .ref h]) := by
            intro v87 hv87 ls hl
            refine mq_put (ty := .int) hx hb hts hin hown hK hP hD hS 14 (by decide) (hts (.fieldLink RX8 93 "WordFletchersModel" "sort" "I") (List.mem_cons_of_mem _ (List.mem_append_left _ (List.mem_of_getElem? (i := 3) rfl)))) rfl (by decide +kernel) rfl rfl (mS_14 C h a _ _) dX8_step_257 (fun H locs hP hD hS => ?_)
            obtain ⟨M89, hM89⟩ : ∃ z : Nat → Nat → Int, z = (mU M85 14 0 v87) := ⟨_, rfl⟩
            rw [← hM89] at hP hD
            have w257 : M89 = m4 M (A9 + 1) A9 0 (M89 14 0) := by have t := m4_14 M (A9 + 1) A9 0 (M 14 0) (M89 14 0); rw [← w242] at t; rw [← t, hM89, mU_eq]
            have e14z : M89 14 0 = (if cc = 59 then 3 else 5) := by rw [hM89, mU_eq]; omega
            exact mq_retV hx hb hK hP hS hr (by unfold f_step; rw [kc, ka]; first | (rw [if_pos (by omega)]; exact w48) | (rw [if_neg (by omega), if_pos (by omega), ra, rv, ← e14]; exact w161) | (rw [if_neg (by omega), if_neg (by omega), if_pos (by omega), rl, ← e15l]; exact w229) | (rw [if_neg (by omega), if_neg (by omega), if_neg (by omega), ← e14z]; exact w257) | omega) dX8_step_260 hlocks
          refine z_icmp_ne (x := cc) (y := 59) (tgt := 256) hx hb (by omega) (by omega) dX8_step_249 (by decide) (fun c86 => ?_) (fun c86 => ?_)
          · refine W.eq (g2 := F0 m 256 ls [.ref h]) rfl ?_
            refine lv_iconst (v := iZ 5) hx hb dX8_step_256 (by decide) ?_
            exact K88 5 (by first | rfl | (rw [if_neg c86]; done) | omega | (subst_vars; first | rfl | (rw [if_neg c86]; done) | omega)) ls (lv_sub hl [] rfl)
          · refine lv_iconst (v := iZ 3) hx hb dX8_step_252 (by decide) ?_
            refine lv_goto (tgt := 257) hx hb dX8_step_253 (by decide) ?_
            exact K88 3 (by first | rfl | (rw [if_pos c86]; done) | omega | (subst_vars; first | rfl | (rw [if_pos c86]; done) | omega)) ls (lv_sub hl [] rfl)
        · replace hl : lv_has ls 2 [(1, .int (iZ cc)), (0, .ref h)] := lv_sub hl [0, 1] rfl
          replace hP := And.intro hP hS
          clear hS
          revert ls
          revert hP
          revert H locs
          refine z_loopH (σ := (Nat → Nat → Int)) (fun x9 => (A9 ≤ x9 12 0 ∧ x9 12 0 ≤ M 1 0) ∧ (x9 = m4 M (x9 12 0) A9 0 (M 14 0)) ∧ (z_run (fun q => decide (97 ≤ s_ch M q ∧ s_ch M q ≤ 122)) (Int.toNat (121 - A9)) A9 = z_run (fun q => decide (97 ≤ s_ch M q ∧ s_ch M q ≤ 122)) (Int.toNat (121 - x9 12 0)) (x9 12 0))) (fun x9 H9 locs9 => va_P D vwCl (mW C h a x9) H9 ∧ va_S (mA h a) s.heap H9 locs9) (fun x9 => [(1, .int (iZ cc)), (0, .ref h)]) 2 (fun x9 => (121 - x9 12 0).toNat) M4 ⟨(by show A9 ≤ M4 12 0 ∧ M4 12 0 ≤ M 1 0; omega), (by show M4 = m4 M (M4 12 0) A9 0 (M 14 0); rw [e12]; exact w32), (by show z_run (fun q => decide (97 ≤ s_ch M q ∧ s_ch M q ≤ 122)) (Int.toNat (121 - A9)) A9 = z_run (fun q => decide (97 ≤ s_ch M q ∧ s_ch M q ≤ 122)) (Int.toNat (121 - M4 12 0)) (M4 12 0); rw [e12])⟩ ?_
          rintro Mc hI9 ih178 H locs hPS ls hl
          have hP : va_P D vwCl (mW C h a Mc) H := hPS.1
          have hS : va_S (mA h a) s.heap H locs := hPS.2
          clear hPS
          have hD : va_D (mA h a) (mW C h a Mc) := mD_re hD
          obtain ⟨l1, l2, l3⟩ := hI9
          replace l1 : A9 ≤ Mc 12 0 ∧ Mc 12 0 ≤ M 1 0 := l1
          replace l2 : Mc = m4 M (Mc 12 0) A9 0 (M 14 0) := l2
          replace l3 : z_run (fun q => decide (97 ≤ s_ch M q ∧ s_ch M q ≤ 122)) (Int.toNat (121 - A9)) A9 = z_run (fun q => decide (97 ≤ s_ch M q ∧ s_ch M q ≤ 122)) (Int.toNat (121 - Mc 12 0)) (Mc 12 0) := l3
          replace hl : lv_has ls 2 [(1, .int (iZ cc)), (0, .ref h)] := hl
          have qcc : ∀ i, s_ch Mc i = s_ch M i := fun i => by unfold s_ch; rw [l2]; rfl
          have qchc := qcc (Mc 12 0)
          have hltc := s_ch_lt M (Mc 12 0)
          have t1 : Mc 1 0 = M 1 0 := by rw [l2]; rfl
          have e13c : Mc 13 0 = A9 := by rw [l2]; rfl
          refine lv_aload_n hx hb dX8_step_178 rfl (lv_at hl 1 rfl) ?_
          refine mq_ci (As := []) (rest := []) ⟨hx, hb, hml, hown, hts⟩ hK hP (C_here l D C h a Mc  (by omega) (by omega)) (cwV 0 hts gX8_step_X8_here rfl rfl rfl (by decide +kernel) ⟨Nat.le_of_ble_eq_true rfl, Nat.le_of_ble_eq_true rfl⟩) rfl rfl hl.1 (Nat.le_of_ble_eq_true rfl) ⟨Nat.le_of_ble_eq_true rfl, Nat.le_of_ble_eq_true rfl⟩ dX8_step_179 ?_
          have hch := s_ch_bd Mc (Mc 12 0)
          refine lv_bipush (v := iZ 97) hx hb dX8_step_182 (by decide) ?_
          refine lv_bipush (v := iZ 122) hx hb dX8_step_184 (by decide) ?_
          refine mq_cs (As := [.int (iZ (s_ch Mc (Mc 12 0))), .int (iZ 97), .int (iZ 122)]) (rest := []) ⟨hx, hb, hml, hown, hts⟩ (C_in l (s_ch Mc (Mc 12 0)) 97 122 (by omega) (by omega) (by omega)) (va_cwS 3 hts gX8_step_X8_in rfl rfl rfl (by decide +kernel) ⟨Nat.le_of_ble_eq_true rfl, Nat.le_of_ble_eq_true rfl⟩) rfl rfl hl.1 (Nat.le_of_ble_eq_true rfl) ⟨Nat.le_of_ble_eq_true rfl, Nat.le_of_ble_eq_true rfl⟩ dX8_step_186 ?_
          refine z_ifb_eq (P := (97 ≤ (s_ch Mc (Mc 12 0)) ∧ (s_ch Mc (Mc 12 0)) ≤ 122)) (tgt := 205) hx hb dX8_step_189 (by decide) (fun c90 => ?_) (fun c90 => ?_)
          · have rl : s_a2l M = Mc 12 0 := by unfold s_a2l; rw [ka, l3, z_run_step _ 121 _ (by omega)]; exact if_neg (fun h9 => absurd (of_decide_eq_true h9) (by omega))
            refine lv_aload_n hx hb dX8_step_205 rfl (lv_at hl 1 rfl) ?_
            refine lv_aload_n hx hb dX8_step_206 rfl (lv_at hl 1 rfl) ?_
            refine mq_get hx hb hts hin hown hK hP 12 (by decide) (hts (.fieldLink RX8 80 "WordFletchersModel" "at" "I") (List.mem_cons_of_mem _ (List.mem_append_left _ (List.mem_of_getElem? (i := 0) rfl)))) rfl dX8_step_207 ?_
            refine lv_aload_n hx hb dX8_step_210 rfl (lv_at hl 1 rfl) ?_
            refine mq_get hx hb hts hin hown hK hP 13 (by decide) (hts (.fieldLink RX8 87 "WordFletchersModel" "stands" "I") (List.mem_cons_of_mem _ (List.mem_append_left _ (List.mem_of_getElem? (i := 1) rfl)))) rfl dX8_step_211 ?_
            refine z_isub hx hb dX8_step_214 ?_
            refine W.eq (g2 := F0 m 215 ls [.int (iZ ((Mc 12 0) - (Mc 13 0))), .ref h]) rfl ?_
            refine lv_iconst (v := iZ 1) hx hb dX8_step_215 (by decide) ?_
            have K94 : ∀ (v93 : Int), (v93 = (if ((Mc 12 0) - (Mc 13 0)) = 1 then cc else 0)) → ∀ ls : Array Slot, lv_has ls 2 [(0, .ref h)] → W p l e ((headSpec wsX8_step ({ frames := 1, cells := 0, slots := 0, locals := 22 })).room) s m (([.ref h] : List Value).toArray) below meth c H locs 0 0 (MQ below (va_Qv (fun (_ : Unit) => True) (fun _ t => mOk D C h a (f_step M) t) (mA h a)) (([.ref h] : List Value).toArray) s 0 0 (mA h a)) (F0 m 224 ls [.int (iZ v93), .ref h]) := by
              intro v93 hv93 ls hl
              refine mq_put (ty := .int) hx hb hts hin hown hK hP hD hS 15 (by decide) (hts (.fieldLink RX8 90 "WordFletchersModel" "value" "I") (List.mem_cons_of_mem _ (List.mem_append_left _ (List.mem_of_getElem? (i := 2) rfl)))) rfl (by decide +kernel) rfl rfl (mS_15 C h a _ _) dX8_step_224 (fun H locs hP hD hS => ?_)
              obtain ⟨M95, hM95⟩ : ∃ z : Nat → Nat → Int, z = (mU Mc 15 0 v93) := ⟨_, rfl⟩
              rw [← hM95] at hP hD
              have w224 : M95 = m4 M (Mc 12 0) A9 (M95 15 0) (M 14 0) := by have t := m4_15 M (Mc 12 0) A9 0 (M 14 0) (M95 15 0); rw [← l2] at t; rw [← t, hM95, mU_eq]
              have e15l : M95 15 0 = (if Mc 12 0 - A9 = 1 then cc else 0) := by rw [hM95, mU_eq]; omega
              refine lv_aload_n hx hb dX8_step_227 rfl (lv_at hl 0 rfl) ?_
              refine lv_iconst (v := iZ 1) hx hb dX8_step_228 (by decide) ?_
              refine mq_put (ty := .int) hx hb hts hin hown hK hP hD hS 14 (by decide) (hts (.fieldLink RX8 93 "WordFletchersModel" "sort" "I") (List.mem_cons_of_mem _ (List.mem_append_left _ (List.mem_of_getElem? (i := 3) rfl)))) rfl (by decide +kernel) rfl rfl (mS_14 C h a _ _) dX8_step_229 (fun H locs hP hD hS => ?_)
              obtain ⟨M96, hM96⟩ : ∃ z : Nat → Nat → Int, z = (mU M95 14 0 1) := ⟨_, rfl⟩
              rw [← hM96] at hP hD
              have w229 : M96 = m4 M (Mc 12 0) A9 (M95 15 0) 1 := by have t := m4_14 M (Mc 12 0) A9 (M95 15 0) (M 14 0) 1; rw [← w224] at t; rw [hM96]; exact t
              refine lv_goto (tgt := 260) hx hb dX8_step_232 (by decide) ?_
              exact mq_retV hx hb hK hP hS hr (by unfold f_step; rw [kc, ka]; first | (rw [if_pos (by omega)]; exact w48) | (rw [if_neg (by omega), if_pos (by omega), ra, rv, ← e14]; exact w161) | (rw [if_neg (by omega), if_neg (by omega), if_pos (by omega), rl, ← e15l]; exact w229) | (rw [if_neg (by omega), if_neg (by omega), if_neg (by omega), ← e14z]; exact w257) | omega) dX8_step_260 hlocks
            refine z_icmp_ne (x := ((Mc 12 0) - (Mc 13 0))) (y := 1) (tgt := 223) hx hb (by omega) (by omega) dX8_step_216 (by decide) (fun c92 => ?_) (fun c92 => ?_)
            · refine lv_iconst (v := iZ 0) hx hb dX8_step_223 (by decide) ?_
              exact K94 0 (by first | rfl | (rw [if_neg c92]; done) | omega | (subst_vars; first | rfl | (rw [if_neg c92]; done) | omega)) ls (lv_sub hl [1] rfl)
            · refine lv_iload_n hx hb dX8_step_219 rfl (lv_at hl 0 rfl) ?_
              refine lv_goto (tgt := 224) hx hb dX8_step_220 (by decide) ?_
              exact K94 cc (by first | rfl | (rw [if_pos c92]; done) | omega | (subst_vars; first | rfl | (rw [if_pos c92]; done) | omega)) ls (lv_sub hl [1] rfl)
          · refine lv_aload_n hx hb dX8_step_192 rfl (lv_at hl 1 rfl) ?_
            refine W.eq (g2 := F0 m 193 ls [.ref h]) rfl ?_
            refine lv_dup hx hb dX8_step_193 rfl ?_
            refine mq_get hx hb hts hin hown hK hP 12 (by decide) (hts (.fieldLink RX8 80 "WordFletchersModel" "at" "I") (List.mem_cons_of_mem _ (List.mem_append_left _ (List.mem_of_getElem? (i := 0) rfl)))) rfl dX8_step_194 ?_
            refine lv_iconst (v := iZ 1) hx hb dX8_step_197 (by decide) ?_
            refine z_iadd hx hb dX8_step_198 ?_
            refine mq_put (ty := .int) hx hb hts hin hown hK hP hD hS 12 (by decide) (hts (.fieldLink RX8 80 "WordFletchersModel" "at" "I") (List.mem_cons_of_mem _ (List.mem_append_left _ (List.mem_of_getElem? (i := 0) rfl)))) rfl (by decide +kernel) rfl rfl (mS_12 C h a _ _) dX8_step_199 (fun H locs hP hD hS => ?_)
            obtain ⟨M97, hM97⟩ : ∃ z : Nat → Nat → Int, z = (mU Mc 12 0 ((Mc 12 0) + 1)) := ⟨_, rfl⟩
            rw [← hM97] at hP hD
            have w199 : M97 = m4 M (Mc 12 0 + 1) A9 0 (M 14 0) := by have t := m4_12 M (Mc 12 0) A9 0 (M 14 0) (Mc 12 0 + 1); rw [← l2] at t; rw [hM97]; exact t
            have e12l : M97 12 0 = Mc 12 0 + 1 := by rw [w199]; rfl
            refine lv_goto (tgt := 178) hx hb dX8_step_202 (by decide) ?_
            exact ih178 M97 ⟨(by show A9 ≤ M97 12 0 ∧ M97 12 0 ≤ M 1 0; omega), (by show M97 = m4 M (M97 12 0) A9 0 (M 14 0); rw [e12l]; exact w199), (by show z_run (fun q => decide (97 ≤ s_ch M q ∧ s_ch M q ≤ 122)) (Int.toNat (121 - A9)) A9 = z_run (fun q => decide (97 ≤ s_ch M q ∧ s_ch M q ≤ 122)) (Int.toNat (121 - M97 12 0)) (M97 12 0); rw [l3, z_run_step _ 121 _ (by omega), e12l]; exact if_pos (decide_eq_true (by omega)))⟩ (by show (121 - M97 12 0).toNat < (121 - Mc 12 0).toNat; omega) H locs ⟨hP, hS⟩ ls (lv_sub hl [0, 1] rfl)
      · replace hl : lv_has ls 2 [(1, .int (iZ cc)), (0, .ref h)] := lv_sub hl [0, 1] rfl
        replace hP := And.intro hP hS
        clear hS
        revert ls
        revert hP
        revert H locs
        refine z_loopH (σ := (Nat → Nat → Int)) (fun x9 => ((A9 ≤ x9 12 0 ∧ x9 12 0 ≤ M 1 0) ∧ (0 ≤ x9 15 0 ∧ x9 15 0 ≤ 999)) ∧ (x9 = m4 M (x9 12 0) A9 (x9 15 0) (M 14 0)) ∧ (z_run (fun q => decide (48 ≤ s_ch M q ∧ s_ch M q ≤ 57)) (Int.toNat (121 - A9)) A9 = z_run (fun q => decide (48 ≤ s_ch M q ∧ s_ch M q ≤ 57)) (Int.toNat (121 - x9 12 0)) (x9 12 0)) ∧ (z_val M (Int.toNat (121 - A9)) A9 0 = z_val M (Int.toNat (121 - x9 12 0)) (x9 12 0) (x9 15 0))) (fun x9 H9 locs9 => va_P D vwCl (mW C h a x9) H9 ∧ va_S (mA h a) s.heap H9 locs9) (fun x9 => [(1, .int (iZ cc)), (0, .ref h)]) 2 (fun x9 => (121 - x9 12 0).toNat) M4 ⟨(by show (A9 ≤ M4 12 0 ∧ M4 12 0 ≤ M 1 0) ∧ (0 ≤ M4 15 0 ∧ M4 15 0 ≤ 999); omega), (by show M4 = m4 M (M4 12 0) A9 (M4 15 0) (M 14 0); rw [e12, e15]; exact w32), (by show z_run (fun q => decide (48 ≤ s_ch M q ∧ s_ch M q ≤ 57)) (Int.toNat (121 - A9)) A9 = z_run (fun q => decide (48 ≤ s_ch M q ∧ s_ch M q ≤ 57)) (Int.toNat (121 - M4 12 0)) (M4 12 0); rw [e12]), (by show z_val M (Int.toNat (121 - A9)) A9 0 = z_val M (Int.toNat (121 - M4 12 0)) (M4 12 0) (M4 15 0); rw [e12, e15])⟩ ?_
        rintro Mb hI9 ih65 H locs hPS ls hl
        have hP : va_P D vwCl (mW C h a Mb) H := hPS.1
        have hS : va_S (mA h a) s.heap H locs := hPS.2
        clear hPS
        have hD : va_D (mA h a) (mW C h a Mb) := mD_re hD
        obtain ⟨d1, d2, d3, d4⟩ := hI9
        replace d1 : (A9 ≤ Mb 12 0 ∧ Mb 12 0 ≤ M 1 0) ∧ (0 ≤ Mb 15 0 ∧ Mb 15 0 ≤ 999) := d1
        replace d2 : Mb = m4 M (Mb 12 0) A9 (Mb 15 0) (M 14 0) := d2
        replace d3 : z_run (fun q => decide (48 ≤ s_ch M q ∧ s_ch M q ≤ 57)) (Int.toNat (121 - A9)) A9 = z_run (fun q => decide (48 ≤ s_ch M q ∧ s_ch M q ≤ 57)) (Int.toNat (121 - Mb 12 0)) (Mb 12 0) := d3
        replace d4 : z_val M (Int.toNat (121 - A9)) A9 0 = z_val M (Int.toNat (121 - Mb 12 0)) (Mb 12 0) (Mb 15 0) := d4
        replace hl : lv_has ls 2 [(1, .int (iZ cc)), (0, .ref h)] := hl
        have qcb : ∀ i, s_ch Mb i = s_ch M i := fun i => by unfold s_ch; rw [d2]; rfl
        have qchb := qcb (Mb 12 0)
        have hltb := s_ch_lt M (Mb 12 0)
        have t1 : Mb 1 0 = M 1 0 := by rw [d2]; rfl
        have e13b : Mb 13 0 = A9 := by rw [d2]; rfl
        refine lv_aload_n hx hb dX8_step_65 rfl (lv_at hl 1 rfl) ?_
        refine mq_ci (As := []) (rest := []) ⟨hx, hb, hml, hown, hts⟩ hK hP (C_here l D C h a Mb  (by omega) (by omega)) (cwV 0 hts gX8_step_X8_here rfl rfl rfl (by decide +kernel) ⟨Nat.le_of_ble_eq_true rfl, Nat.le_of_ble_eq_true rfl⟩) rfl rfl hl.1 (Nat.le_of_ble_eq_true rfl) ⟨Nat.le_of_ble_eq_true rfl, Nat.le_of_ble_eq_true rfl⟩ dX8_step_66 ?_
        have hch := s_ch_bd Mb (Mb 12 0)
        refine lv_bipush (v := iZ 48) hx hb dX8_step_69 (by decide) ?_
        refine lv_bipush (v := iZ 57) hx hb dX8_step_71 (by decide) ?_
        refine mq_cs (As := [.int (iZ (s_ch Mb (Mb 12 0))), .int (iZ 48), .int (iZ 57)]) (rest := []) ⟨hx, hb, hml, hown, hts⟩ (C_in l (s_ch Mb (Mb 12 0)) 48 57 (by omega) (by omega) (by omega)) (va_cwS 3 hts gX8_step_X8_in rfl rfl rfl (by decide +kernel) ⟨Nat.le_of_ble_eq_true rfl, Nat.le_of_ble_eq_true rfl⟩) rfl rfl hl.1 (Nat.le_of_ble_eq_true rfl) ⟨Nat.le_of_ble_eq_true rfl, Nat.le_of_ble_eq_true rfl⟩ dX8_step_73 ?_
        refine z_ifb_eq (P := (48 ≤ (s_ch Mb (Mb 12 0)) ∧ (s_ch Mb (Mb 12 0)) ≤ 57)) (tgt := 127) hx hb dX8_step_76 (by decide) (fun c98 => ?_) (fun c98 => ?_)
        · have ra : s_a2d M = Mb 12 0 := by unfold s_a2d; rw [ka, d3, z_run_step _ 121 _ (by omega)]; exact if_neg (fun h9 => absurd (of_decide_eq_true h9) (by omega))
          have rv : s_vd M = Mb 15 0 := by unfold s_vd; rw [ka, d4, z_val_step _ _ (by omega)]; exact if_neg (by omega)
          refine lv_aload_n hx hb dX8_step_127 rfl (lv_at hl 1 rfl) ?_
          refine lv_aload_n hx hb dX8_step_128 rfl (lv_at hl 1 rfl) ?_
          refine mq_get hx hb hts hin hown hK hP 15 (by decide) (hts (.fieldLink RX8 90 "WordFletchersModel" "value" "I") (List.mem_cons_of_mem _ (List.mem_append_left _ (List.mem_of_getElem? (i := 2) rfl)))) rfl dX8_step_129 ?_
          refine lv_bipush (v := iZ 99) hx hb dX8_step_132 (by decide) ?_
          have K108 : ∀ (v107 : Int), (v107 = (if 99 < (Mb 15 0) then 5 else (if cc = 48 then (if ((Mb 12 0) - (Mb 13 0)) ≤ 1 then 2 else 5) else 2))) → ∀ ls : Array Slot, lv_has ls 2 [] → W p l e ((headSpec wsX8_step ({ frames := 1, cells := 0, slots := 0, locals := 22 })).room) s m (([.ref h] : List Value).toArray) below meth c H locs 0 0 (MQ below (va_Qv (fun (_ : Unit) => True) (fun _ t => mOk D C h a (f_step M) t) (mA h a)) (([.ref h] : List Value).toArray) s 0 0 (mA h a)) (F0 m 161 ls [.int (iZ v107), .ref h]) := by
            intro v107 hv107 ls hl
            refine mq_put (ty := .int) hx hb hts hin hown hK hP hD hS 14 (by decide) (hts (.fieldLink RX8 93 "WordFletchersModel" "sort" "I") (List.mem_cons_of_mem _ (List.mem_append_left _ (List.mem_of_getElem? (i := 3) rfl)))) rfl (by decide +kernel) rfl rfl (mS_14 C h a _ _) dX8_step_161 (fun H locs hP hD hS => ?_)
            obtain ⟨M109, hM109⟩ : ∃ z : Nat → Nat → Int, z = (mU Mb 14 0 v107) := ⟨_, rfl⟩
            rw [← hM109] at hP hD
            have w161 : M109 = m4 M (Mb 12 0) A9 (Mb 15 0) (M109 14 0) := by have t := m4_14 M (Mb 12 0) A9 (Mb 15 0) (M 14 0) (M109 14 0); rw [← d2] at t; rw [← t, hM109, mU_eq]
            have e14 : M109 14 0 = (if 99 < Mb 15 0 ∨ (cc = 48 ∧ 1 < Mb 12 0 - A9) then 5 else 2) := by rw [hM109, mU_eq]; omega
            refine lv_goto (tgt := 260) hx hb dX8_step_164 (by decide) ?_
            refine W.eq (g2 := F0 m 260 ls []) rfl ?_
            exact mq_retV hx hb hK hP hS hr (by unfold f_step; rw [kc, ka]; first | (rw [if_pos (by omega)]; exact w48) | (rw [if_neg (by omega), if_pos (by omega), ra, rv, ← e14]; exact w161) | (rw [if_neg (by omega), if_neg (by omega), if_pos (by omega), rl, ← e15l]; exact w229) | (rw [if_neg (by omega), if_neg (by omega), if_neg (by omega), ← e14z]; exact w257) | omega) dX8_step_260 hlocks
          refine z_icmp_gt (x := (Mb 15 0)) (y := 99) (tgt := 156) hx hb (by omega) (by omega) dX8_step_134 (by decide) (fun c104 => ?_) (fun c104 => ?_)
          · refine lv_iconst (v := iZ 5) hx hb dX8_step_156 (by decide) ?_
            refine lv_goto (tgt := 161) hx hb dX8_step_157 (by decide) ?_
            exact K108 5 (by first | rfl | (rw [if_pos c104]; done) | omega | (subst_vars; first | rfl | (rw [if_pos c104]; done) | omega)) ls (lv_sub hl [] rfl)
          · refine lv_iload_n hx hb dX8_step_137 rfl (lv_at hl 0 rfl) ?_
            refine lv_bipush (v := iZ 48) hx hb dX8_step_138 (by decide) ?_
            refine z_icmp_ne (x := cc) (y := 48) (tgt := 160) hx hb (by omega) (by omega) dX8_step_140 (by decide) (fun c105 => ?_) (fun c105 => ?_)
            · refine lv_iconst (v := iZ 2) hx hb dX8_step_160 (by decide) ?_
              exact K108 2 (by first | rfl | (rw [if_neg c104, if_neg c105]; done) | omega | (subst_vars; first | rfl | (rw [if_neg c104, if_neg c105]; done) | omega)) ls (lv_sub hl [] rfl)
            · refine W.eq (g2 := F0 m 143 ls [.ref h]) rfl ?_
              refine lv_aload_n hx hb dX8_step_143 rfl (lv_at hl 1 rfl) ?_
              refine mq_get hx hb hts hin hown hK hP 12 (by decide) (hts (.fieldLink RX8 80 "WordFletchersModel" "at" "I") (List.mem_cons_of_mem _ (List.mem_append_left _ (List.mem_of_getElem? (i := 0) rfl)))) rfl dX8_step_144 ?_
              refine lv_aload_n hx hb dX8_step_147 rfl (lv_at hl 1 rfl) ?_
              refine mq_get hx hb hts hin hown hK hP 13 (by decide) (hts (.fieldLink RX8 87 "WordFletchersModel" "stands" "I") (List.mem_cons_of_mem _ (List.mem_append_left _ (List.mem_of_getElem? (i := 1) rfl)))) rfl dX8_step_148 ?_
              refine z_isub hx hb dX8_step_151 ?_
              refine lv_iconst (v := iZ 1) hx hb dX8_step_152 (by decide) ?_
              refine z_icmp_le (x := ((Mb 12 0) - (Mb 13 0))) (y := 1) (tgt := 160) hx hb (by omega) (by omega) dX8_step_153 (by decide) (fun c106 => ?_) (fun c106 => ?_)
              · refine lv_iconst (v := iZ 2) hx hb dX8_step_160 (by decide) ?_
                exact K108 2 (by first | rfl | (rw [if_neg c104, if_pos c105, if_pos c106]; done) | omega | (subst_vars; first | rfl | (rw [if_neg c104, if_pos c105, if_pos c106]; done) | omega)) ls (lv_sub hl [] rfl)
              · refine lv_iconst (v := iZ 5) hx hb dX8_step_156 (by decide) ?_
                refine lv_goto (tgt := 161) hx hb dX8_step_157 (by decide) ?_
                exact K108 5 (by first | rfl | (rw [if_neg c104, if_pos c105, if_neg c106]; done) | omega | (subst_vars; first | rfl | (rw [if_neg c104, if_pos c105, if_neg c106]; done) | omega)) ls (lv_sub hl [] rfl)
        · refine lv_aload_n hx hb dX8_step_79 rfl (lv_at hl 1 rfl) ?_
          refine lv_aload_n hx hb dX8_step_80 rfl (lv_at hl 1 rfl) ?_
          refine mq_get hx hb hts hin hown hK hP 15 (by decide) (hts (.fieldLink RX8 90 "WordFletchersModel" "value" "I") (List.mem_cons_of_mem _ (List.mem_append_left _ (List.mem_of_getElem? (i := 2) rfl)))) rfl dX8_step_81 ?_
          refine lv_bipush (v := iZ 99) hx hb dX8_step_84 (by decide) ?_
          have K112 : ∀ (v111 : Int), (v111 = (if (Mb 15 0) ≤ 99 then (((10 * (Mb 15 0)) + s_ch Mb (Mb 12 0)) - 48) else (Mb 15 0))) → ∀ ls : Array Slot, lv_has ls 2 [(1, .int (iZ cc)), (0, .ref h)] → W p l e ((headSpec wsX8_step ({ frames := 1, cells := 0, slots := 0, locals := 22 })).room) s m (([.ref h] : List Value).toArray) below meth c H locs 0 0 (MQ below (va_Qv (fun (_ : Unit) => True) (fun _ t => mOk D C h a (f_step M) t) (mA h a)) (([.ref h] : List Value).toArray) s 0 0 (mA h a)) (F0 m 111 ls [.int (iZ v111), .ref h]) := by
            intro v111 hv111 ls hl
            refine mq_put (ty := .int) hx hb hts hin hown hK hP hD hS 15 (by decide) (hts (.fieldLink RX8 90 "WordFletchersModel" "value" "I") (List.mem_cons_of_mem _ (List.mem_append_left _ (List.mem_of_getElem? (i := 2) rfl)))) rfl (by decide +kernel) rfl rfl (mS_15 C h a _ _) dX8_step_111 (fun H locs hP hD hS => ?_)
            obtain ⟨M113, hM113⟩ : ∃ z : Nat → Nat → Int, z = (mU Mb 15 0 v111) := ⟨_, rfl⟩
            rw [← hM113] at hP hD
            have w111 : M113 = m4 M (Mb 12 0) A9 (M113 15 0) (M 14 0) := by have t := m4_15 M (Mb 12 0) A9 (Mb 15 0) (M 14 0) (M113 15 0); rw [← d2] at t; rw [← t, hM113, mU_eq]
            have e15b : M113 15 0 = (if Mb 15 0 ≤ 99 then 10 * Mb 15 0 + s_ch M (Mb 12 0) - 48 else Mb 15 0) := by rw [hM113, mU_eq]; omega
            have e12c : M113 12 0 = Mb 12 0 := by rw [w111]; rfl
            refine lv_aload_n hx hb dX8_step_114 rfl (lv_at hl 1 rfl) ?_
            refine lv_dup hx hb dX8_step_115 rfl ?_
            refine mq_get hx hb hts hin hown hK hP 12 (by decide) (hts (.fieldLink RX8 80 "WordFletchersModel" "at" "I") (List.mem_cons_of_mem _ (List.mem_append_left _ (List.mem_of_getElem? (i := 0) rfl)))) rfl dX8_step_116 ?_
            refine lv_iconst (v := iZ 1) hx hb dX8_step_119 (by decide) ?_
            refine z_iadd hx hb dX8_step_120 ?_
            refine W.eq (g2 := F0 m 121 ls [.int (iZ ((M113 12 0) + 1)), .ref h]) rfl ?_
            refine mq_put (ty := .int) hx hb hts hin hown hK hP hD hS 12 (by decide) (hts (.fieldLink RX8 80 "WordFletchersModel" "at" "I") (List.mem_cons_of_mem _ (List.mem_append_left _ (List.mem_of_getElem? (i := 0) rfl)))) rfl (by decide +kernel) rfl rfl (mS_12 C h a _ _) dX8_step_121 (fun H locs hP hD hS => ?_)
            obtain ⟨M114, hM114⟩ : ∃ z : Nat → Nat → Int, z = (mU M113 12 0 ((M113 12 0) + 1)) := ⟨_, rfl⟩
            rw [← hM114] at hP hD
            have w121 : M114 = m4 M (M113 12 0 + 1) A9 (M113 15 0) (M 14 0) := by have t := m4_12 M (Mb 12 0) A9 (M113 15 0) (M 14 0) (M113 12 0 + 1); rw [← w111] at t; rw [hM114]; exact t
            have e12d : M114 12 0 = Mb 12 0 + 1 := by rw [w121]; show M113 12 0 + 1 = Mb 12 0 + 1; rw [e12c]
            have e15d : M114 15 0 = M113 15 0 := by rw [w121]; rfl
            refine lv_goto (tgt := 65) hx hb dX8_step_124 (by decide) ?_
            exact ih65 M114 ⟨(by show (A9 ≤ M114 12 0 ∧ M114 12 0 ≤ M 1 0) ∧ (0 ≤ M114 15 0 ∧ M114 15 0 ≤ 999); omega), (by show M114 = m4 M (M114 12 0) A9 (M114 15 0) (M 14 0); rw [e12d, e15d, ← e12c]; exact w121), (by show z_run (fun q => decide (48 ≤ s_ch M q ∧ s_ch M q ≤ 57)) (Int.toNat (121 - A9)) A9 = z_run (fun q => decide (48 ≤ s_ch M q ∧ s_ch M q ≤ 57)) (Int.toNat (121 - M114 12 0)) (M114 12 0); rw [d3, z_run_step _ 121 _ (by omega), e12d]; exact if_pos (decide_eq_true (by omega))), (by show z_val M (Int.toNat (121 - A9)) A9 0 = z_val M (Int.toNat (121 - M114 12 0)) (M114 12 0) (M114 15 0); rw [d4, z_val_step _ _ (by omega), e12d, e15d, e15b]; exact if_pos (by omega))⟩ (by show (121 - M114 12 0).toNat < (121 - Mb 12 0).toNat; omega) H locs ⟨hP, hS⟩ ls (lv_sub hl [0, 1] rfl)
          refine z_icmp_le (x := (Mb 15 0)) (y := 99) (tgt := 96) hx hb (by omega) (by omega) dX8_step_86 (by decide) (fun c110 => ?_) (fun c110 => ?_)
          · refine lv_bipush (v := iZ 10) hx hb dX8_step_96 (by decide) ?_
            refine lv_aload_n hx hb dX8_step_98 rfl (lv_at hl 1 rfl) ?_
            refine mq_get hx hb hts hin hown hK hP 15 (by decide) (hts (.fieldLink RX8 90 "WordFletchersModel" "value" "I") (List.mem_cons_of_mem _ (List.mem_append_left _ (List.mem_of_getElem? (i := 2) rfl)))) rfl dX8_step_99 ?_
            refine z_imul hx hb dX8_step_102 ?_
            refine lv_aload_n hx hb dX8_step_103 rfl (lv_at hl 1 rfl) ?_
            refine mq_ci (As := []) (rest := [.int (iZ (10 * (Mb 15 0))), .ref h]) ⟨hx, hb, hml, hown, hts⟩ hK hP (C_here l D C h a Mb  (by omega) (by omega)) (cwV 0 hts gX8_step_X8_here rfl rfl rfl (by decide +kernel) ⟨Nat.le_of_ble_eq_true rfl, Nat.le_of_ble_eq_true rfl⟩) rfl rfl hl.1 (Nat.le_of_ble_eq_true rfl) ⟨Nat.le_of_ble_eq_true rfl, Nat.le_of_ble_eq_true rfl⟩ dX8_step_104 ?_
            have hch := s_ch_bd Mb (Mb 12 0)
            refine W.eq (g2 := F0 m 107 ls [.int (iZ (s_ch Mb (Mb 12 0))), .int (iZ (10 * (Mb 15 0))), .ref h]) rfl ?_
            refine z_iadd hx hb dX8_step_107 ?_
            refine lv_bipush (v := iZ 48) hx hb dX8_step_108 (by decide) ?_
            refine z_isub hx hb dX8_step_110 ?_
            exact K112 (((10 * (Mb 15 0)) + s_ch Mb (Mb 12 0)) - 48) (by first | rfl | (rw [if_pos c110]; done) | omega | (subst_vars; first | rfl | (rw [if_pos c110]; done) | omega)) ls (lv_sub hl [0, 1] rfl)
          · refine lv_aload_n hx hb dX8_step_89 rfl (lv_at hl 1 rfl) ?_
            refine mq_get hx hb hts hin hown hK hP 15 (by decide) (hts (.fieldLink RX8 90 "WordFletchersModel" "value" "I") (List.mem_cons_of_mem _ (List.mem_append_left _ (List.mem_of_getElem? (i := 2) rfl)))) rfl dX8_step_90 ?_
            refine lv_goto (tgt := 111) hx hb dX8_step_93 (by decide) ?_
            exact K112 (Mb 15 0) (by first | rfl | (rw [if_neg c110]; done) | omega | (subst_vars; first | rfl | (rw [if_neg c110]; done) | omega)) ls (lv_sub hl [0, 1] rfl)
    · refine lv_aload_n hx hb dX8_step_46 rfl (lv_at hl 1 rfl) ?_
      refine lv_iconst (v := iZ 4) hx hb dX8_step_47 (by decide) ?_
      refine mq_put (ty := .int) hx hb hts hin hown hK hP hD hS 14 (by decide) (hts (.fieldLink RX8 93 "WordFletchersModel" "sort" "I") (List.mem_cons_of_mem _ (List.mem_append_left _ (List.mem_of_getElem? (i := 3) rfl)))) rfl (by decide +kernel) rfl rfl (mS_14 C h a _ _) dX8_step_48 (fun H locs hP hD hS => ?_)
      obtain ⟨M115, hM115⟩ : ∃ z : Nat → Nat → Int, z = (mU M4 14 0 4) := ⟨_, rfl⟩
      rw [← hM115] at hP hD
      have w48 : M115 = m4 M A9 A9 0 4 := by have t := m4_14 M A9 A9 0 (M 14 0) 4; rw [← w32] at t; rw [hM115]; exact t
      refine lv_goto (tgt := 260) hx hb dX8_step_51 (by decide) ?_
      exact mq_retV hx hb hK hP hS hr (by unfold f_step; rw [kc, ka]; first | (rw [if_pos (by omega)]; exact w48) | (rw [if_neg (by omega), if_pos (by omega), ra, rv, ← e14]; exact w161) | (rw [if_neg (by omega), if_neg (by omega), if_pos (by omega), rl, ← e15l]; exact w229) | (rw [if_neg (by omega), if_neg (by omega), if_neg (by omega), ← e14z]; exact w257) | omega) dX8_step_260 hlocks
  · refine lv_aload_n hx hb dX8_step_9 rfl (lv_at hl 0 rfl) ?_
    refine lv_dup hx hb dX8_step_10 rfl ?_
    refine mq_get hx hb hts hin hown hK hP 12 (by decide) (hts (.fieldLink RX8 80 "WordFletchersModel" "at" "I") (List.mem_cons_of_mem _ (List.mem_append_left _ (List.mem_of_getElem? (i := 0) rfl)))) rfl dX8_step_11 ?_
    refine lv_iconst (v := iZ 1) hx hb dX8_step_14 (by decide) ?_
    refine z_iadd hx hb dX8_step_15 ?_
    refine W.eq (g2 := F0 m 16 ls [.int (iZ ((Ma 12 0) + 1)), .ref h]) rfl ?_
    refine mq_put (ty := .int) hx hb hts hin hown hK hP hD hS 12 (by decide) (hts (.fieldLink RX8 80 "WordFletchersModel" "at" "I") (List.mem_cons_of_mem _ (List.mem_append_left _ (List.mem_of_getElem? (i := 0) rfl)))) rfl (by decide +kernel) rfl rfl (mS_12 C h a _ _) dX8_step_16 (fun H locs hP hD hS => ?_)
    obtain ⟨M116, hM116⟩ : ∃ z : Nat → Nat → Int, z = (mU Ma 12 0 ((Ma 12 0) + 1)) := ⟨_, rfl⟩
    rw [← hM116] at hP hD
    have w16 : M116 = m4 M (Ma 12 0 + 1) (M 13 0) (M 15 0) (M 14 0) := by have t := m4_12 M (Ma 12 0) (M 13 0) (M 15 0) (M 14 0) (Ma 12 0 + 1); rw [← k2] at t; rw [hM116]; exact t
    have eat : M116 12 0 = Ma 12 0 + 1 := by rw [w16]; rfl
    refine lv_goto (tgt := 0) hx hb dX8_step_19 (by decide) ?_
    exact ih0 M116 ⟨(by show M 12 0 ≤ M116 12 0 ∧ M116 12 0 ≤ M 1 0; omega), (by show M116 = m4 M (M116 12 0) (M 13 0) (M 15 0) (M 14 0); rw [eat]; exact w16), (by show z_run (fun q => decide (s_ch M q = 32)) (Int.toNat (121 - M 12 0)) (M 12 0) = z_run (fun q => decide (s_ch M q = 32)) (Int.toNat (121 - M116 12 0)) (M116 12 0); rw [k3, z_run_step _ 121 _ (by omega), eat]; exact if_pos (decide_eq_true (by omega)))⟩ (by show (121 - M116 12 0).toNat < (121 - Ma 12 0).toNat; omega) H locs ⟨hP, hS⟩ ls (lv_sub hl [0] rfl)
set_option maxHeartbeats 4000000 in
set_option maxRecDepth 100000 in
theorem C_due (l : Launch) (D : va_G) (C : mC) (h : Nat) (a : Nat → Nat) (M : Nat → Nat → Int) (is : Int) (hp : pI M) (h1 : is = 0 ∨ is = 1) (hN : va_D (fun _ => True) (mW C h a M)) : Met l yX8_due wsX8_due ({ frames := 2, cells := 0, slots := 0, locals := 43 }) (va_Pc [.ref h, .int (iZ is)] (mOk D C h a M)) (va_Qv (fun (_ : Unit) => True) (fun _ t => mOk D C h a (f_due M is) t) (mA h a)) 0 0 (mA h a) := by
  refine Met.ofW (cc := cX8_due) (maxL := 2) (ret := none) (by decide) rfl ?_
  intro p e s m args below meth c s₁ B hml hv
  obtain ⟨rfl, hP, hK⟩ := hv
  have hx := B.exec
  have hb := B.bytes
  have hr := B.returns
  have hts := atoms_spec (ws := wsX8_due) B.pre
  have hown : s.vm.findClass RX8 = some m.cls := findClass_of_methodNamed B.named
  have hlocks := B.notSynchronized
  have hin : ∀ w ∈ wsX80, w ∈ wsX8_due := fun _ w_h => (List.mem_cons_of_mem _ (List.mem_append_right _ w_h))
  have hl := lv_entry ([.ref h, .int (iZ is)]) (n := 2) (Nat.le_of_ble_eq_true rfl)
  rw [lg_entry_eq]
  generalize (lg_sl ([.ref h, .int (iZ is)]) ++ List.replicate (2 - (lg_sl ([.ref h, .int (iZ is)])).length) Slot.unset).toArray = ls at hl ⊢
  replace hl : lv_has ls 2 [(0, .ref h), (1, .int (iZ is))] := hl
  have hD : va_D (mA h a) (mW C h a M) := mD_own hN
  have hA : ∀ q, mA h a q → mA h a q := fun _ h9 => h9
  generalize hHe : s.heap = H at hP ⊢
  have hS : va_S (mA h a) s.heap H [] := by rw [hHe]; exact va_S.rf
  generalize hlo : ([] : List Loc) = locs at hS ⊢
  clear hHe hlo
  obtain ⟨p1, p2, p3, p4, p5, p6, p7, p8, p9, p10⟩ := id hp
  refine lv_aload_n hx hb dX8_due_0 rfl (lv_at hl 0 rfl) ?_
  refine mq_get hx hb hts hin hown hK hP 16 (by decide) (hts (.fieldLink RX8 96 "WordFletchersModel" "isWrong" "Z") (List.mem_cons_of_mem _ (List.mem_append_left _ (List.mem_of_getElem? (i := 0) rfl)))) rfl dX8_due_1 ?_
  refine z_if_eq (x := (M 16 0)) (tgt := 8) hx hb (by omega) dX8_due_4 (by decide) (fun c1 => ?_) (fun c1 => ?_)
  · refine lv_iload_n hx hb dX8_due_8 rfl (lv_at hl 1 rfl) ?_
    refine z_if_eq (x := is) (tgt := 19) hx hb (by omega) dX8_due_9 (by decide) (fun c2 => ?_) (fun c2 => ?_)
    · refine lv_aload_n hx hb dX8_due_19 rfl (lv_at hl 0 rfl) ?_
      refine lv_iconst (v := iZ 1) hx hb dX8_due_20 (by decide) ?_
      refine mq_put (ty := .boolean) hx hb hts hin hown hK hP hD hS 16 (by decide) (hts (.fieldLink RX8 96 "WordFletchersModel" "isWrong" "Z") (List.mem_cons_of_mem _ (List.mem_append_left _ (List.mem_of_getElem? (i := 0) rfl)))) rfl (by decide +kernel) (z_nbool (by omega)) (z_fbool (by omega)) (mS_16 C h a _ _) dX8_due_21 (fun H locs hP hD hS => ?_)
      obtain ⟨M5, hM5⟩ : ∃ z : Nat → Nat → Int, z = (mU M 16 0 1) := ⟨_, rfl⟩
      rw [← hM5] at hP hD
      exact mq_retV hx hb hK hP hS hr (by unfold f_due; first | (rw [if_pos (by omega)]; done) | (rw [if_neg (by omega), if_pos (by omega)]; assumption) | (rw [if_neg (by omega), if_neg (by omega)]; assumption) | omega) dX8_due_24 hlocks
    · refine lv_aload_n hx hb dX8_due_12 rfl (lv_at hl 0 rfl) ?_
      refine mq_cv (As := []) (rest := []) ⟨hx, hb, hml, hown, hts⟩ hK hP hD hS hA (C_step l D C h a M  (by omega) (by omega) (hD.weaken (fun _ _ _ _ => trivial))) (cwV 0 hts gX8_due_X8_step rfl rfl rfl (by decide +kernel) ⟨Nat.le_of_ble_eq_true rfl, Nat.le_of_ble_eq_true rfl⟩) rfl rfl hl.1 (Nat.le_of_ble_eq_true rfl) ⟨Nat.le_of_ble_eq_true rfl, Nat.le_of_ble_eq_true rfl⟩ dX8_due_13 (fun H locs hP hD hS => ?_)
      obtain ⟨M6, hM6⟩ : ∃ z : Nat → Nat → Int, z = (f_step M) := ⟨_, rfl⟩
      rw [← hM6] at hP hD
      refine lv_goto (tgt := 24) hx hb dX8_due_16 (by decide) ?_
      exact mq_retV hx hb hK hP hS hr (by unfold f_due; first | (rw [if_pos (by omega)]; done) | (rw [if_neg (by omega), if_pos (by omega)]; assumption) | (rw [if_neg (by omega), if_neg (by omega)]; assumption) | omega) dX8_due_24 hlocks
  · exact mq_retV hx hb hK hP hS hr (by unfold f_due; first | (rw [if_pos (by omega)]; done) | (rw [if_neg (by omega), if_pos (by omega)]; assumption) | (rw [if_neg (by omega), if_neg (by omega)]; assumption) | omega) dX8_due_7 hlocks
set_option maxHeartbeats 4000000 in
set_option maxRecDepth 100000 in
theorem C_number (l : Launch) (D : va_G) (C : mC) (h : Nat) (a : Nat → Nat) (M : Nat → Nat → Int) (lo hi : Int) (hp : pI M) (h1 : 0 ≤ lo ∧ lo ≤ 1) (h2 : -1 ≤ hi ∧ hi ≤ 30) (hN : va_D (fun _ => True) (mW C h a M)) : Met l yX8_number wsX8_number ({ frames := 3, cells := 0, slots := 0, locals := 64 }) (va_Pc [.ref h, .int (iZ lo), .int (iZ hi)] (mOk D C h a M)) (va_Qi (fun r (_ : Unit) => r = iZ (M 15 0)) (fun _ t => mOk D C h a (f_num M lo hi) t) (mA h a)) 0 0 (mA h a) := by
  refine Met.ofW (cc := cX8_number) (maxL := 4) (ret := (some .int)) (by decide) rfl ?_
  intro p e s m args below meth c s₁ B hml hv
  obtain ⟨rfl, hP, hK⟩ := hv
  have hx := B.exec
  have hb := B.bytes
  have hr := B.returns
  have hts := atoms_spec (ws := wsX8_number) B.pre
  have hown : s.vm.findClass RX8 = some m.cls := findClass_of_methodNamed B.named
  have hlocks := B.notSynchronized
  have hin : ∀ w ∈ wsX80, w ∈ wsX8_number := fun _ w_h => (List.mem_cons_of_mem _ (List.mem_append_right _ w_h))
  have hl := lv_entry ([.ref h, .int (iZ lo), .int (iZ hi)]) (n := 4) (Nat.le_of_ble_eq_true rfl)
  rw [lg_entry_eq]
  generalize (lg_sl ([.ref h, .int (iZ lo), .int (iZ hi)]) ++ List.replicate (4 - (lg_sl ([.ref h, .int (iZ lo), .int (iZ hi)])).length) Slot.unset).toArray = ls at hl ⊢
  replace hl : lv_has ls 4 [(0, .ref h), (1, .int (iZ lo)), (2, .int (iZ hi))] := hl
  have hD : va_D (mA h a) (mW C h a M) := mD_own hN
  have hA : ∀ q, mA h a q → mA h a q := fun _ h9 => h9
  generalize hHe : s.heap = H at hP ⊢
  have hS : va_S (mA h a) s.heap H [] := by rw [hHe]; exact va_S.rf
  generalize hlo : ([] : List Loc) = locs at hS ⊢
  clear hHe hlo
  obtain ⟨p1, p2, p3, p4, p5, p6, p7, p8, p9, p10⟩ := id hp
  refine lv_aload_n hx hb dX8_number_0 rfl (lv_at hl 0 rfl) ?_
  refine mq_get hx hb hts hin hown hK hP 15 (by decide) (hts (.fieldLink RX8 90 "WordFletchersModel" "value" "I") (List.mem_cons_of_mem _ (List.mem_append_left _ (List.mem_of_getElem? (i := 0) rfl)))) rfl dX8_number_1 ?_
  refine W.eq (g2 := F0 m 4 ls [.int (iZ (M 15 0))]) rfl ?_
  refine lv_istore_n (lv' := [(3, .int (iZ (M 15 0))), (0, .ref h), (1, .int (iZ lo)), (2, .int (iZ hi))]) hx hb dX8_number_4 rfl hl (by decide) rfl (fun ls hl => ?_)
  refine lv_aload_n hx hb dX8_number_5 rfl (lv_at hl 1 rfl) ?_
  refine lv_aload_n hx hb dX8_number_6 rfl (lv_at hl 1 rfl) ?_
  refine mq_get hx hb hts hin hown hK hP 14 (by decide) (hts (.fieldLink RX8 93 "WordFletchersModel" "sort" "I") (List.mem_cons_of_mem _ (List.mem_append_left _ (List.mem_of_getElem? (i := 1) rfl)))) rfl dX8_number_7 ?_
  refine lv_iconst (v := iZ 2) hx hb dX8_number_10 (by decide) ?_
  have K4 : ∀ (v3 : Int), (v3 = (if (M 14 0) = 2 then (if (lo ≤ (M 15 0) ∧ (M 15 0) ≤ hi) then 1 else 0) else 0)) → ∀ ls : Array Slot, lv_has ls 4 [(3, .int (iZ (M 15 0)))] → W p l e ((headSpec wsX8_number ({ frames := 3, cells := 0, slots := 0, locals := 64 })).room) s m (([.ref h, .int (iZ lo), .int (iZ hi)] : List Value).toArray) below meth c H locs 0 0 (MQ below (va_Qi (fun r (_ : Unit) => r = iZ (M 15 0)) (fun _ t => mOk D C h a (f_num M lo hi) t) (mA h a)) (([.ref h, .int (iZ lo), .int (iZ hi)] : List Value).toArray) s 0 0 (mA h a)) (F0 m 28 ls [.int (iZ v3), .ref h]) := by
    intro v3 hv3 ls hl
    refine mq_cv (As := [.int (iZ v3)]) (rest := []) ⟨hx, hb, hml, hown, hts⟩ hK hP hD hS hA (C_due l D C h a M v3 hp (by omega) (hD.weaken (fun _ _ _ _ => trivial))) (cwV 1 hts gX8_number_X8_due rfl rfl rfl (by decide +kernel) ⟨Nat.le_of_ble_eq_true rfl, Nat.le_of_ble_eq_true rfl⟩) rfl rfl hl.1 (Nat.le_of_ble_eq_true rfl) ⟨Nat.le_of_ble_eq_true rfl, Nat.le_of_ble_eq_true rfl⟩ dX8_number_28 (fun H locs hP hD hS => ?_)
    obtain ⟨M5, hM5⟩ : ∃ z : Nat → Nat → Int, z = (f_due M v3) := ⟨_, rfl⟩
    rw [← hM5] at hP hD
    refine lv_iload_n hx hb dX8_number_31 rfl (lv_at hl 0 rfl) ?_
    exact mq_retM hx hb hK hP hS hr rfl rfl (by have q9 : s_ok M lo hi = s_ok M lo hi := rfl; unfold f_num; first | (subst_vars; rfl) | (subst_vars; congr 1; unfold s_ok; omega) | (unfold s_ok; subst_vars; congr 1; omega) | omega) dX8_number_32 hlocks
  refine z_icmp_ne (x := (M 14 0)) (y := 2) (tgt := 27) hx hb (by omega) (by omega) dX8_number_11 (by decide) (fun c1 => ?_) (fun c1 => ?_)
  · refine lv_iconst (v := iZ 0) hx hb dX8_number_27 (by decide) ?_
    exact K4 0 (by first | rfl | (rw [if_neg c1]; done) | omega | (subst_vars; first | rfl | (rw [if_neg c1]; done) | omega)) ls (lv_sub hl [0] rfl)
  · refine lv_iload_n hx hb dX8_number_14 rfl (lv_at hl 0 rfl) ?_
    refine lv_iload_n hx hb dX8_number_15 rfl (lv_at hl 2 rfl) ?_
    refine lv_iload_n hx hb dX8_number_16 rfl (lv_at hl 3 rfl) ?_
    refine mq_cs (As := [.int (iZ (M 15 0)), .int (iZ lo), .int (iZ hi)]) (rest := [.ref h]) ⟨hx, hb, hml, hown, hts⟩ (C_in l (M 15 0) lo hi (by omega) (by omega) (by omega)) (va_cwS 3 hts gX8_number_X8_in rfl rfl rfl (by decide +kernel) ⟨Nat.le_of_ble_eq_true rfl, Nat.le_of_ble_eq_true rfl⟩) rfl rfl hl.1 (Nat.le_of_ble_eq_true rfl) ⟨Nat.le_of_ble_eq_true rfl, Nat.le_of_ble_eq_true rfl⟩ dX8_number_17 ?_
    refine z_ifb_eq (P := (lo ≤ (M 15 0) ∧ (M 15 0) ≤ hi)) (tgt := 27) hx hb dX8_number_20 (by decide) (fun c2 => ?_) (fun c2 => ?_)
    · refine W.eq (g2 := F0 m 27 ls [.ref h]) rfl ?_
      refine lv_iconst (v := iZ 0) hx hb dX8_number_27 (by decide) ?_
      exact K4 0 (by first | rfl | (rw [if_pos c1, if_neg c2]; done) | omega | (subst_vars; first | rfl | (rw [if_pos c1, if_neg c2]; done) | omega)) ls (lv_sub hl [0] rfl)
    · refine lv_iconst (v := iZ 1) hx hb dX8_number_23 (by decide) ?_
      refine lv_goto (tgt := 28) hx hb dX8_number_24 (by decide) ?_
      exact K4 1 (by first | rfl | (rw [if_pos c1, if_pos c2]; done) | omega | (subst_vars; first | rfl | (rw [if_pos c1, if_pos c2]; done) | omega)) ls (lv_sub hl [0] rfl)
set_option maxHeartbeats 4000000 in
set_option maxRecDepth 100000 in
theorem C_may (l : Launch) (D : va_G) (C : mC) (h : Nat) (a : Nat → Nat) (M : Nat → Nat → Int) (wd : Int) (hp : pI M) (h1 : 0 ≤ wd ∧ wd ≤ 999) : Met l yX8_may wsX8_may ({ frames := 0, cells := 0, slots := 0, locals := 0 }) (va_Pc [.ref h, .int (iZ wd)] (mOk D C h a M)) (vp_Si (fun r => r = iZ (s_may M wd))) 0 0 (fun _ => False) := by
  refine Met.ofW (cc := cX8_may) (maxL := 2) (ret := (some .boolean)) (by decide) rfl ?_
  intro p e s m args below meth c s₁ B hml hv
  obtain ⟨rfl, hP, hK⟩ := hv
  have hx := B.exec
  have hb := B.bytes
  have hr := B.returns
  have hts := atoms_spec (ws := wsX8_may) B.pre
  have hown : s.vm.findClass RX8 = some m.cls := findClass_of_methodNamed B.named
  have hlocks := B.notSynchronized
  have hin : ∀ w ∈ wsX80, w ∈ wsX8_may := fun _ w_h => (List.mem_cons_of_mem _ (List.mem_append_right _ w_h))
  have hl := lv_entry ([.ref h, .int (iZ wd)]) (n := 2) (Nat.le_of_ble_eq_true rfl)
  rw [lg_entry_eq]
  generalize (lg_sl ([.ref h, .int (iZ wd)]) ++ List.replicate (2 - (lg_sl ([.ref h, .int (iZ wd)])).length) Slot.unset).toArray = ls at hl ⊢
  replace hl : lv_has ls 2 [(0, .ref h), (1, .int (iZ wd))] := hl
  obtain ⟨p1, p2, p3, p4, p5, p6, p7, p8, p9, p10⟩ := id hp
  refine lv_iload_n hx hb dX8_may_0 rfl (lv_at hl 1 rfl) ?_
  by_cases c1 : wd = 112
  · refine lv_lookup (off := 35) (tgt := 36) hx hb dX8_may_1 (by decide) (by rw [iZ_toInt (by omega), c1]; rfl) (by decide) ?_
    refine lv_aload_n hx hb dX8_may_36 rfl (lv_at hl 0 rfl) ?_
    refine mq_get hx hb hts hin hown hK hP 2 (by decide) (hts (.fieldLink RX8 13 "WordFletchersModel" "people" "[I") (List.mem_cons_of_mem _ (List.mem_append_left _ (List.mem_of_getElem? (i := 0) rfl)))) rfl dX8_may_37 ?_
    refine lv_iconst (v := iZ 1) hx hb dX8_may_40 (by decide) ?_
    refine mq_iald hx hb hK hP 2 2 (n := 2) rfl (by decide) 1 rfl (by omega) dX8_may_41 ?_
    refine W.eq (g2 := F0 m 42 ls [.int (iZ (M 2 1))]) rfl ?_
    refine lv_bipush (v := iZ 6) hx hb dX8_may_42 (by decide) ?_
    have K4 : ∀ (v3 : Int), (v3 = (if 6 ≤ (M 2 1) then 0 else 1)) → ∀ ls : Array Slot, lv_has ls 2 [] → W p l e ((headSpec wsX8_may ({ frames := 0, cells := 0, slots := 0, locals := 0 })).room) s m (([.ref h, .int (iZ wd)] : List Value).toArray) below meth c s.heap [] 0 0 (MQ below (vp_Si (fun r => r = iZ (s_may M wd))) (([.ref h, .int (iZ wd)] : List Value).toArray) s 0 0 (fun _ => False)) (F0 m 52 ls [.int (iZ v3)]) := by
      intro v3 hv3 ls hl
      exact mq_ret hx hb hr (z_nbool (by first | omega | (split <;> omega))) (by unfold s_may; first | omega | ((repeat' split) <;> first | rfl | omega)) dX8_may_52 hlocks rfl
    refine z_icmp_ge (x := (M 2 1)) (y := 6) (tgt := 51) hx hb (by omega) (by omega) dX8_may_44 (by decide) (fun c2 => ?_) (fun c2 => ?_)
    · refine lv_iconst (v := iZ 0) hx hb dX8_may_51 (by decide) ?_
      exact K4 0 (by first | rfl | (rw [if_pos c2]; done) | omega | (subst_vars; first | rfl | (rw [if_pos c2]; done) | omega)) ls (lv_sub hl [] rfl)
    · refine lv_iconst (v := iZ 1) hx hb dX8_may_47 (by decide) ?_
      refine lv_goto (tgt := 52) hx hb dX8_may_48 (by decide) ?_
      exact K4 1 (by first | rfl | (rw [if_neg c2]; done) | omega | (subst_vars; first | rfl | (rw [if_neg c2]; done) | omega)) ls (lv_sub hl [] rfl)
  by_cases c5 : wd = 115
  · refine lv_lookup (off := 52) (tgt := 53) hx hb dX8_may_1 (by decide) (by rw [iZ_toInt (by omega), c5]; rfl) (by decide) ?_
    refine lv_aload_n hx hb dX8_may_53 rfl (lv_at hl 0 rfl) ?_
    refine mq_get hx hb hts hin hown hK hP 5 (by decide) (hts (.fieldLink RX8 23 "WordFletchersModel" "sayings" "[I") (List.mem_cons_of_mem _ (List.mem_append_left _ (List.mem_of_getElem? (i := 1) rfl)))) rfl dX8_may_54 ?_
    refine lv_iconst (v := iZ 1) hx hb dX8_may_57 (by decide) ?_
    refine mq_iald hx hb hK hP 5 5 (n := 2) rfl (by decide) 1 rfl (by omega) dX8_may_58 ?_
    refine lv_bipush (v := iZ 6) hx hb dX8_may_59 (by decide) ?_
    have K8 : ∀ (v7 : Int), (v7 = (if 6 ≤ (M 5 1) then 0 else 1)) → ∀ ls : Array Slot, lv_has ls 2 [] → W p l e ((headSpec wsX8_may ({ frames := 0, cells := 0, slots := 0, locals := 0 })).room) s m (([.ref h, .int (iZ wd)] : List Value).toArray) below meth c s.heap [] 0 0 (MQ below (vp_Si (fun r => r = iZ (s_may M wd))) (([.ref h, .int (iZ wd)] : List Value).toArray) s 0 0 (fun _ => False)) (F0 m 69 ls [.int (iZ v7)]) := by
      intro v7 hv7 ls hl
      exact mq_ret hx hb hr (z_nbool (by first | omega | (split <;> omega))) (by unfold s_may; first | omega | ((repeat' split) <;> first | rfl | omega)) dX8_may_69 hlocks rfl
    refine z_icmp_ge (x := (M 5 1)) (y := 6) (tgt := 68) hx hb (by omega) (by omega) dX8_may_61 (by decide) (fun c6 => ?_) (fun c6 => ?_)
    · refine W.eq (g2 := F0 m 68 ls []) rfl ?_
      refine lv_iconst (v := iZ 0) hx hb dX8_may_68 (by decide) ?_
      exact K8 0 (by first | rfl | (rw [if_pos c6]; done) | omega | (subst_vars; first | rfl | (rw [if_pos c6]; done) | omega)) ls (lv_sub hl [] rfl)
    · refine lv_iconst (v := iZ 1) hx hb dX8_may_64 (by decide) ?_
      refine lv_goto (tgt := 69) hx hb dX8_may_65 (by decide) ?_
      exact K8 1 (by first | rfl | (rw [if_neg c6]; done) | omega | (subst_vars; first | rfl | (rw [if_neg c6]; done) | omega)) ls (lv_sub hl [] rfl)
  by_cases c9 : wd = 119
  · refine lv_lookup (off := 69) (tgt := 70) hx hb dX8_may_1 (by decide) (by rw [iZ_toInt (by omega), c9]; rfl) (by decide) ?_
    refine lv_aload_n hx hb dX8_may_70 rfl (lv_at hl 0 rfl) ?_
    refine mq_get hx hb hts hin hown hK hP 18 (by decide) (hts (.fieldLink RX8 107 "WordFletchersModel" "isBlown" "Z") (List.mem_cons_of_mem _ (List.mem_append_left _ (List.mem_of_getElem? (i := 2) rfl)))) rfl dX8_may_71 ?_
    have K12 : ∀ (v11 : Int), (v11 = (if (M 18 0) = 0 then 1 else 0)) → ∀ ls : Array Slot, lv_has ls 2 [] → W p l e ((headSpec wsX8_may ({ frames := 0, cells := 0, slots := 0, locals := 0 })).room) s m (([.ref h, .int (iZ wd)] : List Value).toArray) below meth c s.heap [] 0 0 (MQ below (vp_Si (fun r => r = iZ (s_may M wd))) (([.ref h, .int (iZ wd)] : List Value).toArray) s 0 0 (fun _ => False)) (F0 m 82 ls [.int (iZ v11)]) := by
      intro v11 hv11 ls hl
      exact mq_ret hx hb hr (z_nbool (by first | omega | (split <;> omega))) (by unfold s_may; first | omega | ((repeat' split) <;> first | rfl | omega)) dX8_may_82 hlocks rfl
    refine z_if_ne (x := (M 18 0)) (tgt := 81) hx hb (by omega) dX8_may_74 (by decide) (fun c10 => ?_) (fun c10 => ?_)
    · refine lv_iconst (v := iZ 0) hx hb dX8_may_81 (by decide) ?_
      exact K12 0 (by first | rfl | (rw [if_neg c10]; done) | omega | (subst_vars; first | rfl | (rw [if_neg c10]; done) | omega)) ls (lv_sub hl [] rfl)
    · refine lv_iconst (v := iZ 1) hx hb dX8_may_77 (by decide) ?_
      refine lv_goto (tgt := 82) hx hb dX8_may_78 (by decide) ?_
      exact K12 1 (by first | rfl | (rw [if_pos c10]; done) | omega | (subst_vars; first | rfl | (rw [if_pos c10]; done) | omega)) ls (lv_sub hl [] rfl)
  refine lv_lookup (off := 82) (tgt := 83) hx hb dX8_may_1 (by decide) (by rw [iZ_toInt (by omega)]; first | (simp [Op.lookupswitch.offset, Ne.symm c1, Ne.symm c5, Ne.symm c9, c1, c5, c9]; done) | (simp [Op.lookupswitch.offset, Ne.symm c1, Ne.symm c5, Ne.symm c9, c1, c5, c9]; rfl)) (by decide) ?_
  refine lv_iload_n hx hb dX8_may_83 rfl (lv_at hl 1 rfl) ?_
  refine W.eq (g2 := F0 m 84 ls [.int (iZ wd)]) rfl ?_
  refine lv_bipush (v := iZ 102) hx hb dX8_may_84 (by decide) ?_
  have K16 : ∀ (v15 : Int), (v15 = (if wd = 102 then 1 else 0)) → ∀ ls : Array Slot, lv_has ls 2 [] → W p l e ((headSpec wsX8_may ({ frames := 0, cells := 0, slots := 0, locals := 0 })).room) s m (([.ref h, .int (iZ wd)] : List Value).toArray) below meth c s.heap [] 0 0 (MQ below (vp_Si (fun r => r = iZ (s_may M wd))) (([.ref h, .int (iZ wd)] : List Value).toArray) s 0 0 (fun _ => False)) (F0 m 94 ls [.int (iZ v15)]) := by
    intro v15 hv15 ls hl
    exact mq_ret hx hb hr (z_nbool (by first | omega | (split <;> omega))) (by unfold s_may; first | omega | ((repeat' split) <;> first | rfl | omega)) dX8_may_94 hlocks rfl
  refine z_icmp_ne (x := wd) (y := 102) (tgt := 93) hx hb (by omega) (by omega) dX8_may_86 (by decide) (fun c14 => ?_) (fun c14 => ?_)
  · refine lv_iconst (v := iZ 0) hx hb dX8_may_93 (by decide) ?_
    exact K16 0 (by first | rfl | (rw [if_neg c14]; done) | omega | (subst_vars; first | rfl | (rw [if_neg c14]; done) | omega)) ls (lv_sub hl [] rfl)
  · refine lv_iconst (v := iZ 1) hx hb dX8_may_89 (by decide) ?_
    refine lv_goto (tgt := 94) hx hb dX8_may_90 (by decide) ?_
    exact K16 1 (by first | rfl | (rw [if_pos c14]; done) | omega | (subst_vars; first | rfl | (rw [if_pos c14]; done) | omega)) ls (lv_sub hl [] rfl)
