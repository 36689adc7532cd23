set_option maxHeartbeats 4000000 in
set_option maxRecDepth 100000 in
theorem C_allot (l : Launch) (D : va_G) (C : mC) (h : Nat) (a : Nat → Nat) (M : Nat → Nat → Int) (st sy : Int) (hI : mI M) (h1 : -2147483648 ≤ st ∧ st < 2147483648) (h2 : -2147483648 ≤ sy ∧ sy < 2147483648) (hN : va_D (fun _ => True) (mW C h a M)) : Met l yX8_allot wsX8_allot ({ frames := 3, cells := 0, slots := 0, locals := 76 }) (va_Pc [.ref h, .int (iZ st), .int (iZ sy)] (mOk D C h a M)) (va_Qi (fun r (_ : Unit) => r = iZ (s_allot M st sy)) (fun _ t => mOk D C h a (f_allot M st sy) t) (mA h a)) 0 0 (mA h a) := by
  refine Met.ofW (cc := cX8_allot) (maxL := 8) (ret := (some .int)) (by decide) rfl ?_
  intro p e s m args below meth c s₁ B hml hv
  obtain ⟨rfl, hP, hK⟩ := hv
  have hx := B.exec
  have hb := B.bytes
  have hr := B.returns
  have hts := atoms_spec (ws := wsX8_allot) B.pre
  have hown : s.vm.findClass RX8 = some m.cls := findClass_of_methodNamed B.named
  have hlocks := B.notSynchronized
  have hin : ∀ w ∈ wsX80, w ∈ wsX8_allot := fun _ w_h => (List.mem_cons_of_mem _ (List.mem_append_right _ w_h))
  have hl := lv_entry ([.ref h, .int (iZ st), .int (iZ sy)]) (n := 8) (Nat.le_of_ble_eq_true rfl)
  rw [lg_entry_eq]
  generalize (lg_sl ([.ref h, .int (iZ st), .int (iZ sy)]) ++ List.replicate (8 - (lg_sl ([.ref h, .int (iZ st), .int (iZ sy)])).length) Slot.unset).toArray = ls at hl ⊢
  replace hl : lv_has ls 8 [(0, .ref h), (1, .int (iZ st)), (2, .int (iZ sy))] := hl
  have hD : va_D (mA h a) (mW C h a M) := mD_own hN
  have hA : ∀ q, mA h a q → mA h a q := fun _ h9 => h9
  generalize hHe : s.heap = H at hP ⊢
  have hS : va_S (mA h a) s.heap H [] := by rw [hHe]; exact va_S.rf
  generalize hlo : ([] : List Loc) = locs at hS ⊢
  clear hHe hlo
  have hnw := mI_now hI
  have hz1 := zp_pos (M 5 0)
  have hz2 := zp_le64 (k := M 5 0) (by omega)
  refine lv_iload_n hx hb dX8_allot_0 rfl (lv_at hl 1 rfl) ?_
  refine lv_iconst (v := iZ 1) hx hb dX8_allot_1 (by decide) ?_
  refine lv_iconst (v := iZ 1) hx hb dX8_allot_2 (by decide) ?_
  refine lv_aload_n hx hb dX8_allot_3 rfl (lv_at hl 0 rfl) ?_
  refine mq_get hx hb hts hin hown hK hP 5 (by decide) (hts (.fieldLink RX8 23 "WordFletchersModel" "sayings" "[I") (List.mem_cons_of_mem _ (List.mem_append_left _ (List.mem_append_left _ (List.mem_of_getElem? (i := 0) rfl))))) rfl dX8_allot_4 ?_
  refine lv_iconst (v := iZ 0) hx hb dX8_allot_7 (by decide) ?_
  refine mq_iald hx hb hK hP 5 5 (n := 2) rfl (by decide) 0 rfl (by omega) dX8_allot_8 ?_
  refine W.eq (g2 := F0 m 9 ls [.int (iZ (M 5 0)), .int (iZ 1), .int (iZ 1), .int (iZ st)]) rfl ?_
  refine z_ishl1 hx hb (by omega) dX8_allot_9 ?_
  refine lv_iconst (v := iZ 1) hx hb dX8_allot_10 (by decide) ?_
  refine z_isub hx hb dX8_allot_11 ?_
  refine mq_cs (As := [.int (iZ st), .int (iZ 1), .int (iZ ((zp (M 5 0)) - 1))]) (rest := []) ⟨hx, hb, hml, hown, hts⟩ (C_in l st 1 ((zp (M 5 0)) - 1) (by omega) (by omega) (by omega)) (va_cwS 3 hts gX8_allot_X8_in rfl rfl rfl (by decide +kernel) ⟨Nat.le_of_ble_eq_true rfl, Nat.le_of_ble_eq_true rfl⟩) rfl rfl hl.1 (Nat.le_of_ble_eq_true rfl) ⟨Nat.le_of_ble_eq_true rfl, Nat.le_of_ble_eq_true rfl⟩ dX8_allot_12 ?_
  refine z_ifb_eq (P := (1 ≤ st ∧ st ≤ ((zp (M 5 0)) - 1))) (tgt := 39) hx hb dX8_allot_15 (by decide) (fun c1 => ?_) (fun c1 => ?_)
  · refine lv_iconst (v := iZ (-1)) hx hb dX8_allot_39 (by decide) ?_
    exact mq_retM hx hb hK hP hS hr rfl (by first | (unfold s_allot; rw [if_pos (by omega)]; done) | (rw [e8]; unfold s_al2; rw [ea, ← i5]; first | (rw [if_pos (by omega)]; done) | (rw [if_neg (by omega), if_pos (by omega)]; done) | (rw [if_neg (by omega), if_neg (by omega), ← i4]; have q : oo = sy := (by omega); rw [← q, ← i7]) | omega) | omega) (by unfold f_allot; first | (rw [if_pos (by omega)]; done) | (rw [if_neg (by omega), hK9]; done) | omega) dX8_allot_40 hlocks
  · refine lv_iload_n hx hb dX8_allot_18 rfl (lv_at hl 2 rfl) ?_
    refine lv_iconst (v := iZ (-1)) hx hb dX8_allot_19 (by decide) ?_
    refine z_icmp_eq (x := sy) (y := (-1)) (tgt := 41) hx hb (by omega) (by omega) dX8_allot_20 (by decide) (fun c2 => ?_) (fun c2 => ?_)
    · refine lv_aload_n hx hb dX8_allot_41 rfl (lv_at hl 0 rfl) ?_
      refine mq_cv (As := []) (rest := []) ⟨hx, hb, hml, hown, hts⟩ hK hP hD hS hA (C_tellDue l D C h a M  hI (hD.weaken (fun _ _ _ _ => trivial))) (cwV 0 hts gX8_allot_X8_tellDue rfl rfl rfl (by decide +kernel) ⟨Nat.le_of_ble_eq_true rfl, Nat.le_of_ble_eq_true rfl⟩) rfl rfl hl.1 (Nat.le_of_ble_eq_true rfl) ⟨Nat.le_of_ble_eq_true rfl, Nat.le_of_ble_eq_true rfl⟩ dX8_allot_42 (fun H locs hP hD hS => ?_)
      obtain ⟨M3, hM3⟩ : ∃ z : Nat → Nat → Int, z = (f_td M) := ⟨_, rfl⟩
      rw [← hM3] at hP hD
      have hK9 : f_td M = M3 := hM3.symm
      have q3 : ∀ f, f ≠ 25 → M3 f = M f := fun f hf => by rw [hM3]; exact f_tdN_o _ _ hf
      have hI_M3 : mI M3 := mI_oo hI (fun f _ hf => q3 f hf)
      have hnw2 := mI_now hI_M3
      have g5 := congrFun (q3 5 (by decide)) 0
      have hm25 : ∀ k : Nat, (k : Int) < 4 * M3 5 0 → 0 ≤ M3 25 k ∧ M3 25 k ≤ 1000000 := fun k h9 => by rw [← hK9]; exact f_td_bd M k (by omega)
      have e8 : s_allot M st sy = s_al2 M3 st sy := by unfold s_allot; rw [if_neg (by omega), hK9]
      have hb6 := s_bits6 (st := st) (by omega)
      refine W.eq (g2 := F0 m 45 ls []) rfl ?_
      refine lv_iconst (v := iZ 1) hx hb dX8_allot_45 (by decide) ?_
      refine lv_istore_n (lv' := [(3, .int (iZ 1)), (0, .ref h), (1, .int (iZ st)), (2, .int (iZ sy))]) hx hb dX8_allot_46 rfl hl (by decide) rfl (fun ls hl => ?_)
      refine lv_iconst (v := iZ 0) hx hb dX8_allot_47 (by decide) ?_
      refine lv_istore (lv' := [(4, .int (iZ 0)), (3, .int (iZ 1)), (0, .ref h), (1, .int (iZ st)), (2, .int (iZ sy))]) hx hb dX8_allot_48 hl (by decide) rfl (fun ls hl => ?_)
      replace hl : lv_has ls 8 [(4, .int (iZ (0 : Int))), (3, .int (iZ (1 : Int))), (0, .ref h), (1, .int (iZ st)), (2, .int (iZ sy))] := lv_sub hl [0, 1, 2, 3, 4] rfl
      revert ls
      refine z_loop (σ := Int × Int) (fun x9 => ((0 ≤ x9.2 ∧ x9.2 ≤ s_bits st)) ∧ (x9.1 = zq x9.2)) (fun x9 => [(4, .int (iZ (x9.2))), (3, .int (iZ (x9.1))), (0, .ref h), (1, .int (iZ st)), (2, .int (iZ sy))]) 8 (fun x9 => (s_bits st - x9.2).toNat) ((1 : Int), (0 : Int)) ⟨(by show (0 ≤ (0 : Int) ∧ (0 : Int) ≤ s_bits st); have hbi := s_bits_bd st; omega), (by show (1 : Int) = zq (0 : Int); rfl)⟩ ?_
      rintro ⟨rr, kk⟩ hI9 ih50 ls hl
      obtain ⟨i1, i2⟩ := hI9
      replace i1 : (0 ≤ kk ∧ kk ≤ s_bits st) := i1
      replace i2 : rr = zq kk := i2
      replace hl : lv_has ls 8 [(4, .int (iZ kk)), (3, .int (iZ rr)), (0, .ref h), (1, .int (iZ st)), (2, .int (iZ sy))] := hl
      have hq6 := zq_bd (k := kk) (by omega)
      refine lv_iload hx hb dX8_allot_50 (lv_at hl 0 rfl) ?_
      refine lv_iload_n hx hb dX8_allot_52 rfl (lv_at hl 3 rfl) ?_
      refine mq_cs (As := [.int (iZ st)]) (rest := [.int (iZ kk)]) ⟨hx, hb, hml, hown, hts⟩ (C_bitsOf l st (by omega)) (va_cwS 1 hts gX8_allot_X8_bitsOf rfl rfl rfl (by decide +kernel) ⟨Nat.le_of_ble_eq_true rfl, Nat.le_of_ble_eq_true rfl⟩) rfl rfl hl.1 (Nat.le_of_ble_eq_true rfl) ⟨Nat.le_of_ble_eq_true rfl, Nat.le_of_ble_eq_true rfl⟩ dX8_allot_53 ?_
      have hbi := s_bits_bd st
      refine z_icmp_ge (x := kk) (y := s_bits st) (tgt := 69) hx hb (by omega) (by omega) dX8_allot_56 (by decide) (fun c4 => ?_) (fun c4 => ?_)
      · refine lv_iconst (v := iZ 0) hx hb dX8_allot_69 (by decide) ?_
        refine lv_istore (lv' := [(4, .int (iZ 0)), (3, .int (iZ rr)), (0, .ref h), (1, .int (iZ st)), (2, .int (iZ sy))]) hx hb dX8_allot_70 hl (by decide) rfl (fun ls hl => ?_)
        refine z_ldc (n := 1000000) hx hb hown (hts (Cond.constant RX8 181 (1000000)) (List.mem_cons_of_mem _ (List.mem_append_left _ (List.mem_append_left _ (List.mem_of_getElem? (i := 1) rfl))))) (by decide) dX8_allot_72 ?_
        refine lv_istore (lv' := [(5, .int (iZ 1000000)), (4, .int (iZ 0)), (3, .int (iZ rr)), (0, .ref h), (1, .int (iZ st)), (2, .int (iZ sy))]) hx hb dX8_allot_74 hl (by decide) rfl (fun ls hl => ?_)
        refine lv_iconst (v := iZ 0) hx hb dX8_allot_76 (by decide) ?_
        refine lv_istore (lv' := [(6, .int (iZ 0)), (5, .int (iZ 1000000)), (4, .int (iZ 0)), (3, .int (iZ rr)), (0, .ref h), (1, .int (iZ st)), (2, .int (iZ sy))]) hx hb dX8_allot_77 hl (by decide) rfl (fun ls hl => ?_)
        replace hl : lv_has ls 8 [(6, .int (iZ (0 : Int))), (5, .int (iZ (1000000 : Int))), (4, .int (iZ (0 : Int))), (3, .int (iZ rr)), (0, .ref h), (1, .int (iZ st)), (2, .int (iZ sy))] := lv_sub hl [0, 1, 2, 3, 4, 5, 6] rfl
        revert ls
        refine z_loop (σ := Int × Int × Int) (fun x9 => ((0 ≤ x9.2.2 ∧ x9.2.2 ≤ rr) ∧ (0 ≤ x9.1 ∧ x9.1 ≤ 4096) ∧ (0 ≤ x9.2.1 ∧ x9.2.1 ≤ 1000000)) ∧ (x9.1 = (s_alN M3 st (Int.toNat x9.2.2)).1) ∧ (x9.2.1 = (s_alN M3 st (Int.toNat x9.2.2)).2)) (fun x9 => [(6, .int (iZ (x9.2.2))), (5, .int (iZ (x9.2.1))), (4, .int (iZ (x9.1))), (3, .int (iZ rr)), (0, .ref h), (1, .int (iZ st)), (2, .int (iZ sy))]) 8 (fun x9 => (rr - x9.2.2).toNat) ((0 : Int), (1000000 : Int), (0 : Int)) ⟨(by show (0 ≤ (0 : Int) ∧ (0 : Int) ≤ rr) ∧ (0 ≤ (0 : Int) ∧ (0 : Int) ≤ 4096) ∧ (0 ≤ (1000000 : Int) ∧ (1000000 : Int) ≤ 1000000); omega), (by show (0 : Int) = (s_alN M3 st (Int.toNat (0 : Int))).1; rfl), (by show (1000000 : Int) = (s_alN M3 st (Int.toNat (0 : Int))).2; rfl)⟩ ?_
        rintro ⟨fo, fw, rw⟩ hI9 ih79 ls hl
        obtain ⟨i3, i4, i5⟩ := hI9
        replace i3 : (0 ≤ rw ∧ rw ≤ rr) ∧ (0 ≤ fo ∧ fo ≤ 4096) ∧ (0 ≤ fw ∧ fw ≤ 1000000) := i3
        replace i4 : fo = (s_alN M3 st (Int.toNat rw)).1 := i4
        replace i5 : fw = (s_alN M3 st (Int.toNat rw)).2 := i5
        replace hl : lv_has ls 8 [(6, .int (iZ rw)), (5, .int (iZ fw)), (4, .int (iZ fo)), (3, .int (iZ rr)), (0, .ref h), (1, .int (iZ st)), (2, .int (iZ sy))] := hl
        refine lv_iload hx hb dX8_allot_79 (lv_at hl 0 rfl) ?_
        refine lv_iload_n hx hb dX8_allot_81 rfl (lv_at hl 3 rfl) ?_
        refine z_icmp_ge (x := rw) (y := rr) (tgt := 115) hx hb (by omega) (by omega) dX8_allot_82 (by decide) (fun c5 => ?_) (fun c5 => ?_)
        · have ea : s_alf M3 st = s_alN M3 st (Int.toNat rw) := by unfold s_alf; congr 1; have q : kk = s_bits st := (by omega); rw [← q, ← i2]; congr 1; omega
          refine lv_iload hx hb dX8_allot_115 (lv_at hl 1 rfl) ?_
          refine z_ldc (n := 1000000) hx hb hown (hts (Cond.constant RX8 181 (1000000)) (List.mem_cons_of_mem _ (List.mem_append_left _ (List.mem_append_left _ (List.mem_of_getElem? (i := 1) rfl))))) (by decide) dX8_allot_117 ?_
          refine z_icmp_lt (x := fw) (y := 1000000) (tgt := 125) hx hb (by omega) (by omega) dX8_allot_119 (by decide) (fun c10 => ?_) (fun c10 => ?_)
          · refine lv_iload_n hx hb dX8_allot_125 rfl (lv_at hl 6 rfl) ?_
            refine lv_iconst (v := iZ (-1)) hx hb dX8_allot_126 (by decide) ?_
            refine z_icmp_ne (x := sy) (y := (-1)) (tgt := 133) hx hb (by omega) (by omega) dX8_allot_127 (by decide) (fun c11 => ?_) (fun c11 => ?_)
            · refine lv_aload_n hx hb dX8_allot_133 rfl (lv_at hl 4 rfl) ?_
              refine mq_get hx hb hts hin hown hK hP 5 (by decide) (hts (.fieldLink RX8 23 "WordFletchersModel" "sayings" "[I") (List.mem_cons_of_mem _ (List.mem_append_left _ (List.mem_append_left _ (List.mem_of_getElem? (i := 0) rfl))))) rfl dX8_allot_134 ?_
              refine lv_iconst (v := iZ 0) hx hb dX8_allot_137 (by decide) ?_
              refine mq_iald hx hb hK hP 5 5 (n := 2) rfl (by decide) 0 rfl (by omega) dX8_allot_138 ?_
              refine lv_iconst (v := iZ 1) hx hb dX8_allot_139 (by decide) ?_
              refine W.eq (g2 := F0 m 140 ls [.int (iZ 1), .int (iZ (M3 5 0))]) rfl ?_
              refine z_isub hx hb dX8_allot_140 ?_
              refine lv_istore (lv' := [(6, .int (iZ ((M3 5 0) - 1))), (5, .int (iZ fw)), (4, .int (iZ fo)), (3, .int (iZ rr)), (0, .ref h), (1, .int (iZ st)), (2, .int (iZ sy))]) hx hb dX8_allot_141 hl (by decide) rfl (fun ls hl => ?_)
              replace hl : lv_has ls 8 [(6, .int (iZ ((M3 5 0) - 1))), (4, .int (iZ fo)), (0, .ref h), (1, .int (iZ st)), (2, .int (iZ sy))] := lv_sub hl [0, 2, 4, 5, 6] rfl
              revert ls
              refine z_loop (σ := Int × Int) (fun x9 => ((sy ≤ x9.2 ∧ x9.2 ≤ M3 5 0 - 1) ∧ (0 ≤ x9.1 ∧ x9.1 ≤ 4096)) ∧ (x9.1 = s_dvN M3 st fo (Int.toNat (M3 5 0 - 1 - x9.2)))) (fun x9 => [(6, .int (iZ (x9.2))), (4, .int (iZ (x9.1))), (0, .ref h), (1, .int (iZ st)), (2, .int (iZ sy))]) 8 (fun x9 => (x9.2 - sy).toNat) (fo, ((M3 5 0) - 1)) ⟨(by show (sy ≤ ((M3 5 0) - 1) ∧ ((M3 5 0) - 1) ≤ M3 5 0 - 1) ∧ (0 ≤ fo ∧ fo ≤ 4096); omega), (by show fo = s_dvN M3 st fo (Int.toNat (M3 5 0 - 1 - ((M3 5 0) - 1))); have q9 : ∀ z : Int, Int.toNat (z - (z)) = 0 := fun z => (by omega); rw [q9]; rfl)⟩ ?_
              rintro ⟨dv, oo⟩ hI9 ih143 ls hl
              obtain ⟨i6, i7⟩ := hI9
              replace i6 : (sy ≤ oo ∧ oo ≤ M3 5 0 - 1) ∧ (0 ≤ dv ∧ dv ≤ 4096) := i6
              replace i7 : dv = s_dvN M3 st fo (Int.toNat (M3 5 0 - 1 - oo)) := i7
              replace hl : lv_has ls 8 [(6, .int (iZ oo)), (4, .int (iZ dv)), (0, .ref h), (1, .int (iZ st)), (2, .int (iZ sy))] := hl
              refine lv_iload hx hb dX8_allot_143 (lv_at hl 0 rfl) ?_
              refine lv_iload_n hx hb dX8_allot_145 rfl (lv_at hl 4 rfl) ?_
              refine z_icmp_le (x := oo) (y := sy) (tgt := 174) hx hb (by omega) (by omega) dX8_allot_146 (by decide) (fun c12 => ?_) (fun c12 => ?_)
              · refine lv_bipush (v := iZ 10) hx hb dX8_allot_174 (by decide) ?_
                refine lv_iload hx hb dX8_allot_176 (lv_at hl 1 rfl) ?_
                refine lv_iconst (v := iZ 4) hx hb dX8_allot_178 (by decide) ?_
                refine z_irem hx hb (by omega) (by omega) dX8_allot_179 ?_
                refine z_imul hx hb dX8_allot_180 ?_
                refine lv_aload_n hx hb dX8_allot_181 rfl (lv_at hl 2 rfl) ?_
                refine mq_get hx hb hts hin hown hK hP 25 (by decide) (hts (.fieldLink RX8 63 "WordFletchersModel" "least" "[I") (List.mem_cons_of_mem _ (List.mem_append_left _ (List.mem_append_left _ (List.mem_of_getElem? (i := 2) rfl))))) rfl dX8_allot_182 ?_
                refine W.eq (g2 := F0 m 185 ls [.ref (a 25), .int (iZ (10 * (dv % 4)))]) rfl ?_
                refine lv_iconst (v := iZ 4) hx hb dX8_allot_185 (by decide) ?_
                refine lv_iload_n hx hb dX8_allot_186 rfl (lv_at hl 4 rfl) ?_
                refine z_imul hx hb dX8_allot_187 ?_
                refine lv_iload hx hb dX8_allot_188 (lv_at hl 1 rfl) ?_
                refine lv_iconst (v := iZ 4) hx hb dX8_allot_190 (by decide) ?_
                refine z_irem hx hb (by omega) (by omega) dX8_allot_191 ?_
                refine z_iadd hx hb dX8_allot_192 ?_
                refine mq_iald hx hb hK hP 25 18 (n := 24) rfl (by decide) (Int.toNat ((4 * sy) + (dv % 4))) rfl (by omega) dX8_allot_193 ?_
                refine z_iadd hx hb dX8_allot_194 ?_
                exact mq_retM hx hb hK hP hS hr rfl (by first | (unfold s_allot; rw [if_pos (by omega)]; done) | (rw [e8]; unfold s_al2; rw [ea, ← i5]; first | (rw [if_pos (by omega)]; done) | (rw [if_neg (by omega), if_pos (by omega)]; done) | (rw [if_neg (by omega), if_neg (by omega), ← i4]; have q : oo = sy := (by omega); rw [← q, ← i7]) | omega) | omega) (by unfold f_allot; first | (rw [if_pos (by omega)]; done) | (rw [if_neg (by omega), hK9]; done) | omega) dX8_allot_195 hlocks
              · refine lv_iload hx hb dX8_allot_149 (lv_at hl 1 rfl) ?_
                refine lv_iload_n hx hb dX8_allot_151 rfl (lv_at hl 3 rfl) ?_
                refine W.eq (g2 := F0 m 152 ls [.int (iZ st), .int (iZ dv)]) rfl ?_
                refine lv_iload hx hb dX8_allot_152 (lv_at hl 0 rfl) ?_
                refine mq_cs (As := [.int (iZ st), .int (iZ oo)]) (rest := [.int (iZ dv)]) ⟨hx, hb, hml, hown, hts⟩ (C_has l st oo (by omega) (by omega)) (va_cwS 2 hts gX8_allot_X8_has rfl rfl rfl (by decide +kernel) ⟨Nat.le_of_ble_eq_true rfl, Nat.le_of_ble_eq_true rfl⟩) rfl rfl hl.1 (Nat.le_of_ble_eq_true rfl) ⟨Nat.le_of_ble_eq_true rfl, Nat.le_of_ble_eq_true rfl⟩ dX8_allot_154 ?_
                have K18 : ∀ (v17 : Int), (v17 = (if (st / zp oo % 2 = 1) then 4 else 1)) → ∀ ls : Array Slot, lv_has ls 8 [(6, .int (iZ oo)), (0, .ref h), (1, .int (iZ st)), (2, .int (iZ sy))] → W p l e ((headSpec wsX8_allot ({ frames := 3, cells := 0, slots := 0, locals := 76 })).room) s m (([.ref h, .int (iZ st), .int (iZ sy)] : List Value).toArray) below meth c H locs 0 0 (MQ below (va_Qi (fun r (_ : Unit) => r = iZ (s_allot M st sy)) (fun _ t => mOk D C h a (f_allot M st sy) t) (mA h a)) (([.ref h, .int (iZ st), .int (iZ sy)] : List Value).toArray) s 0 0 (mA h a)) (F0 m 165 ls [.int (iZ v17), .int (iZ dv)]) := by
                  intro v17 hv17 ls hl
                  refine z_idiv hx hb (by omega) (by omega) dX8_allot_165 ?_
                  refine lv_istore (lv' := [(4, .int (iZ (dv / v17))), (6, .int (iZ oo)), (0, .ref h), (1, .int (iZ st)), (2, .int (iZ sy))]) hx hb dX8_allot_166 hl (by decide) rfl (fun ls hl => ?_)
                  refine lv_iinc (v := iZ (oo + (-1))) (lv' := [(6, .int (iZ (oo + (-1)))), (4, .int (iZ (dv / v17))), (0, .ref h), (1, .int (iZ st)), (2, .int (iZ sy))]) hx hb dX8_allot_168 hl (k := 1) rfl (iZ_add _ _) (by decide) rfl (fun ls hl => ?_)
                  refine lv_goto (tgt := 143) hx hb dX8_allot_171 (by decide) ?_
                  have hdv9 : 0 ≤ (dv / v17) ∧ (dv / v17) ≤ 4096 := z_dv4 (by omega) (by omega)
                  exact ih143 ((dv / v17), (oo + (-1))) ⟨(by show (sy ≤ (oo + (-1)) ∧ (oo + (-1)) ≤ M3 5 0 - 1) ∧ (0 ≤ (dv / v17) ∧ (dv / v17) ≤ 4096); omega), (by show (dv / v17) = s_dvN M3 st fo (Int.toNat (M3 5 0 - 1 - (oo + (-1)))); rw [s_dvN_succ _ _ _ (by omega), ← i7]; congr 1)⟩ (by show ((oo + (-1)) - sy).toNat < (oo - sy).toNat; omega) ls (lv_sub hl [0, 1, 2, 3, 4] rfl)
                refine z_ifb_eq (P := (st / zp oo % 2 = 1)) (tgt := 164) hx hb dX8_allot_157 (by decide) (fun c16 => ?_) (fun c16 => ?_)
                · refine lv_iconst (v := iZ 1) hx hb dX8_allot_164 (by decide) ?_
                  exact K18 1 (by first | rfl | (rw [if_neg c16]; done) | omega | (subst_vars; first | rfl | (rw [if_neg c16]; done) | omega)) ls (lv_sub hl [0, 2, 3, 4] rfl)
                · refine lv_iconst (v := iZ 4) hx hb dX8_allot_160 (by decide) ?_
                  refine lv_goto (tgt := 165) hx hb dX8_allot_161 (by decide) ?_
                  exact K18 4 (by first | rfl | (rw [if_pos c16]; done) | omega | (subst_vars; first | rfl | (rw [if_pos c16]; done) | omega)) ls (lv_sub hl [0, 2, 3, 4] rfl)
            · refine lv_iload hx hb dX8_allot_130 (lv_at hl 1 rfl) ?_
              exact mq_retM hx hb hK hP hS hr rfl (by first | (unfold s_allot; rw [if_pos (by omega)]; done) | (rw [e8]; unfold s_al2; rw [ea, ← i5]; first | (rw [if_pos (by omega)]; done) | (rw [if_neg (by omega), if_pos (by omega)]; done) | (rw [if_neg (by omega), if_neg (by omega), ← i4]; have q : oo = sy := (by omega); rw [← q, ← i7]) | omega) | omega) (by unfold f_allot; first | (rw [if_pos (by omega)]; done) | (rw [if_neg (by omega), hK9]; done) | omega) dX8_allot_132 hlocks
          · refine W.eq (g2 := F0 m 122 ls []) rfl ?_
            refine lv_bipush (v := iZ (-9)) hx hb dX8_allot_122 (by decide) ?_
            exact mq_retM hx hb hK hP hS hr rfl (by first | (unfold s_allot; rw [if_pos (by omega)]; done) | (rw [e8]; unfold s_al2; rw [ea, ← i5]; first | (rw [if_pos (by omega)]; done) | (rw [if_neg (by omega), if_pos (by omega)]; done) | (rw [if_neg (by omega), if_neg (by omega), ← i4]; have q : oo = sy := (by omega); rw [← q, ← i7]) | omega) | omega) (by unfold f_allot; first | (rw [if_pos (by omega)]; done) | (rw [if_neg (by omega), hK9]; done) | omega) dX8_allot_124 hlocks
        · refine lv_aload_n hx hb dX8_allot_85 rfl (lv_at hl 4 rfl) ?_
          refine lv_iload_n hx hb dX8_allot_86 rfl (lv_at hl 5 rfl) ?_
          refine lv_iload hx hb dX8_allot_87 (lv_at hl 0 rfl) ?_
          refine mq_ci (As := [.int (iZ st), .int (iZ rw)]) (rest := []) ⟨hx, hb, hml, hown, hts⟩ hK hP (C_takes l D C h a M3 st rw hI_M3 (by omega) (by omega) hm25) (cwV 2 hts gX8_allot_X8_takes rfl rfl rfl (by decide +kernel) ⟨Nat.le_of_ble_eq_true rfl, Nat.le_of_ble_eq_true rfl⟩) rfl rfl hl.1 (Nat.le_of_ble_eq_true rfl) ⟨Nat.le_of_ble_eq_true rfl, Nat.le_of_ble_eq_true rfl⟩ dX8_allot_89 ?_
          refine z_nm (fun vt hvt => ?_)
          have hvt2 : 0 ≤ vt ∧ vt ≤ 1000000 := by rw [hvt]; exact s_takes_bd (by omega) (by omega) hm25
          refine lv_istore (lv' := [(7, .int (iZ vt)), (6, .int (iZ rw)), (5, .int (iZ fw)), (4, .int (iZ fo)), (3, .int (iZ rr)), (0, .ref h), (1, .int (iZ st)), (2, .int (iZ sy))]) hx hb dX8_allot_92 hl (by decide) rfl (fun ls hl => ?_)
          refine lv_iload hx hb dX8_allot_94 (lv_at hl 0 rfl) ?_
          refine lv_iload hx hb dX8_allot_96 (lv_at hl 2 rfl) ?_
          have K22 : ∀ (v20 : Int) (v21 : Int), (v20 = (if fw ≤ vt then fw else vt)) → (v21 = (if fw ≤ vt then fo else rw)) → ∀ ls : Array Slot, lv_has ls 8 [(6, .int (iZ rw)), (5, .int (iZ v20)), (4, .int (iZ v21)), (3, .int (iZ rr)), (0, .ref h), (1, .int (iZ st)), (2, .int (iZ sy))] → W p l e ((headSpec wsX8_allot ({ frames := 3, cells := 0, slots := 0, locals := 76 })).room) s m (([.ref h, .int (iZ st), .int (iZ sy)] : List Value).toArray) below meth c H locs 0 0 (MQ below (va_Qi (fun r (_ : Unit) => r = iZ (s_allot M st sy)) (fun _ t => mOk D C h a (f_allot M st sy) t) (mA h a)) (([.ref h, .int (iZ st), .int (iZ sy)] : List Value).toArray) s 0 0 (mA h a)) (F0 m 109 ls []) := by
            intro v20 v21 hv20 hv21 ls hl
            refine lv_iinc (v := iZ (rw + 1)) (lv' := [(6, .int (iZ (rw + 1))), (5, .int (iZ v20)), (4, .int (iZ v21)), (3, .int (iZ rr)), (0, .ref h), (1, .int (iZ st)), (2, .int (iZ sy))]) hx hb dX8_allot_109 hl (k := 0) rfl (iZ_add _ _) (by decide) rfl (fun ls hl => ?_)
            refine lv_goto (tgt := 79) hx hb dX8_allot_112 (by decide) ?_
            exact ih79 (v21, v20, (rw + 1)) ⟨(by show (0 ≤ (rw + 1) ∧ (rw + 1) ≤ rr) ∧ (0 ≤ v21 ∧ v21 ≤ 4096) ∧ (0 ≤ v20 ∧ v20 ≤ 1000000); omega), (by show v21 = (s_alN M3 st (Int.toNat (rw + 1))).1; rw [s_alN_1 _ _ (by omega), ← i4, ← i5, ← hvt]; omega), (by show v20 = (s_alN M3 st (Int.toNat (rw + 1))).2; rw [s_alN_2 _ _ (by omega), ← i5, ← hvt]; omega)⟩ (by show (rr - (rw + 1)).toNat < (rr - rw).toNat; omega) ls (lv_sub hl [0, 1, 2, 3, 4, 5, 6] rfl)
          refine z_icmp_ge (x := vt) (y := fw) (tgt := 109) hx hb (by omega) (by omega) dX8_allot_98 (by decide) (fun c19 => ?_) (fun c19 => ?_)
          · exact K22 fw fo (by first | rfl | (rw [if_pos c19]; done) | omega | (subst_vars; first | rfl | (rw [if_pos c19]; done) | omega)) (by first | rfl | (rw [if_pos c19]; done) | omega | (subst_vars; first | rfl | (rw [if_pos c19]; done) | omega)) ls (lv_sub hl [1, 2, 3, 4, 5, 6, 7] rfl)
          · refine lv_iload hx hb dX8_allot_101 (lv_at hl 1 rfl) ?_
            refine lv_istore (lv' := [(4, .int (iZ rw)), (7, .int (iZ vt)), (6, .int (iZ rw)), (5, .int (iZ fw)), (3, .int (iZ rr)), (0, .ref h), (1, .int (iZ st)), (2, .int (iZ sy))]) hx hb dX8_allot_103 hl (by decide) rfl (fun ls hl => ?_)
            refine W.eq (g2 := F0 m 105 ls []) rfl ?_
            refine lv_iload hx hb dX8_allot_105 (lv_at hl 1 rfl) ?_
            refine lv_istore (lv' := [(5, .int (iZ vt)), (4, .int (iZ rw)), (7, .int (iZ vt)), (6, .int (iZ rw)), (3, .int (iZ rr)), (0, .ref h), (1, .int (iZ st)), (2, .int (iZ sy))]) hx hb dX8_allot_107 hl (by decide) rfl (fun ls hl => ?_)
            exact K22 vt rw (by first | rfl | (rw [if_neg c19]; done) | omega | (subst_vars; first | rfl | (rw [if_neg c19]; done) | omega)) (by first | rfl | (rw [if_neg c19]; done) | omega | (subst_vars; first | rfl | (rw [if_neg c19]; done) | omega)) ls (lv_sub hl [3, 0, 1, 4, 5, 6, 7] rfl)
      · refine lv_iload_n hx hb dX8_allot_59 rfl (lv_at hl 1 rfl) ?_
        refine lv_iconst (v := iZ 4) hx hb dX8_allot_60 (by decide) ?_
        refine z_imul hx hb dX8_allot_61 ?_
        refine lv_istore_n (lv' := [(3, .int (iZ (rr * 4))), (4, .int (iZ kk)), (0, .ref h), (1, .int (iZ st)), (2, .int (iZ sy))]) hx hb dX8_allot_62 rfl hl (by decide) rfl (fun ls hl => ?_)
        refine lv_iinc (v := iZ (kk + 1)) (lv' := [(4, .int (iZ (kk + 1))), (3, .int (iZ (rr * 4))), (0, .ref h), (1, .int (iZ st)), (2, .int (iZ sy))]) hx hb dX8_allot_63 hl (k := 1) rfl (iZ_add _ _) (by decide) rfl (fun ls hl => ?_)
        refine lv_goto (tgt := 50) hx hb dX8_allot_66 (by decide) ?_
        exact ih50 ((rr * 4), (kk + 1)) ⟨(by show (0 ≤ (kk + 1) ∧ (kk + 1) ≤ s_bits st); omega), (by show (rr * 4) = zq (kk + 1); rw [zq_succ (by omega), i2])⟩ (by show (s_bits st - (kk + 1)).toNat < (s_bits st - kk).toNat; omega) ls (lv_sub hl [0, 1, 2, 3, 4] rfl)
    · refine lv_aload_n hx hb dX8_allot_23 rfl (lv_at hl 0 rfl) ?_
      refine lv_iload_n hx hb dX8_allot_24 rfl (lv_at hl 2 rfl) ?_
      refine W.eq (g2 := F0 m 25 ls [.int (iZ sy), .ref h]) rfl ?_
      refine mq_ci (As := [.int (iZ sy)]) (rest := []) ⟨hx, hb, hml, hown, hts⟩ hK hP (C_isSaying l D C h a M sy hI (by omega)) (cwV 1 hts gX8_allot_X8_isSaying rfl rfl rfl (by decide +kernel) ⟨Nat.le_of_ble_eq_true rfl, Nat.le_of_ble_eq_true rfl⟩) rfl rfl hl.1 (Nat.le_of_ble_eq_true rfl) ⟨Nat.le_of_ble_eq_true rfl, Nat.le_of_ble_eq_true rfl⟩ dX8_allot_25 ?_
      refine z_ifb_eq (P := (0 ≤ sy ∧ sy < M 5 0)) (tgt := 39) hx hb dX8_allot_28 (by decide) (fun c23 => ?_) (fun c23 => ?_)
      · refine lv_iconst (v := iZ (-1)) hx hb dX8_allot_39 (by decide) ?_
        exact mq_retM hx hb hK hP hS hr rfl (by first | (unfold s_allot; rw [if_pos (by omega)]; done) | (rw [e8]; unfold s_al2; rw [ea, ← i5]; first | (rw [if_pos (by omega)]; done) | (rw [if_neg (by omega), if_pos (by omega)]; done) | (rw [if_neg (by omega), if_neg (by omega), ← i4]; have q : oo = sy := (by omega); rw [← q, ← i7]) | omega) | omega) (by unfold f_allot; first | (rw [if_pos (by omega)]; done) | (rw [if_neg (by omega), hK9]; done) | omega) dX8_allot_40 hlocks
      · refine lv_iload_n hx hb dX8_allot_31 rfl (lv_at hl 1 rfl) ?_
        refine lv_iload_n hx hb dX8_allot_32 rfl (lv_at hl 2 rfl) ?_
        refine mq_cs (As := [.int (iZ st), .int (iZ sy)]) (rest := []) ⟨hx, hb, hml, hown, hts⟩ (C_has l st sy (by omega) (by omega)) (va_cwS 2 hts gX8_allot_X8_has rfl rfl rfl (by decide +kernel) ⟨Nat.le_of_ble_eq_true rfl, Nat.le_of_ble_eq_true rfl⟩) rfl rfl hl.1 (Nat.le_of_ble_eq_true rfl) ⟨Nat.le_of_ble_eq_true rfl, Nat.le_of_ble_eq_true rfl⟩ dX8_allot_33 ?_
        refine z_ifb_ne (P := (st / zp sy % 2 = 1)) (tgt := 41) hx hb dX8_allot_36 (by decide) (fun c24 => ?_) (fun c24 => ?_)
        · refine lv_aload_n hx hb dX8_allot_41 rfl (lv_at hl 0 rfl) ?_
          refine mq_cv (As := []) (rest := []) ⟨hx, hb, hml, hown, hts⟩ hK hP hD hS hA (C_tellDue l D C h a M  hI (hD.weaken (fun _ _ _ _ => trivial))) (cwV 0 hts gX8_allot_X8_tellDue rfl rfl rfl (by decide +kernel) ⟨Nat.le_of_ble_eq_true rfl, Nat.le_of_ble_eq_true rfl⟩) rfl rfl hl.1 (Nat.le_of_ble_eq_true rfl) ⟨Nat.le_of_ble_eq_true rfl, Nat.le_of_ble_eq_true rfl⟩ dX8_allot_42 (fun H locs hP hD hS => ?_)
          obtain ⟨M25, hM25⟩ : ∃ z : Nat → Nat → Int, z = (f_td M) := ⟨_, rfl⟩
          rw [← hM25] at hP hD
          have hK9 : f_td M = M25 := hM25.symm
          have q3 : ∀ f, f ≠ 25 → M25 f = M f := fun f hf => by rw [hM25]; exact f_tdN_o _ _ hf
          have hI_M25 : mI M25 := mI_oo hI (fun f _ hf => q3 f hf)
          have hnw2 := mI_now hI_M25
          have g5 := congrFun (q3 5 (by decide)) 0
          have hm25 : ∀ k : Nat, (k : Int) < 4 * M25 5 0 → 0 ≤ M25 25 k ∧ M25 25 k ≤ 1000000 := fun k h9 => by rw [← hK9]; exact f_td_bd M k (by omega)
          have e8 : s_allot M st sy = s_al2 M25 st sy := by unfold s_allot; rw [if_neg (by omega), hK9]
          have hb6 := s_bits6 (st := st) (by omega)
          refine lv_iconst (v := iZ 1) hx hb dX8_allot_45 (by decide) ?_
          refine lv_istore_n (lv' := [(3, .int (iZ 1)), (0, .ref h), (1, .int (iZ st)), (2, .int (iZ sy))]) hx hb dX8_allot_46 rfl hl (by decide) rfl (fun ls hl => ?_)
          refine W.eq (g2 := F0 m 47 ls []) rfl ?_
          refine lv_iconst (v := iZ 0) hx hb dX8_allot_47 (by decide) ?_
          refine lv_istore (lv' := [(4, .int (iZ 0)), (3, .int (iZ 1)), (0, .ref h), (1, .int (iZ st)), (2, .int (iZ sy))]) hx hb dX8_allot_48 hl (by decide) rfl (fun ls hl => ?_)
          replace hl : lv_has ls 8 [(4, .int (iZ (0 : Int))), (3, .int (iZ (1 : Int))), (0, .ref h), (1, .int (iZ st)), (2, .int (iZ sy))] := lv_sub hl [0, 1, 2, 3, 4] rfl
          revert ls
          refine z_loop (σ := Int × Int) (fun x9 => ((0 ≤ x9.2 ∧ x9.2 ≤ s_bits st)) ∧ (x9.1 = zq x9.2)) (fun x9 => [(4, .int (iZ (x9.2))), (3, .int (iZ (x9.1))), (0, .ref h), (1, .int (iZ st)), (2, .int (iZ sy))]) 8 (fun x9 => (s_bits st - x9.2).toNat) ((1 : Int), (0 : Int)) ⟨(by show (0 ≤ (0 : Int) ∧ (0 : Int) ≤ s_bits st); have hbi := s_bits_bd st; omega), (by show (1 : Int) = zq (0 : Int); rfl)⟩ ?_
          rintro ⟨rr, kk⟩ hI9 ih50 ls hl
          obtain ⟨i1, i2⟩ := hI9
          replace i1 : (0 ≤ kk ∧ kk ≤ s_bits st) := i1
          replace i2 : rr = zq kk := i2
          replace hl : lv_has ls 8 [(4, .int (iZ kk)), (3, .int (iZ rr)), (0, .ref h), (1, .int (iZ st)), (2, .int (iZ sy))] := hl
          have hq6 := zq_bd (k := kk) (by omega)
          refine lv_iload hx hb dX8_allot_50 (lv_at hl 0 rfl) ?_
          refine lv_iload_n hx hb dX8_allot_52 rfl (lv_at hl 3 rfl) ?_
          refine mq_cs (As := [.int (iZ st)]) (rest := [.int (iZ kk)]) ⟨hx, hb, hml, hown, hts⟩ (C_bitsOf l st (by omega)) (va_cwS 1 hts gX8_allot_X8_bitsOf rfl rfl rfl (by decide +kernel) ⟨Nat.le_of_ble_eq_true rfl, Nat.le_of_ble_eq_true rfl⟩) rfl rfl hl.1 (Nat.le_of_ble_eq_true rfl) ⟨Nat.le_of_ble_eq_true rfl, Nat.le_of_ble_eq_true rfl⟩ dX8_allot_53 ?_
          have hbi := s_bits_bd st
          refine z_icmp_ge (x := kk) (y := s_bits st) (tgt := 69) hx hb (by omega) (by omega) dX8_allot_56 (by decide) (fun c26 => ?_) (fun c26 => ?_)
          · refine W.eq (g2 := F0 m 69 ls []) rfl ?_
            refine lv_iconst (v := iZ 0) hx hb dX8_allot_69 (by decide) ?_
            refine lv_istore (lv' := [(4, .int (iZ 0)), (3, .int (iZ rr)), (0, .ref h), (1, .int (iZ st)), (2, .int (iZ sy))]) hx hb dX8_allot_70 hl (by decide) rfl (fun ls hl => ?_)
            refine z_ldc (n := 1000000) hx hb hown (hts (Cond.constant RX8 181 (1000000)) (List.mem_cons_of_mem _ (List.mem_append_left _ (List.mem_append_left _ (List.mem_of_getElem? (i := 1) rfl))))) (by decide) dX8_allot_72 ?_
            refine lv_istore (lv' := [(5, .int (iZ 1000000)), (4, .int (iZ 0)), (3, .int (iZ rr)), (0, .ref h), (1, .int (iZ st)), (2, .int (iZ sy))]) hx hb dX8_allot_74 hl (by decide) rfl (fun ls hl => ?_)
            refine lv_iconst (v := iZ 0) hx hb dX8_allot_76 (by decide) ?_
            refine lv_istore (lv' := [(6, .int (iZ 0)), (5, .int (iZ 1000000)), (4, .int (iZ 0)), (3, .int (iZ rr)), (0, .ref h), (1, .int (iZ st)), (2, .int (iZ sy))]) hx hb dX8_allot_77 hl (by decide) rfl (fun ls hl => ?_)
            replace hl : lv_has ls 8 [(6, .int (iZ (0 : Int))), (5, .int (iZ (1000000 : Int))), (4, .int (iZ (0 : Int))), (3, .int (iZ rr)), (0, .ref h), (1, .int (iZ st)), (2, .int (iZ sy))] := lv_sub hl [0, 1, 2, 3, 4, 5, 6] rfl
            revert ls
            refine z_loop (σ := Int × Int × Int) (fun x9 => ((0 ≤ x9.2.2 ∧ x9.2.2 ≤ rr) ∧ (0 ≤ x9.1 ∧ x9.1 ≤ 4096) ∧ (0 ≤ x9.2.1 ∧ x9.2.1 ≤ 1000000)) ∧ (x9.1 = (s_alN M25 st (Int.toNat x9.2.2)).1) ∧ (x9.2.1 = (s_alN M25 st (Int.toNat x9.2.2)).2)) (fun x9 => [(6, .int (iZ (x9.2.2))), (5, .int (iZ (x9.2.1))), (4, .int (iZ (x9.1))), (3, .int (iZ rr)), (0, .ref h), (1, .int (iZ st)), (2, .int (iZ sy))]) 8 (fun x9 => (rr - x9.2.2).toNat) ((0 : Int), (1000000 : Int), (0 : Int)) ⟨(by show (0 ≤ (0 : Int) ∧ (0 : Int) ≤ rr) ∧ (0 ≤ (0 : Int) ∧ (0 : Int) ≤ 4096) ∧ (0 ≤ (1000000 : Int) ∧ (1000000 : Int) ≤ 1000000); omega), (by show (0 : Int) = (s_alN M25 st (Int.toNat (0 : Int))).1; rfl), (by show (1000000 : Int) = (s_alN M25 st (Int.toNat (0 : Int))).2; rfl)⟩ ?_
            rintro ⟨fo, fw, rw⟩ hI9 ih79 ls hl
            obtain ⟨i3, i4, i5⟩ := hI9
            replace i3 : (0 ≤ rw ∧ rw ≤ rr) ∧ (0 ≤ fo ∧ fo ≤ 4096) ∧ (0 ≤ fw ∧ fw ≤ 1000000) := i3
            replace i4 : fo = (s_alN M25 st (Int.toNat rw)).1 := i4
            replace i5 : fw = (s_alN M25 st (Int.toNat rw)).2 := i5
            replace hl : lv_has ls 8 [(6, .int (iZ rw)), (5, .int (iZ fw)), (4, .int (iZ fo)), (3, .int (iZ rr)), (0, .ref h), (1, .int (iZ st)), (2, .int (iZ sy))] := hl
            refine lv_iload hx hb dX8_allot_79 (lv_at hl 0 rfl) ?_
            refine lv_iload_n hx hb dX8_allot_81 rfl (lv_at hl 3 rfl) ?_
            refine z_icmp_ge (x := rw) (y := rr) (tgt := 115) hx hb (by omega) (by omega) dX8_allot_82 (by decide) (fun c27 => ?_) (fun c27 => ?_)
            · have ea : s_alf M25 st = s_alN M25 st (Int.toNat rw) := by unfold s_alf; congr 1; have q : kk = s_bits st := (by omega); rw [← q, ← i2]; congr 1; omega
              refine lv_iload hx hb dX8_allot_115 (lv_at hl 1 rfl) ?_
              refine W.eq (g2 := F0 m 117 ls [.int (iZ fw)]) rfl ?_
              refine z_ldc (n := 1000000) hx hb hown (hts (Cond.constant RX8 181 (1000000)) (List.mem_cons_of_mem _ (List.mem_append_left _ (List.mem_append_left _ (List.mem_of_getElem? (i := 1) rfl))))) (by decide) dX8_allot_117 ?_
              refine z_icmp_lt (x := fw) (y := 1000000) (tgt := 125) hx hb (by omega) (by omega) dX8_allot_119 (by decide) (fun c32 => ?_) (fun c32 => ?_)
              · refine lv_iload_n hx hb dX8_allot_125 rfl (lv_at hl 6 rfl) ?_
                refine lv_iconst (v := iZ (-1)) hx hb dX8_allot_126 (by decide) ?_
                refine z_icmp_ne (x := sy) (y := (-1)) (tgt := 133) hx hb (by omega) (by omega) dX8_allot_127 (by decide) (fun c33 => ?_) (fun c33 => ?_)
                · refine lv_aload_n hx hb dX8_allot_133 rfl (lv_at hl 4 rfl) ?_
                  refine mq_get hx hb hts hin hown hK hP 5 (by decide) (hts (.fieldLink RX8 23 "WordFletchersModel" "sayings" "[I") (List.mem_cons_of_mem _ (List.mem_append_left _ (List.mem_append_left _ (List.mem_of_getElem? (i := 0) rfl))))) rfl dX8_allot_134 ?_
                  refine lv_iconst (v := iZ 0) hx hb dX8_allot_137 (by decide) ?_
                  refine mq_iald hx hb hK hP 5 5 (n := 2) rfl (by decide) 0 rfl (by omega) dX8_allot_138 ?_
                  refine lv_iconst (v := iZ 1) hx hb dX8_allot_139 (by decide) ?_
                  refine z_isub hx hb dX8_allot_140 ?_
                  refine lv_istore (lv' := [(6, .int (iZ ((M25 5 0) - 1))), (5, .int (iZ fw)), (4, .int (iZ fo)), (3, .int (iZ rr)), (0, .ref h), (1, .int (iZ st)), (2, .int (iZ sy))]) hx hb dX8_allot_141 hl (by decide) rfl (fun ls hl => ?_)
                  replace hl : lv_has ls 8 [(6, .int (iZ ((M25 5 0) - 1))), (4, .int (iZ fo)), (0, .ref h), (1, .int (iZ st)), (2, .int (iZ sy))] := lv_sub hl [0, 2, 4, 5, 6] rfl
                  revert ls
                  refine z_loop (σ := Int × Int) (fun x9 => ((sy ≤ x9.2 ∧ x9.2 ≤ M25 5 0 - 1) ∧ (0 ≤ x9.1 ∧ x9.1 ≤ 4096)) ∧ (x9.1 = s_dvN M25 st fo (Int.toNat (M25 5 0 - 1 - x9.2)))) (fun x9 => [(6, .int (iZ (x9.2))), (4, .int (iZ (x9.1))), (0, .ref h), (1, .int (iZ st)), (2, .int (iZ sy))]) 8 (fun x9 => (x9.2 - sy).toNat) (fo, ((M25 5 0) - 1)) ⟨(by show (sy ≤ ((M25 5 0) - 1) ∧ ((M25 5 0) - 1) ≤ M25 5 0 - 1) ∧ (0 ≤ fo ∧ fo ≤ 4096); omega), (by show fo = s_dvN M25 st fo (Int.toNat (M25 5 0 - 1 - ((M25 5 0) - 1))); have q9 : ∀ z : Int, Int.toNat (z - (z)) = 0 := fun z => (by omega); rw [q9]; rfl)⟩ ?_
                  rintro ⟨dv, oo⟩ hI9 ih143 ls hl
                  obtain ⟨i6, i7⟩ := hI9
                  replace i6 : (sy ≤ oo ∧ oo ≤ M25 5 0 - 1) ∧ (0 ≤ dv ∧ dv ≤ 4096) := i6
                  replace i7 : dv = s_dvN M25 st fo (Int.toNat (M25 5 0 - 1 - oo)) := i7
                  replace hl : lv_has ls 8 [(6, .int (iZ oo)), (4, .int (iZ dv)), (0, .ref h), (1, .int (iZ st)), (2, .int (iZ sy))] := hl
                  refine W.eq (g2 := F0 m 143 ls []) rfl ?_
                  refine lv_iload hx hb dX8_allot_143 (lv_at hl 0 rfl) ?_
                  refine lv_iload_n hx hb dX8_allot_145 rfl (lv_at hl 4 rfl) ?_
                  refine z_icmp_le (x := oo) (y := sy) (tgt := 174) hx hb (by omega) (by omega) dX8_allot_146 (by decide) (fun c34 => ?_) (fun c34 => ?_)
                  · refine lv_bipush (v := iZ 10) hx hb dX8_allot_174 (by decide) ?_
                    refine lv_iload hx hb dX8_allot_176 (lv_at hl 1 rfl) ?_
                    refine lv_iconst (v := iZ 4) hx hb dX8_allot_178 (by decide) ?_
                    refine z_irem hx hb (by omega) (by omega) dX8_allot_179 ?_
                    refine z_imul hx hb dX8_allot_180 ?_
                    refine lv_aload_n hx hb dX8_allot_181 rfl (lv_at hl 2 rfl) ?_
                    refine mq_get hx hb hts hin hown hK hP 25 (by decide) (hts (.fieldLink RX8 63 "WordFletchersModel" "least" "[I") (List.mem_cons_of_mem _ (List.mem_append_left _ (List.mem_append_left _ (List.mem_of_getElem? (i := 2) rfl))))) rfl dX8_allot_182 ?_
                    refine lv_iconst (v := iZ 4) hx hb dX8_allot_185 (by decide) ?_
                    refine lv_iload_n hx hb dX8_allot_186 rfl (lv_at hl 4 rfl) ?_
                    refine W.eq (g2 := F0 m 187 ls [.int (iZ sy), .int (iZ 4), .ref (a 25), .int (iZ (10 * (dv % 4)))]) rfl ?_
                    refine z_imul hx hb dX8_allot_187 ?_
                    refine lv_iload hx hb dX8_allot_188 (lv_at hl 1 rfl) ?_
                    refine lv_iconst (v := iZ 4) hx hb dX8_allot_190 (by decide) ?_
                    refine z_irem hx hb (by omega) (by omega) dX8_allot_191 ?_
                    refine z_iadd hx hb dX8_allot_192 ?_
                    refine mq_iald hx hb hK hP 25 18 (n := 24) rfl (by decide) (Int.toNat ((4 * sy) + (dv % 4))) rfl (by omega) dX8_allot_193 ?_
                    refine z_iadd hx hb dX8_allot_194 ?_
                    exact mq_retM hx hb hK hP hS hr rfl (by first | (unfold s_allot; rw [if_pos (by omega)]; done) | (rw [e8]; unfold s_al2; rw [ea, ← i5]; first | (rw [if_pos (by omega)]; done) | (rw [if_neg (by omega), if_pos (by omega)]; done) | (rw [if_neg (by omega), if_neg (by omega), ← i4]; have q : oo = sy := (by omega); rw [← q, ← i7]) | omega) | omega) (by unfold f_allot; first | (rw [if_pos (by omega)]; done) | (rw [if_neg (by omega), hK9]; done) | omega) dX8_allot_195 hlocks
                  · refine lv_iload hx hb dX8_allot_149 (lv_at hl 1 rfl) ?_
                    refine lv_iload_n hx hb dX8_allot_151 rfl (lv_at hl 3 rfl) ?_
                    refine lv_iload hx hb dX8_allot_152 (lv_at hl 0 rfl) ?_
                    refine mq_cs (As := [.int (iZ st), .int (iZ oo)]) (rest := [.int (iZ dv)]) ⟨hx, hb, hml, hown, hts⟩ (C_has l st oo (by omega) (by omega)) (va_cwS 2 hts gX8_allot_X8_has rfl rfl rfl (by decide +kernel) ⟨Nat.le_of_ble_eq_true rfl, Nat.le_of_ble_eq_true rfl⟩) rfl rfl hl.1 (Nat.le_of_ble_eq_true rfl) ⟨Nat.le_of_ble_eq_true rfl, Nat.le_of_ble_eq_true rfl⟩ dX8_allot_154 ?_
                    refine W.eq (g2 := F0 m 157 ls [.int (iZ (if (st / zp oo % 2 = 1) then 1 else 0)), .int (iZ dv)]) rfl ?_
                    have K40 : ∀ (v39 : Int), (v39 = (if (st / zp oo % 2 = 1) then 4 else 1)) → ∀ ls : Array Slot, lv_has ls 8 [(6, .int (iZ oo)), (0, .ref h), (1, .int (iZ st)), (2, .int (iZ sy))] → W p l e ((headSpec wsX8_allot ({ frames := 3, cells := 0, slots := 0, locals := 76 })).room) s m (([.ref h, .int (iZ st), .int (iZ sy)] : List Value).toArray) below meth c H locs 0 0 (MQ below (va_Qi (fun r (_ : Unit) => r = iZ (s_allot M st sy)) (fun _ t => mOk D C h a (f_allot M st sy) t) (mA h a)) (([.ref h, .int (iZ st), .int (iZ sy)] : List Value).toArray) s 0 0 (mA h a)) (F0 m 165 ls [.int (iZ v39), .int (iZ dv)]) := by
                      intro v39 hv39 ls hl
                      refine z_idiv hx hb (by omega) (by omega) dX8_allot_165 ?_
                      refine lv_istore (lv' := [(4, .int (iZ (dv / v39))), (6, .int (iZ oo)), (0, .ref h), (1, .int (iZ st)), (2, .int (iZ sy))]) hx hb dX8_allot_166 hl (by decide) rfl (fun ls hl => ?_)
                      refine lv_iinc (v := iZ (oo + (-1))) (lv' := [(6, .int (iZ (oo + (-1)))), (4, .int (iZ (dv / v39))), (0, .ref h), (1, .int (iZ st)), (2, .int (iZ sy))]) hx hb dX8_allot_168 hl (k := 1) rfl (iZ_add _ _) (by decide) rfl (fun ls hl => ?_)
                      refine lv_goto (tgt := 143) hx hb dX8_allot_171 (by decide) ?_
                      have hdv9 : 0 ≤ (dv / v39) ∧ (dv / v39) ≤ 4096 := z_dv4 (by omega) (by omega)
                      exact ih143 ((dv / v39), (oo + (-1))) ⟨(by show (sy ≤ (oo + (-1)) ∧ (oo + (-1)) ≤ M25 5 0 - 1) ∧ (0 ≤ (dv / v39) ∧ (dv / v39) ≤ 4096); omega), (by show (dv / v39) = s_dvN M25 st fo (Int.toNat (M25 5 0 - 1 - (oo + (-1)))); rw [s_dvN_succ _ _ _ (by omega), ← i7]; congr 1)⟩ (by show ((oo + (-1)) - sy).toNat < (oo - sy).toNat; omega) ls (lv_sub hl [0, 1, 2, 3, 4] rfl)
                    refine z_ifb_eq (P := (st / zp oo % 2 = 1)) (tgt := 164) hx hb dX8_allot_157 (by decide) (fun c38 => ?_) (fun c38 => ?_)
                    · refine lv_iconst (v := iZ 1) hx hb dX8_allot_164 (by decide) ?_
                      exact K40 1 (by first | rfl | (rw [if_neg c38]; done) | omega | (subst_vars; first | rfl | (rw [if_neg c38]; done) | omega)) ls (lv_sub hl [0, 2, 3, 4] rfl)
                    · refine lv_iconst (v := iZ 4) hx hb dX8_allot_160 (by decide) ?_
                      refine lv_goto (tgt := 165) hx hb dX8_allot_161 (by decide) ?_
                      exact K40 4 (by first | rfl | (rw [if_pos c38]; done) | omega | (subst_vars; first | rfl | (rw [if_pos c38]; done) | omega)) ls (lv_sub hl [0, 2, 3, 4] rfl)
                · refine lv_iload hx hb dX8_allot_130 (lv_at hl 1 rfl) ?_
                  exact mq_retM hx hb hK hP hS hr rfl (by first | (unfold s_allot; rw [if_pos (by omega)]; done) | (rw [e8]; unfold s_al2; rw [ea, ← i5]; first | (rw [if_pos (by omega)]; done) | (rw [if_neg (by omega), if_pos (by omega)]; done) | (rw [if_neg (by omega), if_neg (by omega), ← i4]; have q : oo = sy := (by omega); rw [← q, ← i7]) | omega) | omega) (by unfold f_allot; first | (rw [if_pos (by omega)]; done) | (rw [if_neg (by omega), hK9]; done) | omega) dX8_allot_132 hlocks
              · refine lv_bipush (v := iZ (-9)) hx hb dX8_allot_122 (by decide) ?_
                exact mq_retM hx hb hK hP hS hr rfl (by first | (unfold s_allot; rw [if_pos (by omega)]; done) | (rw [e8]; unfold s_al2; rw [ea, ← i5]; first | (rw [if_pos (by omega)]; done) | (rw [if_neg (by omega), if_pos (by omega)]; done) | (rw [if_neg (by omega), if_neg (by omega), ← i4]; have q : oo = sy := (by omega); rw [← q, ← i7]) | omega) | omega) (by unfold f_allot; first | (rw [if_pos (by omega)]; done) | (rw [if_neg (by omega), hK9]; done) | omega) dX8_allot_124 hlocks
            · refine W.eq (g2 := F0 m 85 ls []) rfl ?_
              refine lv_aload_n hx hb dX8_allot_85 rfl (lv_at hl 4 rfl) ?_
              refine lv_iload_n hx hb dX8_allot_86 rfl (lv_at hl 5 rfl) ?_
              refine lv_iload hx hb dX8_allot_87 (lv_at hl 0 rfl) ?_
              refine mq_ci (As := [.int (iZ st), .int (iZ rw)]) (rest := []) ⟨hx, hb, hml, hown, hts⟩ hK hP (C_takes l D C h a M25 st rw hI_M25 (by omega) (by omega) hm25) (cwV 2 hts gX8_allot_X8_takes rfl rfl rfl (by decide +kernel) ⟨Nat.le_of_ble_eq_true rfl, Nat.le_of_ble_eq_true rfl⟩) rfl rfl hl.1 (Nat.le_of_ble_eq_true rfl) ⟨Nat.le_of_ble_eq_true rfl, Nat.le_of_ble_eq_true rfl⟩ dX8_allot_89 ?_
              refine z_nm (fun vt hvt => ?_)
              have hvt2 : 0 ≤ vt ∧ vt ≤ 1000000 := by rw [hvt]; exact s_takes_bd (by omega) (by omega) hm25
              refine lv_istore (lv' := [(7, .int (iZ vt)), (6, .int (iZ rw)), (5, .int (iZ fw)), (4, .int (iZ fo)), (3, .int (iZ rr)), (0, .ref h), (1, .int (iZ st)), (2, .int (iZ sy))]) hx hb dX8_allot_92 hl (by decide) rfl (fun ls hl => ?_)
              refine lv_iload hx hb dX8_allot_94 (lv_at hl 0 rfl) ?_
              refine lv_iload hx hb dX8_allot_96 (lv_at hl 2 rfl) ?_
              have K44 : ∀ (v42 : Int) (v43 : Int), (v42 = (if fw ≤ vt then fw else vt)) → (v43 = (if fw ≤ vt then fo else rw)) → ∀ ls : Array Slot, lv_has ls 8 [(6, .int (iZ rw)), (5, .int (iZ v42)), (4, .int (iZ v43)), (3, .int (iZ rr)), (0, .ref h), (1, .int (iZ st)), (2, .int (iZ sy))] → W p l e ((headSpec wsX8_allot ({ frames := 3, cells := 0, slots := 0, locals := 76 })).room) s m (([.ref h, .int (iZ st), .int (iZ sy)] : List Value).toArray) below meth c H locs 0 0 (MQ below (va_Qi (fun r (_ : Unit) => r = iZ (s_allot M st sy)) (fun _ t => mOk D C h a (f_allot M st sy) t) (mA h a)) (([.ref h, .int (iZ st), .int (iZ sy)] : List Value).toArray) s 0 0 (mA h a)) (F0 m 109 ls []) := by
                intro v42 v43 hv42 hv43 ls hl
                refine W.eq (g2 := F0 m 109 ls []) rfl ?_
                refine lv_iinc (v := iZ (rw + 1)) (lv' := [(6, .int (iZ (rw + 1))), (5, .int (iZ v42)), (4, .int (iZ v43)), (3, .int (iZ rr)), (0, .ref h), (1, .int (iZ st)), (2, .int (iZ sy))]) hx hb dX8_allot_109 hl (k := 0) rfl (iZ_add _ _) (by decide) rfl (fun ls hl => ?_)
                refine lv_goto (tgt := 79) hx hb dX8_allot_112 (by decide) ?_
                exact ih79 (v43, v42, (rw + 1)) ⟨(by show (0 ≤ (rw + 1) ∧ (rw + 1) ≤ rr) ∧ (0 ≤ v43 ∧ v43 ≤ 4096) ∧ (0 ≤ v42 ∧ v42 ≤ 1000000); omega), (by show v43 = (s_alN M25 st (Int.toNat (rw + 1))).1; rw [s_alN_1 _ _ (by omega), ← i4, ← i5, ← hvt]; omega), (by show v42 = (s_alN M25 st (Int.toNat (rw + 1))).2; rw [s_alN_2 _ _ (by omega), ← i5, ← hvt]; omega)⟩ (by show (rr - (rw + 1)).toNat < (rr - rw).toNat; omega) ls (lv_sub hl [0, 1, 2, 3, 4, 5, 6] rfl)
              refine z_icmp_ge (x := vt) (y := fw) (tgt := 109) hx hb (by omega) (by omega) dX8_allot_98 (by decide) (fun c41 => ?_) (fun c41 => ?_)
              · exact K44 fw fo (by first | rfl | (rw [if_pos c41]; done) | omega | (subst_vars; first | rfl | (rw [if_pos c41]; done) | omega)) (by first | rfl | (rw [if_pos c41]; done) | omega | (subst_vars; first | rfl | (rw [if_pos c41]; done) | omega)) ls (lv_sub hl [1, 2, 3, 4, 5, 6, 7] rfl)
              · refine lv_iload hx hb dX8_allot_101 (lv_at hl 1 rfl) ?_
                refine lv_istore (lv' := [(4, .int (iZ rw)), (7, .int (iZ vt)), (6, .int (iZ rw)), (5, .int (iZ fw)), (3, .int (iZ rr)), (0, .ref h), (1, .int (iZ st)), (2, .int (iZ sy))]) hx hb dX8_allot_103 hl (by decide) rfl (fun ls hl => ?_)
                refine lv_iload hx hb dX8_allot_105 (lv_at hl 1 rfl) ?_
                refine lv_istore (lv' := [(5, .int (iZ vt)), (4, .int (iZ rw)), (7, .int (iZ vt)), (6, .int (iZ rw)), (3, .int (iZ rr)), (0, .ref h), (1, .int (iZ st)), (2, .int (iZ sy))]) hx hb dX8_allot_107 hl (by decide) rfl (fun ls hl => ?_)
                exact K44 vt rw (by first | rfl | (rw [if_neg c41]; done) | omega | (subst_vars; first | rfl | (rw [if_neg c41]; done) | omega)) (by first | rfl | (rw [if_neg c41]; done) | omega | (subst_vars; first | rfl | (rw [if_neg c41]; done) | omega)) ls (lv_sub hl [3, 0, 1, 4, 5, 6, 7] rfl)
          · refine lv_iload_n hx hb dX8_allot_59 rfl (lv_at hl 1 rfl) ?_
            refine lv_iconst (v := iZ 4) hx hb dX8_allot_60 (by decide) ?_
            refine z_imul hx hb dX8_allot_61 ?_
            refine lv_istore_n (lv' := [(3, .int (iZ (rr * 4))), (4, .int (iZ kk)), (0, .ref h), (1, .int (iZ st)), (2, .int (iZ sy))]) hx hb dX8_allot_62 rfl hl (by decide) rfl (fun ls hl => ?_)
            refine lv_iinc (v := iZ (kk + 1)) (lv' := [(4, .int (iZ (kk + 1))), (3, .int (iZ (rr * 4))), (0, .ref h), (1, .int (iZ st)), (2, .int (iZ sy))]) hx hb dX8_allot_63 hl (k := 1) rfl (iZ_add _ _) (by decide) rfl (fun ls hl => ?_)
            refine lv_goto (tgt := 50) hx hb dX8_allot_66 (by decide) ?_
            exact ih50 ((rr * 4), (kk + 1)) ⟨(by show (0 ≤ (kk + 1) ∧ (kk + 1) ≤ s_bits st); omega), (by show (rr * 4) = zq (kk + 1); rw [zq_succ (by omega), i2])⟩ (by show (s_bits st - (kk + 1)).toNat < (s_bits st - kk).toNat; omega) ls (lv_sub hl [0, 1, 2, 3, 4] rfl)
        · refine lv_iconst (v := iZ (-1)) hx hb dX8_allot_39 (by decide) ?_
          exact mq_retM hx hb hK hP hS hr rfl (by first | (unfold s_allot; rw [if_pos (by omega)]; done) | (rw [e8]; unfold s_al2; rw [ea, ← i5]; first | (rw [if_pos (by omega)]; done) | (rw [if_neg (by omega), if_pos (by omega)]; done) | (rw [if_neg (by omega), if_neg (by omega), ← i4]; have q : oo = sy := (by omega); rw [← q, ← i7]) | omega) | omega) (by unfold f_allot; first | (rw [if_pos (by omega)]; done) | (rw [if_neg (by omega), hK9]; done) | omega) dX8_allot_40 hlocks
