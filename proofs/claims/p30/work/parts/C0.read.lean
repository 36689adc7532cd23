set_option maxHeartbeats 20000000 in
set_option maxRecDepth 100000 in
theorem K_X5_read (l : Launch) (D : va_G) (C : cC) (a b : Nat → Nat) (V : Nat → Nat → Int) (tl : Int) (to : Nat) (hto : isTo to) (h1 : 0 ≤ tl ∧ tl ≤ 120) (hkb : k_by V) (hDD : va_D (fun _ => True) (cW C a V)) : Met l yX5_read wsX5_read ({ frames := 6, cells := 0, slots := 0, locals := 133 }) (va_Pc [.ref (a 2), .int (iZ tl), .ref (a to)] (cOk D C a b V)) (va_Qi (fun r (_ : Unit) => r = iZ ((f_cread V to tl).2)) (fun _ t => cPo D C a ((f_cread V to tl).1) t) (cA a)) 0 0 (cA a) := by
  refine Met.ofW (cc := cX5_read) (maxL := 4) (ret := (some .int)) (by decide) rfl ?_
  intro p e s m args below meth c s₁ B hml hv
  obtain ⟨rfl, hP, hK, hN⟩ := hv
  have hx := B.exec
  have hb := B.bytes
  have hr := B.returns
  have hts := atoms_spec (ws := wsX5_read) B.pre
  have hown : s.vm.findClass RX5 = some m.cls := findClass_of_methodNamed B.named
  have hlocks := B.notSynchronized
  have hin_X5 : ∀ w ∈ wsX50, w ∈ wsX5_read := fun _ w_h => (List.mem_cons_of_mem _ (List.mem_append_left _ (List.mem_append_right _ w_h)))
  have hin_X6 : ∀ w ∈ wsX60, w ∈ wsX5_read := fun _ w_h => (List.mem_cons_of_mem _ (List.mem_append_right _ w_h))
  have hl := lv_entry ([.ref (a 2), .int (iZ tl), .ref (a to)]) (n := 4) (Nat.le_of_ble_eq_true rfl)
  rw [lg_entry_eq]
  generalize (lg_sl ([.ref (a 2), .int (iZ tl), .ref (a to)]) ++ List.replicate (4 - (lg_sl ([.ref (a 2), .int (iZ tl), .ref (a to)])).length) Slot.unset).toArray = ls at hl ⊢
  replace hl : lv_has ls 4 [(0, .ref (a 2)), (1, .int (iZ tl)), (2, .ref (a to))] := hl
  have hD : va_D (cA a) (cW C a V) := cD_own hDD
  generalize hHe : s.heap = H at hP ⊢
  have hS : va_S (cA a) s.heap H [] := by rw [hHe]; exact va_S.rf
  generalize hlo : ([] : List Loc) = locs at hS ⊢
  clear hHe hlo
  have hto9 := hto
  unfold isTo at hto9
  refine lv_aload_n hx hb dX5_read_0 rfl (lv_at hl 0 rfl) ?_
  refine W.eq (g2 := F0 m 1 ls [.ref (a 2)]) rfl ?_
  refine lv_iload_n hx hb dX5_read_1 rfl (lv_at hl 1 rfl) ?_
  refine lv_aload_n hx hb dX5_read_2 rfl (lv_at hl 0 rfl) ?_
  refine kq_get (i := 2) hx hb hts hin_X5 hown hK hP (by decide) (cE_2 rfl) rfl 0 (by decide) (hts (.fieldLink RX5 9 "WordFletchers$TextReader" "bytes" "[I") (List.mem_cons_of_mem _ (List.mem_append_left _ (List.mem_append_left _ (List.mem_append_left _ (List.mem_of_getElem? (i := 0) rfl)))))) rfl dX5_read_3 ?_
  refine kq_alen (i := 1) hx hb hK hP (by decide) (n := 120) (cE_1 rfl) dX5_read_6 ?_
  refine kq_min (x := tl) (y := 120) hx hb (hml.trans hl.1.symm) hown (hts (.methodLink RX5 15 Lib.Math.min.name) (List.mem_cons_of_mem _ (List.mem_append_left _ (List.mem_append_left _ (List.mem_append_left _ (List.mem_of_getElem? (i := 1) rfl)))))) (hts (.static Lib.Math.min.name) (List.mem_cons_of_mem _ (List.mem_append_left _ (List.mem_append_left _ (List.mem_append_left _ (List.mem_of_getElem? (i := 2) rfl)))))) (hts (.initialized "java/lang/Math") (List.mem_cons_of_mem _ (List.mem_append_left _ (List.mem_append_left _ (List.mem_append_left _ (List.mem_of_getElem? (i := 3) rfl)))))) (hts (.code Lib.Math.min.name Lib.Math.min.code 2 (some .int)) (List.mem_cons_of_mem _ (List.mem_append_left _ (List.mem_append_left _ (List.mem_append_left _ (List.mem_of_getElem? (i := 4) rfl)))))) (Nat.le_of_ble_eq_true rfl) (Nat.le_of_ble_eq_true rfl) (Nat.le_of_ble_eq_true rfl) (Nat.le_of_ble_eq_true rfl) (by omega) (by omega) dX5_read_7 ?_
  refine kq_put (ty := .int) (i := 2) hx hb hts hin_X5 hown tyX5 tyX5_ok nmX5 hK hP hD hS (by decide) (cE_2 rfl) rfl 1 (by decide) (hts (.fieldLink RX5 21 "WordFletchers$TextReader" "length" "I") (List.mem_cons_of_mem _ (List.mem_append_left _ (List.mem_append_left _ (List.mem_append_left _ (List.mem_of_getElem? (i := 5) rfl)))))) rfl (by decide +kernel) rfl rfl (Nat.le_of_ble_eq_true rfl) rfl dX5_read_10 (fun H locs hP hD hS => ?_)
  obtain ⟨V1, hV1⟩ : ∃ z : Nat → Nat → Int, z = (mU V 2 1 (if 120 < tl then 120 else tl)) := ⟨_, rfl⟩
  rw [← hV1] at hP hD
  have w1 : V1 = mU V 2 1 tl := by rw [hV1, if_neg (by omega)]
  refine lv_aload_n hx hb dX5_read_13 rfl (lv_at hl 0 rfl) ?_
  refine lv_iconst (v := iZ 0) hx hb dX5_read_14 (by decide) ?_
  refine kq_put (ty := .int) (i := 2) hx hb hts hin_X5 hown tyX5 tyX5_ok nmX5 hK hP hD hS (by decide) (cE_2 rfl) rfl 2 (by decide) (hts (.fieldLink RX5 25 "WordFletchers$TextReader" "next" "I") (List.mem_cons_of_mem _ (List.mem_append_left _ (List.mem_append_left _ (List.mem_append_left _ (List.mem_of_getElem? (i := 6) rfl)))))) rfl (by decide +kernel) rfl rfl (Nat.le_of_ble_eq_true rfl) rfl dX5_read_15 (fun H locs hP hD hS => ?_)
  obtain ⟨V2, hV2⟩ : ∃ z : Nat → Nat → Int, z = (mU V1 2 2 0) := ⟨_, rfl⟩
  rw [← hV2] at hP hD
  have w2 : V2 = mU (mU V 2 1 tl) 2 2 0 := by rw [hV2, w1]
  refine lv_aload_n hx hb dX5_read_18 rfl (lv_at hl 2 rfl) ?_
  refine kq_cv (i := to) (As := []) (rest := []) ⟨hx, hb, hml, hown, hts⟩ hK hP hN hD hS (isTo.l0 hto) (cE_15 (isTo.s0 hto)) rfl (K_X6_tellNothing l D C a b V2 to hto (hD.weaken (fun _ _ _ _ => trivial))) (cwV 0 hts gX5_read_X6_tellNothing rfl rfl rfl (by decide +kernel) ⟨Nat.le_of_ble_eq_true rfl, Nat.le_of_ble_eq_true rfl⟩) rfl rfl hl.1 (Nat.le_of_ble_eq_true rfl) ⟨Nat.le_of_ble_eq_true rfl, Nat.le_of_ble_eq_true rfl⟩ dX5_read_19 (fun H locs hP hD hS => ?_)
  obtain ⟨V3, hV3⟩ : ∃ z : Nat → Nat → Int, z = (f_no V2 to) := ⟨_, rfl⟩
  rw [← hV3] at hP hD
  have w3 : V3 = f_no (mU (mU V 2 1 tl) 2 2 0) to := by rw [hV3, w2]
  have hH : rdH V3 := by rw [w3]; exact rdH_r0 hto h1 hkb
  refine lv_aload_n hx hb dX5_read_22 rfl (lv_at hl 0 rfl) ?_
  refine W.eq (g2 := F0 m 23 ls [.ref (a 2)]) rfl ?_
  refine kq_cv (i := 2) (As := []) (rest := []) ⟨hx, hb, hml, hown, hts⟩ hK hP hN hD hS (by decide) (cE_2 rfl) rfl (K_X5_step l D C a b V3  (by assumption) (hD.weaken (fun _ _ _ _ => trivial))) (cwV 0 hts gX5_read_X5_step rfl rfl rfl (by decide +kernel) ⟨Nat.le_of_ble_eq_true rfl, Nat.le_of_ble_eq_true rfl⟩) rfl rfl hl.1 (Nat.le_of_ble_eq_true rfl) ⟨Nat.le_of_ble_eq_true rfl, Nat.le_of_ble_eq_true rfl⟩ dX5_read_23 (fun H locs hP hD hS => ?_)
  obtain ⟨V4, hV4⟩ : ∃ z : Nat → Nat → Int, z = (f_kst V3) := ⟨_, rfl⟩
  rw [← hV4] at hP hD
  have w4 : V4 = f_cr0 V to tl := by rw [hV4, w3]; rfl
  have hR_V4 : rdI V4 := by rw [w4]; exact rdI_cr0 hto h1 hkb
  have hd_V4 : dtI V4 to := by rw [w4]; exact dtI_cr0 V hto tl
  refine lv_iconst (v := iZ 0) hx hb dX5_read_26 (by decide) ?_
  refine lv_istore_n (lv' := [(3, .int (iZ 0)), (0, .ref (a 2)), (1, .int (iZ tl)), (2, .ref (a to))]) hx hb dX5_read_27 rfl hl (by decide) rfl (fun ls hl => ?_)
  replace hl : lv_has ls 4 [(3, .int (iZ (0 : Int))), (0, .ref (a 2)), (2, .ref (a to))] := lv_sub hl [0, 1, 3] rfl
  replace hP := And.intro hP hS
  clear hS
  revert ls
  revert hP
  revert H locs
  refine z_loopH (σ := Int × (Nat → Nat → Int)) (fun x9 => (0 ≤ x9.1 ∧ x9.1 ≤ 120) ∧ (f_cread V to tl = f_rl to (Int.toNat (120 - x9.1)) x9.1 x9.2) ∧ (rdI x9.2) ∧ (dtI x9.2 to)) (fun x9 H9 locs9 => va_P D vwCl (cW C a (x9.2)) H9 ∧ va_S (cA a) s.heap H9 locs9) (fun x9 => [(3, .int (iZ (x9.1))), (0, .ref (a 2)), (2, .ref (a to))]) 4 (fun x9 => (120 - x9.1).toNat) ((0 : Int), V4) ⟨(by show 0 ≤ (0 : Int) ∧ (0 : Int) ≤ 120; omega), (by show f_cread V to tl = f_rl to (Int.toNat (120 - (0 : Int))) (0 : Int) V4; rw [w4]; rfl), (by show rdI V4; assumption), (by show dtI V4 to; assumption)⟩ ?_
  rintro ⟨jj, K⟩ hI9 ih28 H locs hPS ls hl
  have hP : va_P D vwCl (cW C a K) H := hPS.1
  have hS : va_S (cA a) s.heap H locs := hPS.2
  clear hPS
  have hD : va_D (cA a) (cW C a K) := cD_re hD
  obtain ⟨i1, i2, i3, i4⟩ := hI9
  replace i1 : 0 ≤ jj ∧ jj ≤ 120 := i1
  replace i2 : f_cread V to tl = f_rl to (Int.toNat (120 - jj)) jj K := i2
  replace i3 : rdI K := i3
  replace i4 : dtI K to := i4
  replace hl : lv_has ls 4 [(3, .int (iZ jj)), (0, .ref (a 2)), (2, .ref (a to))] := hl
  have hRK : rdI K := i3
  have hdK : dtI K to := i4
  have i39 := i3.1.2.2.2.1
  refine lv_aload_n hx hb dX5_read_28 rfl (lv_at hl 1 rfl) ?_
  refine kq_get (i := 2) hx hb hts hin_X5 hown hK hP (by decide) (cE_2 rfl) rfl 3 (by decide) (hts (.fieldLink RX5 36 "WordFletchers$TextReader" "sort" "I") (List.mem_cons_of_mem _ (List.mem_append_left _ (List.mem_append_left _ (List.mem_append_left _ (List.mem_of_getElem? (i := 7) rfl)))))) rfl dX5_read_29 ?_
  refine z_if_eq (x := (K 2 3)) (tgt := 63) hx hb (by omega) dX5_read_32 (by decide) (fun c5 => ?_) (fun c5 => ?_)
  · refine lv_iload_n hx hb dX5_read_63 rfl (lv_at hl 0 rfl) ?_
    exact kq_retM hx hb hK hP hS hr rfl (by rw [i2]; first | (rw [f_rl_end _ _ _ (by omega)]; done) | (rw [f_rl_step to (by omega), if_neg (by omega), ← hit, if_pos (by omega), ← q1]; done) | (rw [show jj = 120 by omega]; rfl)) (by rw [i2]; first | (rw [f_rl_end _ _ _ (by omega)]; done) | (rw [f_rl_step to (by omega), if_neg (by omega), ← hit, if_pos (by omega)]; exact q1) | (rw [show jj = 120 by omega]; rfl)) dX5_read_64 hlocks
  · refine lv_iload_n hx hb dX5_read_35 rfl (lv_at hl 0 rfl) ?_
    refine lv_bipush (v := iZ 120) hx hb dX5_read_36 (by decide) ?_
    refine z_icmp_ge (x := jj) (y := 120) (tgt := 63) hx hb (by omega) (by omega) dX5_read_38 (by decide) (fun c6 => ?_) (fun c6 => ?_)
    · refine lv_iload_n hx hb dX5_read_63 rfl (lv_at hl 0 rfl) ?_
      refine W.eq (g2 := F0 m 64 ls [.int (iZ jj)]) rfl ?_
      exact kq_retM hx hb hK hP hS hr rfl (by rw [i2]; first | (rw [f_rl_end _ _ _ (by omega)]; done) | (rw [f_rl_step to (by omega), if_neg (by omega), ← hit, if_pos (by omega), ← q1]; done) | (rw [show jj = 120 by omega]; rfl)) (by rw [i2]; first | (rw [f_rl_end _ _ _ (by omega)]; done) | (rw [f_rl_step to (by omega), if_neg (by omega), ← hit, if_pos (by omega)]; exact q1) | (rw [show jj = 120 by omega]; rfl)) dX5_read_64 hlocks
    · refine lv_aload_n hx hb dX5_read_41 rfl (lv_at hl 1 rfl) ?_
      refine lv_aload_n hx hb dX5_read_42 rfl (lv_at hl 2 rfl) ?_
      refine kq_cm (i := 2) (As := [.ref (a to)]) (rest := []) ⟨hx, hb, hml, hown, hts⟩ hK hP hN hD hS (by decide) (cE_2 rfl) rfl (K_X5_readItem l D C a b K to hto (by assumption) (by assumption) (hD.weaken (fun _ _ _ _ => trivial))) (cwV 1 hts gX5_read_X5_readItem rfl rfl rfl (by decide +kernel) ⟨Nat.le_of_ble_eq_true rfl, Nat.le_of_ble_eq_true rfl⟩) rfl rfl hl.1 (Nat.le_of_ble_eq_true rfl) ⟨Nat.le_of_ble_eq_true rfl, Nat.le_of_ble_eq_true rfl⟩ dX5_read_43 (fun H locs hP hD hS => ?_)
      obtain ⟨V7, hV7⟩ : ∃ z : Nat → Nat → Int, z = ((x_itm K to).1) := ⟨_, rfl⟩
      rw [← hV7] at hP hD
      have q1 : V7 = (x_itm K to).1 := hV7
      have hR_V7 : rdI V7 := by rw [q1]; exact (rd_itm hto hRK hdK).1
      have hd_V7 : dtI V7 to := by rw [q1]; exact (rd_itm hto hRK hdK).2
      have hs_V7 := hR_V7.1.2.2.1
      have hs2_V7 := hR_V7.1.2.1
      have hs3_V7 := hR_V7.1.1
      have hrb := x_itm_b K to
      refine z_nm (fun it hit => ?_)
      refine z_if_ne (x := it) (tgt := 57) hx hb (by omega) dX5_read_46 (by decide) (fun c8 => ?_) (fun c8 => ?_)
      · refine lv_iinc (v := iZ (jj + 1)) (lv' := [(3, .int (iZ (jj + 1))), (0, .ref (a 2)), (2, .ref (a to))]) hx hb dX5_read_57 hl (k := 0) rfl (iZ_add _ _) (by decide) rfl (fun ls hl => ?_)
        refine lv_goto (tgt := 28) hx hb dX5_read_60 (by decide) ?_
        exact ih28 ((jj + 1), V7) ⟨(by show 0 ≤ (jj + 1) ∧ (jj + 1) ≤ 120; omega), (by show f_cread V to tl = f_rl to (Int.toNat (120 - (jj + 1))) (jj + 1) V7; rw [i2, f_rl_step to (by omega), if_neg (by omega), ← hit, if_neg (by omega), ← q1]), (by show rdI V7; assumption), (by show dtI V7 to; assumption)⟩ (by show (120 - (jj + 1)).toNat < (120 - jj).toNat; omega) H locs ⟨hP, hS⟩ ls (lv_sub hl [0, 1, 2] rfl)
      · refine lv_bipush (v := iZ (-10)) hx hb dX5_read_49 (by decide) ?_
        refine lv_aload_n hx hb dX5_read_51 rfl (lv_at hl 1 rfl) ?_
        refine kq_get (i := 2) hx hb hts hin_X5 hown hK hP (by decide) (cE_2 rfl) rfl 4 (by decide) (hts (.fieldLink RX5 43 "WordFletchers$TextReader" "start" "I") (List.mem_cons_of_mem _ (List.mem_append_left _ (List.mem_append_left _ (List.mem_append_left _ (List.mem_of_getElem? (i := 8) rfl)))))) rfl dX5_read_52 ?_
        refine z_isub hx hb dX5_read_55 ?_
        exact kq_retM hx hb hK hP hS hr rfl (by rw [i2]; first | (rw [f_rl_end _ _ _ (by omega)]; done) | (rw [f_rl_step to (by omega), if_neg (by omega), ← hit, if_pos (by omega), ← q1]; done) | (rw [show jj = 120 by omega]; rfl)) (by rw [i2]; first | (rw [f_rl_end _ _ _ (by omega)]; done) | (rw [f_rl_step to (by omega), if_neg (by omega), ← hit, if_pos (by omega)]; exact q1) | (rw [show jj = 120 by omega]; rfl)) dX5_read_56 hlocks
set_option maxHeartbeats 20000000 in
set_option maxRecDepth 100000 in
theorem K_X7_uplands (l : Launch) (D : va_G) (C : cC) (a b : Nat → Nat) (V : Nat → Nat → Int) (hto : isTo (Int.toNat (V 0 3))) (hto4 : isTo (Int.toNat (V 0 4))) (hne : ¬ (Int.toNat (V 0 4)) = 0) (h1 : 0 ≤ V 0 1 ∧ V 0 1 ≤ 120) (hkb : k_by V) (hrd : dtI (f_cread V (Int.toNat (V 0 4)) (V 0 1)).1 (Int.toNat (V 0 4))) (hro : (f_cread V (Int.toNat (V 0 4)) (V 0 1)).1 0 = V 0) (hrb : -1000 ≤ (f_cread V (Int.toNat (V 0 4)) (V 0 1)).2 ∧ (f_cread V (Int.toNat (V 0 4)) (V 0 1)).2 ≤ 120) (hfi : 0 ≤ (f_cread V (Int.toNat (V 0 4)) (V 0 1)).2 → ∀ k : Nat, (k : Int) < (f_cread V (Int.toNat (V 0 4)) (V 0 1)).1 (Int.toNat (V 0 4)) 8 → 0 ≤ (f_cread V (Int.toNat (V 0 4)) (V 0 1)).1 ((Int.toNat (V 0 4)) + 5) k ∧ (f_cread V (Int.toNat (V 0 4)) (V 0 1)).1 ((Int.toNat (V 0 4)) + 5) k ≤ 30) (hDD : va_D (fun _ => True) (cW C a V)) : Met l yX7_uplands wsX7_uplands ({ frames := 7, cells := 0, slots := 0, locals := 156 }) (va_Pc [.ref (a 0)] (cOk D C a b V)) (va_Qi (fun r (_ : Unit) => r = iZ ((f_cread V (Int.toNat (V 0 4)) (V 0 1)).2)) (fun _ t => cPo D C a (f_cup V) t) (cA a)) 0 0 (cA a) := by
  refine Met.ofW (cc := cX7_uplands) (maxL := 3) (ret := (some .int)) (by decide) rfl ?_
  intro p e s m args below meth c s₁ B hml hv
  obtain ⟨rfl, hP, hK, hN⟩ := hv
  have hx := B.exec
  have hb := B.bytes
  have hr := B.returns
  have hts := atoms_spec (ws := wsX7_uplands) B.pre
  have hown : s.vm.findClass RX7 = some m.cls := findClass_of_methodNamed B.named
  have hlocks := B.notSynchronized
  have hin_X7 : ∀ w ∈ wsX70, w ∈ wsX7_uplands := fun _ w_h => (List.mem_cons_of_mem _ (List.mem_append_left _ (List.mem_append_left _ (List.mem_append_left _ (List.mem_append_left _ (List.mem_append_left _ (List.mem_append_left _ (List.mem_append_right _ w_h))))))))
  have hin_X5 : ∀ w ∈ wsX50, w ∈ wsX7_uplands := fun _ w_h => (List.mem_cons_of_mem _ (List.mem_append_left _ (List.mem_append_left _ (List.mem_append_left _ (List.mem_append_left _ (List.mem_append_left _ (List.mem_append_right _ w_h)))))))
  have hin_X6 : ∀ w ∈ wsX60, w ∈ wsX7_uplands := fun _ w_h => (List.mem_cons_of_mem _ (List.mem_append_left _ (List.mem_append_left _ (List.mem_append_left _ (List.mem_append_left _ (List.mem_append_right _ w_h))))))
  have hin_X3 : ∀ w ∈ wsX30, w ∈ wsX7_uplands := fun _ w_h => (List.mem_cons_of_mem _ (List.mem_append_left _ (List.mem_append_left _ (List.mem_append_left _ (List.mem_append_right _ w_h)))))
  have hin_X4 : ∀ w ∈ wsX40, w ∈ wsX7_uplands := fun _ w_h => (List.mem_cons_of_mem _ (List.mem_append_left _ (List.mem_append_left _ (List.mem_append_right _ w_h))))
  have hin_X1 : ∀ w ∈ wsX10, w ∈ wsX7_uplands := fun _ w_h => (List.mem_cons_of_mem _ (List.mem_append_left _ (List.mem_append_right _ w_h)))
  have hin_X2 : ∀ w ∈ wsX20, w ∈ wsX7_uplands := fun _ w_h => (List.mem_cons_of_mem _ (List.mem_append_right _ w_h))
  have hl := lv_entry ([.ref (a 0)]) (n := 3) (Nat.le_of_ble_eq_true rfl)
  rw [lg_entry_eq]
  generalize (lg_sl ([.ref (a 0)]) ++ List.replicate (3 - (lg_sl ([.ref (a 0)])).length) Slot.unset).toArray = ls at hl ⊢
  replace hl : lv_has ls 3 [(0, .ref (a 0))] := hl
  have hD : va_D (cA a) (cW C a V) := cD_own hDD
  generalize hHe : s.heap = H at hP ⊢
  have hS : va_S (cA a) s.heap H [] := by rw [hHe]; exact va_S.rf
  generalize hlo : ([] : List Loc) = locs at hS ⊢
  clear hHe hlo
  have hjo := hto4
  unfold isTo at hjo
  refine W.eq (g2 := F0 m 0 ls []) rfl ?_
  refine lv_aload_n hx hb dX7_uplands_0 rfl (lv_at hl 0 rfl) ?_
  refine kq_get (i := 0) hx hb hts hin_X7 hown hK hP (by decide) (cE_0 rfl) rfl 2 (by decide) (hts (.fieldLink RX7 22 "WordFletchers" "reader" "LWordFletchers$TextReader;") (List.mem_cons_of_mem _ (List.mem_append_left _ (List.mem_append_left _ (List.mem_append_left _ (List.mem_append_left _ (List.mem_append_left _ (List.mem_append_left _ (List.mem_append_left _ (List.mem_append_left _ (List.mem_of_getElem? (i := 0) rfl))))))))))) rfl dX7_uplands_1 ?_
  refine lv_aload_n hx hb dX7_uplands_4 rfl (lv_at hl 0 rfl) ?_
  refine kq_get (i := 0) hx hb hts hin_X7 hown hK hP (by decide) (cE_0 rfl) rfl 1 (by decide) (hts (.fieldLink RX7 13 "WordFletchers" "textLength" "I") (List.mem_cons_of_mem _ (List.mem_append_left _ (List.mem_append_left _ (List.mem_append_left _ (List.mem_append_left _ (List.mem_append_left _ (List.mem_append_left _ (List.mem_append_left _ (List.mem_append_left _ (List.mem_of_getElem? (i := 1) rfl))))))))))) rfl dX7_uplands_5 ?_
  refine lv_aload_n hx hb dX7_uplands_8 rfl (lv_at hl 0 rfl) ?_
  refine kq_get (i := 0) hx hb hts hin_X7 hown hK hP (by decide) (cE_0 rfl) rfl 4 (by decide) (hts (.fieldLink RX7 33 "WordFletchers" "draft" "LWordFletchers$Told;") (List.mem_cons_of_mem _ (List.mem_append_left _ (List.mem_append_left _ (List.mem_append_left _ (List.mem_append_left _ (List.mem_append_left _ (List.mem_append_left _ (List.mem_append_left _ (List.mem_append_left _ (List.mem_of_getElem? (i := 2) rfl))))))))))) rfl dX7_uplands_9 ?_
  refine kq_cm (i := 2) (As := [.int (iZ (V 0 1)), .ref (a (Int.toNat (V 0 4)))]) (rest := []) ⟨hx, hb, hml, hown, hts⟩ hK hP hN hD hS (by decide) (cE_2 rfl) rfl (K_X5_read l D C a b V (V 0 1) (Int.toNat (V 0 4)) (by assumption) (by omega) (by assumption) (hD.weaken (fun _ _ _ _ => trivial))) (cwV 2 hts gX7_uplands_X5_read rfl rfl rfl (by decide +kernel) ⟨Nat.le_of_ble_eq_true rfl, Nat.le_of_ble_eq_true rfl⟩) rfl rfl hl.1 (Nat.le_of_ble_eq_true rfl) ⟨Nat.le_of_ble_eq_true rfl, Nat.le_of_ble_eq_true rfl⟩ dX7_uplands_12 (fun H locs hP hD hS => ?_)
  obtain ⟨V1, hV1⟩ : ∃ z : Nat → Nat → Int, z = ((f_cread V (Int.toNat (V 0 4)) (V 0 1)).1) := ⟨_, rfl⟩
  rw [← hV1] at hP hD
  have r0 : V1 0 = V 0 := by rw [hV1]; exact hro
  have r8 : 0 ≤ V1 (Int.toNat (V 0 4)) 8 ∧ V1 (Int.toNat (V 0 4)) 8 ≤ 6 := by rw [hV1]; exact hrd.2.1
  have rI := hV1
  have r3 : isTo (Int.toNat (V1 0 3)) := by rw [r0]; exact hto
  have r4 : isTo (Int.toNat (V1 0 4)) := by rw [r0]; exact hto4
  have r5 : Int.toNat (V1 0 4) = Int.toNat (V 0 4) := by rw [r0]
  refine z_nm (fun it hit => ?_)
  refine lv_istore_n (lv' := [(1, .int (iZ it)), (0, .ref (a 0))]) hx hb dX7_uplands_15 rfl hl (by decide) rfl (fun ls hl => ?_)
  refine lv_iload_n hx hb dX7_uplands_16 rfl (lv_at hl 0 rfl) ?_
  refine z_if_ge (x := it) (tgt := 22) hx hb (by omega) dX7_uplands_17 (by decide) (fun c2 => ?_) (fun c2 => ?_)
  · refine lv_aload_n hx hb dX7_uplands_22 rfl (lv_at hl 1 rfl) ?_
    refine kq_get (i := 0) hx hb hts hin_X7 hown hK hP (by decide) (cE_0 rfl) rfl 3 (by decide) (hts (.fieldLink RX7 29 "WordFletchers" "told" "LWordFletchers$Told;") (List.mem_cons_of_mem _ (List.mem_append_left _ (List.mem_append_left _ (List.mem_append_left _ (List.mem_append_left _ (List.mem_append_left _ (List.mem_append_left _ (List.mem_append_left _ (List.mem_append_left _ (List.mem_of_getElem? (i := 3) rfl))))))))))) rfl dX7_uplands_23 ?_
    refine W.eq (g2 := F0 m 26 ls [.ref (a (Int.toNat (V1 0 3)))]) rfl ?_
    refine lv_astore_n (lv' := [(2, .ref (a (Int.toNat (V1 0 3)))), (1, .int (iZ it)), (0, .ref (a 0))]) hx hb dX7_uplands_26 rfl hl (by decide) rfl (fun ls hl => ?_)
    refine lv_aload_n hx hb dX7_uplands_27 rfl (lv_at hl 2 rfl) ?_
    refine lv_aload_n hx hb dX7_uplands_28 rfl (lv_at hl 2 rfl) ?_
    refine kq_get (i := 0) hx hb hts hin_X7 hown hK hP (by decide) (cE_0 rfl) rfl 4 (by decide) (hts (.fieldLink RX7 33 "WordFletchers" "draft" "LWordFletchers$Told;") (List.mem_cons_of_mem _ (List.mem_append_left _ (List.mem_append_left _ (List.mem_append_left _ (List.mem_append_left _ (List.mem_append_left _ (List.mem_append_left _ (List.mem_append_left _ (List.mem_append_left _ (List.mem_of_getElem? (i := 2) rfl))))))))))) rfl dX7_uplands_29 ?_
    refine kq_putR (ty := .object "WordFletchers$Told") (i := 0) hx hb hts hin_X7 hown tyX7 tyX7_ok nmX7 hK hP hD hS (by decide) (cE_0 rfl) rfl 3 (by decide) (hts (.fieldLink RX7 29 "WordFletchers" "told" "LWordFletchers$Told;") (List.mem_cons_of_mem _ (List.mem_append_left _ (List.mem_append_left _ (List.mem_append_left _ (List.mem_append_left _ (List.mem_append_left _ (List.mem_append_left _ (List.mem_append_left _ (List.mem_append_left _ (List.mem_of_getElem? (i := 3) rfl))))))))))) rfl (Int.toNat (V1 0 4)) (by decide +kernel) rfl rfl (Nat.le_of_ble_eq_true rfl) rfl dX7_uplands_32 (fun H locs hP hD hS => ?_)
    obtain ⟨V3, hV3⟩ : ∃ z : Nat → Nat → Int, z = (mU V1 0 3 (((Int.toNat (V1 0 4)) : Nat) : Int)) := ⟨_, rfl⟩
    rw [← hV3] at hP hD
    have rI3 := hV3
    have u3 : V3 0 3 = ((Int.toNat (V1 0 4) : Nat) : Int) := by rw [hV3, mU_eq]
    have u8 : ∀ g : Nat, ¬ g = 0 → V3 g = V1 g := fun g hg => by rw [hV3]; exact mU_or _ _ _ hg
    refine lv_aload_n hx hb dX7_uplands_35 rfl (lv_at hl 2 rfl) ?_
    refine lv_aload_n hx hb dX7_uplands_36 rfl (lv_at hl 0 rfl) ?_
    refine kq_putR (ty := .object "WordFletchers$Told") (i := 0) hx hb hts hin_X7 hown tyX7 tyX7_ok nmX7 hK hP hD hS (by decide) (cE_0 rfl) rfl 4 (by decide) (hts (.fieldLink RX7 33 "WordFletchers" "draft" "LWordFletchers$Told;") (List.mem_cons_of_mem _ (List.mem_append_left _ (List.mem_append_left _ (List.mem_append_left _ (List.mem_append_left _ (List.mem_append_left _ (List.mem_append_left _ (List.mem_append_left _ (List.mem_append_left _ (List.mem_of_getElem? (i := 2) rfl))))))))))) rfl (Int.toNat (V1 0 3)) (by decide +kernel) rfl rfl (Nat.le_of_ble_eq_true rfl) rfl dX7_uplands_37 (fun H locs hP hD hS => ?_)
    obtain ⟨V4, hV4⟩ : ∃ z : Nat → Nat → Int, z = (mU V3 0 4 (((Int.toNat (V1 0 3)) : Nat) : Int)) := ⟨_, rfl⟩
    rw [← hV4] at hP hD
    have rI4 := hV4
    have v3 : V4 0 3 = V3 0 3 := by rw [hV4]; rfl
    have v8 : ∀ g : Nat, ¬ g = 0 → V4 g = V3 g := fun g hg => by rw [hV4]; exact mU_or _ _ _ hg
    refine lv_aload_n hx hb dX7_uplands_40 rfl (lv_at hl 2 rfl) ?_
    refine lv_iconst (v := iZ 0) hx hb dX7_uplands_41 (by decide) ?_
    refine kq_put (ty := .int) (i := 0) hx hb hts hin_X7 hown tyX7 tyX7_ok nmX7 hK hP hD hS (by decide) (cE_0 rfl) rfl 1 (by decide) (hts (.fieldLink RX7 13 "WordFletchers" "textLength" "I") (List.mem_cons_of_mem _ (List.mem_append_left _ (List.mem_append_left _ (List.mem_append_left _ (List.mem_append_left _ (List.mem_append_left _ (List.mem_append_left _ (List.mem_append_left _ (List.mem_append_left _ (List.mem_of_getElem? (i := 1) rfl))))))))))) rfl (by decide +kernel) rfl rfl (Nat.le_of_ble_eq_true rfl) rfl dX7_uplands_42 (fun H locs hP hD hS => ?_)
    obtain ⟨V5, hV5⟩ : ∃ z : Nat → Nat → Int, z = (mU V4 0 1 0) := ⟨_, rfl⟩
    rw [← hV5] at hP hD
    have rI5 := hV5
    have w3 : V5 0 3 = V4 0 3 := by rw [hV5]; rfl
    have w8 : ∀ g : Nat, ¬ g = 0 → V5 g = V4 g := fun g hg => by rw [hV5]; exact mU_or _ _ _ hg
    have x3 : Int.toNat (V5 0 3) = Int.toNat (V 0 4) := by rw [w3, v3, u3, r5]; rfl
    have xto : isTo (Int.toNat (V5 0 3)) := by rw [x3]; exact hto4
    have x8 : 0 ≤ V5 (Int.toNat (V5 0 3)) 8 ∧ V5 (Int.toNat (V5 0 3)) 8 ≤ 6 := by rw [x3, w8 _ (by omega), v8 _ (by omega), u8 _ (by omega)]; exact r8
    have xfi : ∀ k : Nat, (k : Int) < V5 (Int.toNat (V5 0 3)) 8 → 0 ≤ V5 (Int.toNat (V5 0 3) + 5) k ∧ V5 (Int.toNat (V5 0 3) + 5) k ≤ 30 := by rw [x3, w8 _ (by omega), w8 _ (by omega), v8 _ (by omega), v8 _ (by omega), u8 _ (by omega), u8 _ (by omega), rI]; exact hfi (by omega)
    refine lv_aload_n hx hb dX7_uplands_45 rfl (lv_at hl 2 rfl) ?_
    refine W.eq (g2 := F0 m 46 ls [.ref (a 0)]) rfl ?_
    refine kq_cv (i := 0) (As := []) (rest := []) ⟨hx, hb, hml, hown, hts⟩ hK hP hN hD hS (by decide) (cE_0 rfl) rfl (K_X7_beginAnew l D C a b V5  (by assumption) (by omega) (by assumption) (hD.weaken (fun _ _ _ _ => trivial))) (cwV 0 hts gX7_uplands_X7_beginAnew rfl rfl rfl (by decide +kernel) ⟨Nat.le_of_ble_eq_true rfl, Nat.le_of_ble_eq_true rfl⟩) rfl rfl hl.1 (Nat.le_of_ble_eq_true rfl) ⟨Nat.le_of_ble_eq_true rfl, Nat.le_of_ble_eq_true rfl⟩ dX7_uplands_46 (fun H locs hP hD hS => ?_)
    obtain ⟨V6, hV6⟩ : ∃ z : Nat → Nat → Int, z = (f_anew V5) := ⟨_, rfl⟩
    rw [← hV6] at hP hD
    refine lv_iload_n hx hb dX7_uplands_49 rfl (lv_at hl 1 rfl) ?_
    exact kq_retM hx hb hK hP hS hr rfl (by assumption) (by unfold f_cup; first | (rw [if_pos (by omega)]; exact rI) | (rw [if_neg (by omega), ← rI, ← rI3, ← rI4, ← rI5]; assumption)) dX7_uplands_50 hlocks
  · refine lv_iload_n hx hb dX7_uplands_20 rfl (lv_at hl 0 rfl) ?_
    exact kq_retM hx hb hK hP hS hr rfl (by assumption) (by unfold f_cup; first | (rw [if_pos (by omega)]; exact rI) | (rw [if_neg (by omega), ← rI, ← rI3, ← rI4, ← rI5]; assumption)) dX7_uplands_21 hlocks
