set_option maxHeartbeats 4000000 in
set_option maxRecDepth 100000 in
theorem K_X2_tell (l : Launch) (D : va_G) (C : cC) (a b : Nat → Nat) (V : Nat → Nat → Int) (i : Nat) (hi : isMo i) (pe : Int) (sy : Int) (h1 : -2147483648 ≤ pe ∧ pe < 2147483648) (h2 : 0 ≤ sy ∧ sy ≤ 30) (hkn : ∀ k : Nat, k < 6 → 0 ≤ V (i + 2) k) (hDD : va_D (fun _ => True) (cW C a V)) : Met l yX2_tell wsX2_tell ({ frames := 1, cells := 0, slots := 0, locals := 21 }) (va_Pc [.ref (a i), .int (iZ pe), .int (iZ sy)] (cOk D C a b V)) (va_Qv (fun (_ : Unit) => True) (fun _ t => cPo D C a (f_tel V i pe sy) t) (cA a)) 0 0 (cA a) := by
  refine Met.ofW (cc := cX2_tell) (maxL := 4) (ret := none) (by decide) rfl ?_
  intro p e s m args below meth c s₁ B hml hv
  obtain ⟨rfl, hP, hK, hN⟩ := hv
  have hx := B.exec
  have hb := B.bytes
  have hr := B.returns
  have hts := atoms_spec (ws := wsX2_tell) B.pre
  have hown : s.vm.findClass RX2 = some m.cls := findClass_of_methodNamed B.named
  have hlocks := B.notSynchronized
  have hin_X2 : ∀ w ∈ wsX20, w ∈ wsX2_tell := fun _ w_h => (List.mem_cons_of_mem _ (List.mem_append_right _ w_h))
  have hl := lv_entry ([.ref (a i), .int (iZ pe), .int (iZ sy)]) (n := 4) (Nat.le_of_ble_eq_true rfl)
  rw [lg_entry_eq]
  generalize (lg_sl ([.ref (a i), .int (iZ pe), .int (iZ sy)]) ++ List.replicate (4 - (lg_sl ([.ref (a i), .int (iZ pe), .int (iZ sy)])).length) Slot.unset).toArray = ls at hl ⊢
  replace hl : lv_has ls 4 [(0, .ref (a i)), (1, .int (iZ pe)), (2, .int (iZ sy))] := hl
  have hD : va_D (cA a) (cW C a V) := cD_own hDD
  generalize hHe : s.heap = H at hP ⊢
  have hS : va_S (cA a) s.heap H [] := by rw [hHe]; exact va_S.rf
  generalize hlo : ([] : List Loc) = locs at hS ⊢
  clear hHe hlo
  have hzp := zp_nn sy
  refine lv_iconst (v := iZ 0) hx hb dX2_tell_0 (by decide) ?_
  refine lv_istore_n (lv' := [(3, .int (iZ 0)), (0, .ref (a i)), (1, .int (iZ pe)), (2, .int (iZ sy))]) hx hb dX2_tell_1 rfl hl (by decide) rfl (fun ls hl => ?_)
  replace hl : lv_has ls 4 [(3, .int (iZ (0 : Int))), (0, .ref (a i)), (1, .int (iZ pe)), (2, .int (iZ sy))] := lv_sub hl [0, 1, 2, 3] rfl
  replace hP := And.intro hP hS
  clear hS
  revert ls
  revert hP
  revert H locs
  refine z_loopH (σ := Int × (Nat → Nat → Int)) (fun x9 => (0 ≤ x9.1 ∧ x9.1 ≤ 6) ∧ (x9.2 = f_tlN V i pe sy (Int.toNat x9.1))) (fun x9 H9 locs9 => va_P D vwCl (cW C a (x9.2)) H9 ∧ va_S (cA a) s.heap H9 locs9) (fun x9 => [(3, .int (iZ (x9.1))), (0, .ref (a i)), (1, .int (iZ pe)), (2, .int (iZ sy))]) 4 (fun x9 => (6 - x9.1).toNat) ((0 : Int), V) ⟨(by show 0 ≤ (0 : Int) ∧ (0 : Int) ≤ 6; omega), (by show V = f_tlN V i pe sy (Int.toNat (0 : Int)); exact (f_tlN_0 V i pe sy).symm)⟩ ?_
  rintro ⟨n, Vw⟩ hI9 ih2 H locs hPS ls hl
  have hP : va_P D vwCl (cW C a Vw) H := hPS.1
  have hS : va_S (cA a) s.heap H locs := hPS.2
  clear hPS
  have hD : va_D (cA a) (cW C a Vw) := cD_re hD
  obtain ⟨i1, i2⟩ := hI9
  replace i1 : 0 ≤ n ∧ n ≤ 6 := i1
  replace i2 : Vw = f_tlN V i pe sy (Int.toNat n) := i2
  replace hl : lv_has ls 4 [(3, .int (iZ n)), (0, .ref (a i)), (1, .int (iZ pe)), (2, .int (iZ sy))] := hl
  have hkn2 : n < 6 → 0 ≤ Vw (i + 2) (Int.toNat n) := fun h9 => by rw [i2, f_tlN_rd]; exact hkn _ (by omega)
  refine lv_iload_n hx hb dX2_tell_2 rfl (lv_at hl 0 rfl) ?_
  refine lv_bipush (v := iZ 6) hx hb dX2_tell_3 (by decide) ?_
  refine z_icmp_ge (x := n) (y := 6) (tgt := 34) hx hb (by omega) (by omega) dX2_tell_5 (by decide) (fun c1 => ?_) (fun c1 => ?_)
  · exact kq_retV hx hb hK hP hS hr (by have q : n = 6 := (by omega); rw [i2, q]; rfl) dX2_tell_34 hlocks
  · refine lv_iload_n hx hb dX2_tell_8 rfl (lv_at hl 2 rfl) ?_
    refine lv_iload_n hx hb dX2_tell_9 rfl (lv_at hl 0 rfl) ?_
    refine kq_csN (As := [.int (iZ pe), .int (iZ n)]) (rest := []) (host := RX7) ⟨hx, hb, hml, hown, hts⟩ (K_X7_isIn l pe n (by omega) (by omega)) (va_cnB 2 hts gX2_tell_X7_isIn_n53 rfl rfl rfl hN.1 (hts (.initialized RX7) (List.mem_cons_of_mem _ (List.mem_append_left _ (List.mem_of_getElem? (i := 2) rfl)))) (by decide +kernel) ⟨Nat.le_of_ble_eq_true rfl, Nat.le_of_ble_eq_true rfl⟩) (hts (.static yX7_isIn) (List.mem_cons_of_mem _ (List.mem_append_left _ (List.mem_of_getElem? (i := 1) rfl)))) rfl rfl hl.1 (Nat.le_of_ble_eq_true rfl) ⟨Nat.le_of_ble_eq_true rfl, Nat.le_of_ble_eq_true rfl⟩ dX2_tell_10 ?_
    refine z_ifb_eq (P := (pe / zp n % 2 = 1)) (tgt := 28) hx hb dX2_tell_13 (by decide) (fun c5 => ?_) (fun c5 => ?_)
    · refine lv_iinc (v := iZ (n + 1)) (lv' := [(3, .int (iZ (n + 1))), (0, .ref (a i)), (1, .int (iZ pe)), (2, .int (iZ sy))]) hx hb dX2_tell_28 hl (k := 0) rfl (iZ_add _ _) (by decide) rfl (fun ls hl => ?_)
      refine lv_goto (tgt := 2) hx hb dX2_tell_31 (by decide) ?_
      exact ih2 ((n + 1), Vw) ⟨(by show 0 ≤ (n + 1) ∧ (n + 1) ≤ 6; omega), (by show Vw = f_tlN V i pe sy (Int.toNat (n + 1)); first | exact hst | (rw [i2]; exact f_tlN_no V i pe sy i1.1 (by assumption)))⟩ (by show (6 - (n + 1)).toNat < (6 - n).toNat; omega) H locs ⟨hP, hS⟩ ls (lv_sub hl [0, 1, 2, 3] rfl)
    · refine lv_aload_n hx hb dX2_tell_16 rfl (lv_at hl 1 rfl) ?_
      refine kq_get (i := i) hx hb hts hin_X2 hown hK hP (isMo.l0 hi) (cE_26 (isMo.s0 hi)) rfl 4 (by decide) (hts (.fieldLink RX2 15 "WordFletchers$Moment" "knows" "[I") (List.mem_cons_of_mem _ (List.mem_append_left _ (List.mem_of_getElem? (i := 0) rfl)))) rfl dX2_tell_17 ?_
      refine lv_iload_n hx hb dX2_tell_20 rfl (lv_at hl 0 rfl) ?_
      refine lv_dup2_11 hx hb dX2_tell_21 rfl rfl ?_
      refine kq_iald (i := (i + 2)) hx hb hK hP (isMo.l2 hi) (n := 6) (cE_28 (isMo.s2 hi)) (by decide) (Int.toNat n) rfl (by omega) dX2_tell_22 ?_
      refine W.eq (g2 := F0 m 23 ls [.int (iZ (Vw (i + 2) (Int.toNat n))), .int (iZ n), .ref (a (i + 2))]) rfl ?_
      refine lv_iconst (v := iZ 1) hx hb dX2_tell_23 (by decide) ?_
      refine lv_iload_n hx hb dX2_tell_24 rfl (lv_at hl 3 rfl) ?_
      refine z_ishl1 hx hb (by omega) dX2_tell_25 ?_
      refine z_ior hx hb (by first | omega | exact hkn2 (by omega)) (by first | omega | exact hkn2 (by omega)) dX2_tell_26 ?_
      refine kq_iast (i := (i + 2)) hx hb hK hP hD hS (isMo.l2 hi) (n := 6) (cE_28 (isMo.s2 hi)) (by decide) (Int.toNat n) rfl (by omega) dX2_tell_27 (fun H locs hP hD hS => ?_)
      obtain ⟨V7, hV7⟩ : ∃ z : Nat → Nat → Int, z = (mU Vw (i + 2) (Int.toNat n) (zor (Vw (i + 2) (Int.toNat n)) (zp sy))) := ⟨_, rfl⟩
      rw [← hV7] at hP hD
      have hst : V7 = f_tlN V i pe sy (Int.toNat (n + 1)) := by rw [hV7, i2]; exact f_tlN_yes V i pe sy i1.1 (by assumption) _ (by rw [f_tlN_rd])
      refine lv_iinc (v := iZ (n + 1)) (lv' := [(3, .int (iZ (n + 1))), (0, .ref (a i)), (1, .int (iZ pe)), (2, .int (iZ sy))]) hx hb dX2_tell_28 hl (k := 0) rfl (iZ_add _ _) (by decide) rfl (fun ls hl => ?_)
      refine lv_goto (tgt := 2) hx hb dX2_tell_31 (by decide) ?_
      exact ih2 ((n + 1), V7) ⟨(by show 0 ≤ (n + 1) ∧ (n + 1) ≤ 6; omega), (by show V7 = f_tlN V i pe sy (Int.toNat (n + 1)); first | exact hst | (rw [i2]; exact f_tlN_no V i pe sy i1.1 (by assumption)))⟩ (by show (6 - (n + 1)).toNat < (6 - n).toNat; omega) H locs ⟨hP, hS⟩ ls (lv_sub hl [0, 1, 2, 3] rfl)
set_option maxHeartbeats 4000000 in
set_option maxRecDepth 100000 in
theorem K_X2_begin (l : Launch) (D : va_G) (C : cC) (a b : Nat → Nat) (V : Nat → Nat → Int) (i : Nat) (hi : isMo i) (j : Nat) (hj : isTo j) (h1 : 0 ≤ V j 8 ∧ V j 8 ≤ 6) (hfi : ∀ k : Nat, (k : Int) < V j 8 → 0 ≤ V (j + 5) k ∧ V (j + 5) k ≤ 30) (hDD : va_D (fun _ => True) (cW C a V)) : Met l yX2_begin wsX2_begin ({ frames := 2, cells := 0, slots := 0, locals := 44 }) (va_Pc [.ref (a i), .ref (a j)] (cOk D C a b V)) (va_Qv (fun (_ : Unit) => True) (fun _ t => cPo D C a (f_beg V i j) t) (cA a)) 0 0 (cA a) := by
  refine Met.ofW (cc := cX2_begin) (maxL := 3) (ret := none) (by decide) rfl ?_
  intro p e s m args below meth c s₁ B hml hv
  obtain ⟨rfl, hP, hK, hN⟩ := hv
  have hx := B.exec
  have hb := B.bytes
  have hr := B.returns
  have hts := atoms_spec (ws := wsX2_begin) B.pre
  have hown : s.vm.findClass RX2 = some m.cls := findClass_of_methodNamed B.named
  have hlocks := B.notSynchronized
  have hin_X2 : ∀ w ∈ wsX20, w ∈ wsX2_begin := fun _ w_h => (List.mem_cons_of_mem _ (List.mem_append_left _ (List.mem_append_right _ w_h)))
  have hin_X6 : ∀ w ∈ wsX60, w ∈ wsX2_begin := fun _ w_h => (List.mem_cons_of_mem _ (List.mem_append_right _ w_h))
  have hl := lv_entry ([.ref (a i), .ref (a j)]) (n := 3) (Nat.le_of_ble_eq_true rfl)
  rw [lg_entry_eq]
  generalize (lg_sl ([.ref (a i), .ref (a j)]) ++ List.replicate (3 - (lg_sl ([.ref (a i), .ref (a j)])).length) Slot.unset).toArray = ls at hl ⊢
  replace hl : lv_has ls 3 [(0, .ref (a i)), (1, .ref (a j))] := hl
  have hD : va_D (cA a) (cW C a V) := cD_own hDD
  generalize hHe : s.heap = H at hP ⊢
  have hS : va_S (cA a) s.heap H [] := by rw [hHe]; exact va_S.rf
  generalize hlo : ([] : List Loc) = locs at hS ⊢
  clear hHe hlo
  have hio := hi
  unfold isMo at hio
  have hjo := hj
  unfold isTo at hjo
  refine lv_aload_n hx hb dX2_begin_0 rfl (lv_at hl 0 rfl) ?_
  refine lv_iconst (v := iZ 0) hx hb dX2_begin_1 (by decide) ?_
  refine kq_put (ty := .int) (i := i) hx hb hts hin_X2 hown tyX2 tyX2_ok nmX2 hK hP hD hS (isMo.l0 hi) (cE_26 (isMo.s0 hi)) rfl 0 (by decide) (hts (.fieldLink RX2 24 "WordFletchers$Moment" "hour" "I") (List.mem_cons_of_mem _ (List.mem_append_left _ (List.mem_append_left _ (List.mem_of_getElem? (i := 0) rfl))))) rfl (by decide +kernel) rfl rfl (Nat.le_of_ble_eq_true rfl) rfl dX2_begin_2 (fun H locs hP hD hS => ?_)
  obtain ⟨V1, hV1⟩ : ∃ z : Nat → Nat → Int, z = (mU V i 0 0) := ⟨_, rfl⟩
  rw [← hV1] at hP hD
  refine lv_aload_n hx hb dX2_begin_5 rfl (lv_at hl 0 rfl) ?_
  refine lv_iconst (v := iZ 0) hx hb dX2_begin_6 (by decide) ?_
  refine W.eq (g2 := F0 m 7 ls [.int (iZ 0), .ref (a i)]) rfl ?_
  refine kq_put (ty := .int) (i := i) hx hb hts hin_X2 hown tyX2 tyX2_ok nmX2 hK hP hD hS (isMo.l0 hi) (cE_26 (isMo.s0 hi)) rfl 1 (by decide) (hts (.fieldLink RX2 28 "WordFletchers$Moment" "damp" "I") (List.mem_cons_of_mem _ (List.mem_append_left _ (List.mem_append_left _ (List.mem_of_getElem? (i := 1) rfl))))) rfl (by decide +kernel) rfl rfl (Nat.le_of_ble_eq_true rfl) rfl dX2_begin_7 (fun H locs hP hD hS => ?_)
  obtain ⟨V2, hV2⟩ : ∃ z : Nat → Nat → Int, z = (mU V1 i 1 0) := ⟨_, rfl⟩
  rw [← hV2] at hP hD
  refine lv_aload_n hx hb dX2_begin_10 rfl (lv_at hl 0 rfl) ?_
  refine lv_iconst (v := iZ 0) hx hb dX2_begin_11 (by decide) ?_
  refine kq_put (ty := .int) (i := i) hx hb hts hin_X2 hown tyX2 tyX2_ok nmX2 hK hP hD hS (isMo.l0 hi) (cE_26 (isMo.s0 hi)) rfl 2 (by decide) (hts (.fieldLink RX2 31 "WordFletchers$Moment" "strays" "I") (List.mem_cons_of_mem _ (List.mem_append_left _ (List.mem_append_left _ (List.mem_of_getElem? (i := 2) rfl))))) rfl (by decide +kernel) rfl rfl (Nat.le_of_ble_eq_true rfl) rfl dX2_begin_12 (fun H locs hP hD hS => ?_)
  obtain ⟨V3, hV3⟩ : ∃ z : Nat → Nat → Int, z = (mU V2 i 2 0) := ⟨_, rfl⟩
  rw [← hV3] at hP hD
  have hb1 : V3 = f_bg2 (f_bg1 V i) i j (Int.toNat 0) := by rw [show Int.toNat 0 = 0 from rfl, f_bg2_0]; subst_vars; rfl
  refine lv_iconst (v := iZ 0) hx hb dX2_begin_15 (by decide) ?_
  refine lv_istore_n (lv' := [(2, .int (iZ 0)), (0, .ref (a i)), (1, .ref (a j))]) hx hb dX2_begin_16 rfl hl (by decide) rfl (fun ls hl => ?_)
  replace hl : lv_has ls 3 [(2, .int (iZ (0 : Int))), (0, .ref (a i)), (1, .ref (a j))] := lv_sub hl [0, 1, 2] rfl
  replace hP := And.intro hP hS
  clear hS
  revert ls
  revert hP
  revert H locs
  refine z_loopH (σ := Int × (Nat → Nat → Int)) (fun x9 => (0 ≤ x9.1 ∧ x9.1 ≤ 4) ∧ (x9.2 = f_bg2 (f_bg1 V i) i j (Int.toNat x9.1))) (fun x9 H9 locs9 => va_P D vwCl (cW C a (x9.2)) H9 ∧ va_S (cA a) s.heap H9 locs9) (fun x9 => [(2, .int (iZ (x9.1))), (0, .ref (a i)), (1, .ref (a j))]) 3 (fun x9 => (4 - x9.1).toNat) ((0 : Int), V3) ⟨(by show 0 ≤ (0 : Int) ∧ (0 : Int) ≤ 4; omega), (by show V3 = f_bg2 (f_bg1 V i) i j (Int.toNat (0 : Int)); exact hb1)⟩ ?_
  rintro ⟨n, Vw⟩ hI9 ih17 H locs hPS ls hl
  have hP : va_P D vwCl (cW C a Vw) H := hPS.1
  have hS : va_S (cA a) s.heap H locs := hPS.2
  clear hPS
  have hD : va_D (cA a) (cW C a Vw) := cD_re hD
  obtain ⟨i1, i2⟩ := hI9
  replace i1 : 0 ≤ n ∧ n ≤ 4 := i1
  replace i2 : Vw = f_bg2 (f_bg1 V i) i j (Int.toNat n) := i2
  replace hl : lv_has ls 3 [(2, .int (iZ n)), (0, .ref (a i)), (1, .ref (a j))] := hl
  refine lv_iload_n hx hb dX2_begin_17 rfl (lv_at hl 0 rfl) ?_
  refine lv_iconst (v := iZ 4) hx hb dX2_begin_18 (by decide) ?_
  refine z_icmp_ge (x := n) (y := 4) (tgt := 40) hx hb (by omega) (by omega) dX2_begin_19 (by decide) (fun c4 => ?_) (fun c4 => ?_)
  · refine lv_iconst (v := iZ 0) hx hb dX2_begin_40 (by decide) ?_
    refine lv_istore_n (lv' := [(2, .int (iZ 0)), (0, .ref (a i)), (1, .ref (a j))]) hx hb dX2_begin_41 rfl hl (by decide) rfl (fun ls hl => ?_)
    replace hl : lv_has ls 3 [(2, .int (iZ (0 : Int))), (0, .ref (a i)), (1, .ref (a j))] := lv_sub hl [0, 1, 2] rfl
    replace hP := And.intro hP hS
    clear hS
    revert ls
    revert hP
    revert H locs
    refine z_loopH (σ := Int × (Nat → Nat → Int)) (fun x9 => (0 ≤ x9.1 ∧ x9.1 ≤ 6) ∧ (x9.2 = f_bg3 (f_bg2 (f_bg1 V i) i j 4) i (Int.toNat x9.1))) (fun x9 H9 locs9 => va_P D vwCl (cW C a (x9.2)) H9 ∧ va_S (cA a) s.heap H9 locs9) (fun x9 => [(2, .int (iZ (x9.1))), (0, .ref (a i)), (1, .ref (a j))]) 3 (fun x9 => (6 - x9.1).toNat) ((0 : Int), Vw) ⟨(by show 0 ≤ (0 : Int) ∧ (0 : Int) ≤ 6; omega), (by show Vw = f_bg3 (f_bg2 (f_bg1 V i) i j 4) i (Int.toNat (0 : Int)); have q : n = 4 := (by omega); rw [show Int.toNat 0 = 0 from rfl, f_bg3_0, i2, q]; rfl)⟩ ?_
    rintro ⟨n2, W2⟩ hI9 ih42 H locs hPS ls hl
    have hP : va_P D vwCl (cW C a W2) H := hPS.1
    have hS : va_S (cA a) s.heap H locs := hPS.2
    clear hPS
    have hD : va_D (cA a) (cW C a W2) := cD_re hD
    obtain ⟨j1, j2⟩ := hI9
    replace j1 : 0 ≤ n2 ∧ n2 ≤ 6 := j1
    replace j2 : W2 = f_bg3 (f_bg2 (f_bg1 V i) i j 4) i (Int.toNat n2) := j2
    replace hl : lv_has ls 3 [(2, .int (iZ n2)), (0, .ref (a i)), (1, .ref (a j))] := hl
    refine lv_iload_n hx hb dX2_begin_42 rfl (lv_at hl 0 rfl) ?_
    refine lv_bipush (v := iZ 6) hx hb dX2_begin_43 (by decide) ?_
    refine z_icmp_ge (x := n2) (y := 6) (tgt := 61) hx hb (by omega) (by omega) dX2_begin_45 (by decide) (fun c6 => ?_) (fun c6 => ?_)
    · refine lv_iconst (v := iZ 0) hx hb dX2_begin_61 (by decide) ?_
      refine lv_istore_n (lv' := [(2, .int (iZ 0)), (0, .ref (a i)), (1, .ref (a j))]) hx hb dX2_begin_62 rfl hl (by decide) rfl (fun ls hl => ?_)
      replace hl : lv_has ls 3 [(2, .int (iZ (0 : Int))), (0, .ref (a i)), (1, .ref (a j))] := lv_sub hl [0, 1, 2] rfl
      replace hP := And.intro hP hS
      clear hS
      revert ls
      revert hP
      revert H locs
      refine z_loopH (σ := Int × (Nat → Nat → Int)) (fun x9 => (0 ≤ x9.1 ∧ x9.1 ≤ V j 8) ∧ (x9.2 = f_bg4 (f_bg3 (f_bg2 (f_bg1 V i) i j 4) i 6) i j (Int.toNat x9.1))) (fun x9 H9 locs9 => va_P D vwCl (cW C a (x9.2)) H9 ∧ va_S (cA a) s.heap H9 locs9) (fun x9 => [(2, .int (iZ (x9.1))), (0, .ref (a i)), (1, .ref (a j))]) 3 (fun x9 => (V j 8 - x9.1).toNat) ((0 : Int), W2) ⟨(by show 0 ≤ (0 : Int) ∧ (0 : Int) ≤ V j 8; omega), (by show W2 = f_bg4 (f_bg3 (f_bg2 (f_bg1 V i) i j 4) i 6) i j (Int.toNat (0 : Int)); have q : n2 = 6 := (by omega); rw [j2, q]; rfl)⟩ ?_
      rintro ⟨n3, W3⟩ hI9 ih63 H locs hPS ls hl
      have hP : va_P D vwCl (cW C a W3) H := hPS.1
      have hS : va_S (cA a) s.heap H locs := hPS.2
      clear hPS
      have hD : va_D (cA a) (cW C a W3) := cD_re hD
      obtain ⟨k1, k2⟩ := hI9
      replace k1 : 0 ≤ n3 ∧ n3 ≤ V j 8 := k1
      replace k2 : W3 = f_bg4 (f_bg3 (f_bg2 (f_bg1 V i) i j 4) i 6) i j (Int.toNat n3) := k2
      replace hl : lv_has ls 3 [(2, .int (iZ n3)), (0, .ref (a i)), (1, .ref (a j))] := hl
      have hw8 : W3 j = V j := by rw [k2]; exact f_bg_all V 4 6 _ (by omega)
      have hw9 : W3 j 8 = V j 8 := by rw [hw8]
      have hw5 : W3 (j + 5) = V (j + 5) := by rw [k2]; exact f_bg_all V 4 6 _ (by omega)
      have hw6 : n3 < V j 8 → (0 ≤ W3 (j + 5) (Int.toNat n3) ∧ W3 (j + 5) (Int.toNat n3) ≤ 30) ∧ (0 < zp (W3 (j + 5) (Int.toNat n3)) ∧ zp (W3 (j + 5) (Int.toNat n3)) ≤ 1073741824) := fun h9 => by rw [hw5]; exact ⟨hfi _ (by omega), zp_bd (hfi _ (by omega))⟩
      have hwk : ∀ k : Nat, k < 6 → 0 ≤ W3 (i + 2) k := by rw [k2]; exact f_bg4_nn (fun k hk => f_bg3_nn _ i k hk) _
      refine lv_iload_n hx hb dX2_begin_63 rfl (lv_at hl 0 rfl) ?_
      refine lv_aload_n hx hb dX2_begin_64 rfl (lv_at hl 2 rfl) ?_
      refine kq_get (i := j) hx hb hts hin_X6 hown hK hP (isTo.l0 hj) (cE_15 (isTo.s0 hj)) rfl 8 (by decide) (hts (.fieldLink RX2 37 "WordFletchers$Told" "sayings" "I") (List.mem_cons_of_mem _ (List.mem_append_left _ (List.mem_append_left _ (List.mem_of_getElem? (i := 6) rfl))))) rfl dX2_begin_65 ?_
      refine W.eq (g2 := F0 m 68 ls [.int (iZ (W3 j 8)), .int (iZ n3)]) rfl ?_
      refine z_icmp_ge (x := n3) (y := (W3 j 8)) (tgt := 90) hx hb (by omega) (by omega) dX2_begin_68 (by decide) (fun c8 => ?_) (fun c8 => ?_)
      · refine W.eq (g2 := F0 m 90 ls []) rfl ?_
        exact kq_retV hx hb hK hP hS hr (by have q : n3 = V j 8 := (by omega); rw [k2, q]; rfl) dX2_begin_90 hlocks
      · refine lv_aload_n hx hb dX2_begin_71 rfl (lv_at hl 1 rfl) ?_
        refine lv_iconst (v := iZ 1) hx hb dX2_begin_72 (by decide) ?_
        refine lv_aload_n hx hb dX2_begin_73 rfl (lv_at hl 2 rfl) ?_
        refine kq_get (i := j) hx hb hts hin_X6 hown hK hP (isTo.l0 hj) (cE_15 (isTo.s0 hj)) rfl 4 (by decide) (hts (.fieldLink RX2 40 "WordFletchers$Told" "first" "[I") (List.mem_cons_of_mem _ (List.mem_append_left _ (List.mem_append_left _ (List.mem_of_getElem? (i := 7) rfl))))) rfl dX2_begin_74 ?_
        refine lv_iload_n hx hb dX2_begin_77 rfl (lv_at hl 0 rfl) ?_
        refine kq_iald (i := (j + 5)) hx hb hK hP (isTo.l5 hj) (n := 6) (cE_20 (isTo.s5 hj)) (by decide) (Int.toNat n3) rfl (by omega) dX2_begin_78 ?_
        refine z_ishl1 hx hb (by omega) dX2_begin_79 ?_
        refine lv_iload_n hx hb dX2_begin_80 rfl (lv_at hl 0 rfl) ?_
        refine kq_cv (i := i) (As := [.int (iZ (zp (W3 (j + 5) (Int.toNat n3)))), .int (iZ n3)]) (rest := []) ⟨hx, hb, hml, hown, hts⟩ hK hP hN hD hS (isMo.l0 hi) (cE_26 (isMo.s0 hi)) rfl (K_X2_tell l D C a b W3 i hi (zp (W3 (j + 5) (Int.toNat n3))) n3 (by omega) (by omega) (by assumption) (hD.weaken (fun _ _ _ _ => trivial))) (cwV 2 hts gX2_begin_X2_tell rfl rfl rfl (by decide +kernel) ⟨Nat.le_of_ble_eq_true rfl, Nat.le_of_ble_eq_true rfl⟩) rfl rfl hl.1 (Nat.le_of_ble_eq_true rfl) ⟨Nat.le_of_ble_eq_true rfl, Nat.le_of_ble_eq_true rfl⟩ dX2_begin_81 (fun H locs hP hD hS => ?_)
        obtain ⟨V10, hV10⟩ : ∃ z : Nat → Nat → Int, z = (f_tel W3 i (zp (W3 (j + 5) (Int.toNat n3))) n3) := ⟨_, rfl⟩
        rw [← hV10] at hP hD
        have hst3 : V10 = f_bg4 (f_bg3 (f_bg2 (f_bg1 V i) i j 4) i 6) i j (Int.toNat (n3 + 1)) := by rw [hV10, f_bg4_succ _ i j k1.1, ← k2, show f_bg3 (f_bg2 (f_bg1 V i) i j 4) i 6 (j + 5) = W3 (j + 5) from by rw [k2]; exact (f_bg4_o _ (by omega) _).symm]
        refine lv_iinc (v := iZ (n3 + 1)) (lv' := [(2, .int (iZ (n3 + 1))), (0, .ref (a i)), (1, .ref (a j))]) hx hb dX2_begin_84 hl (k := 0) rfl (iZ_add _ _) (by decide) rfl (fun ls hl => ?_)
        refine lv_goto (tgt := 63) hx hb dX2_begin_87 (by decide) ?_
        exact ih63 ((n3 + 1), V10) ⟨(by show 0 ≤ (n3 + 1) ∧ (n3 + 1) ≤ V j 8; omega), (by show V10 = f_bg4 (f_bg3 (f_bg2 (f_bg1 V i) i j 4) i 6) i j (Int.toNat (n3 + 1)); exact hst3)⟩ (by show (V j 8 - (n3 + 1)).toNat < (V j 8 - n3).toNat; omega) H locs ⟨hP, hS⟩ ls (lv_sub hl [0, 1, 2] rfl)
    · refine W.eq (g2 := F0 m 48 ls []) rfl ?_
      refine lv_aload_n hx hb dX2_begin_48 rfl (lv_at hl 1 rfl) ?_
      refine kq_get (i := i) hx hb hts hin_X2 hown hK hP (isMo.l0 hi) (cE_26 (isMo.s0 hi)) rfl 4 (by decide) (hts (.fieldLink RX2 15 "WordFletchers$Moment" "knows" "[I") (List.mem_cons_of_mem _ (List.mem_append_left _ (List.mem_append_left _ (List.mem_of_getElem? (i := 5) rfl))))) rfl dX2_begin_49 ?_
      refine lv_iload_n hx hb dX2_begin_52 rfl (lv_at hl 0 rfl) ?_
      refine lv_iconst (v := iZ 0) hx hb dX2_begin_53 (by decide) ?_
      refine kq_iast (i := (i + 2)) hx hb hK hP hD hS (isMo.l2 hi) (n := 6) (cE_28 (isMo.s2 hi)) (by decide) (Int.toNat n2) rfl (by omega) dX2_begin_54 (fun H locs hP hD hS => ?_)
      obtain ⟨V11, hV11⟩ : ∃ z : Nat → Nat → Int, z = (mU W2 (i + 2) (Int.toNat n2) 0) := ⟨_, rfl⟩
      rw [← hV11] at hP hD
      have hst2 : V11 = f_bg3 (f_bg2 (f_bg1 V i) i j 4) i (Int.toNat (n2 + 1)) := by rw [hV11, j2]; exact f_bg3_succ _ i j1.1
      refine lv_iinc (v := iZ (n2 + 1)) (lv' := [(2, .int (iZ (n2 + 1))), (0, .ref (a i)), (1, .ref (a j))]) hx hb dX2_begin_55 hl (k := 0) rfl (iZ_add _ _) (by decide) rfl (fun ls hl => ?_)
      refine lv_goto (tgt := 42) hx hb dX2_begin_58 (by decide) ?_
      exact ih42 ((n2 + 1), V11) ⟨(by show 0 ≤ (n2 + 1) ∧ (n2 + 1) ≤ 6; omega), (by show V11 = f_bg3 (f_bg2 (f_bg1 V i) i j 4) i (Int.toNat (n2 + 1)); exact hst2)⟩ (by show (6 - (n2 + 1)).toNat < (6 - n2).toNat; omega) H locs ⟨hP, hS⟩ ls (lv_sub hl [0, 1, 2] rfl)
  · refine lv_aload_n hx hb dX2_begin_22 rfl (lv_at hl 1 rfl) ?_
    refine kq_get (i := i) hx hb hts hin_X2 hown hK hP (isMo.l0 hi) (cE_26 (isMo.s0 hi)) rfl 3 (by decide) (hts (.fieldLink RX2 9 "WordFletchers$Moment" "feathers" "[I") (List.mem_cons_of_mem _ (List.mem_append_left _ (List.mem_append_left _ (List.mem_of_getElem? (i := 3) rfl))))) rfl dX2_begin_23 ?_
    refine lv_iload_n hx hb dX2_begin_26 rfl (lv_at hl 0 rfl) ?_
    refine lv_aload_n hx hb dX2_begin_27 rfl (lv_at hl 2 rfl) ?_
    refine kq_get (i := j) hx hb hts hin_X6 hown hK hP (isTo.l0 hj) (cE_15 (isTo.s0 hj)) rfl 6 (by decide) (hts (.fieldLink RX2 34 "WordFletchers$Told" "feathers" "[I") (List.mem_cons_of_mem _ (List.mem_append_left _ (List.mem_append_left _ (List.mem_of_getElem? (i := 4) rfl))))) rfl dX2_begin_28 ?_
    refine W.eq (g2 := F0 m 31 ls [.ref (a (j + 7)), .int (iZ n), .ref (a (i + 1))]) rfl ?_
    refine lv_iload_n hx hb dX2_begin_31 rfl (lv_at hl 0 rfl) ?_
    refine kq_iald (i := (j + 7)) hx hb hK hP (isTo.l7 hj) (n := 4) (cE_22 (isTo.s7 hj)) (by decide) (Int.toNat n) rfl (by omega) dX2_begin_32 ?_
    refine kq_iast (i := (i + 1)) hx hb hK hP hD hS (isMo.l1 hi) (n := 4) (cE_27 (isMo.s1 hi)) (by decide) (Int.toNat n) rfl (by omega) dX2_begin_33 (fun H locs hP hD hS => ?_)
    obtain ⟨V12, hV12⟩ : ∃ z : Nat → Nat → Int, z = (mU Vw (i + 1) (Int.toNat n) (Vw (j + 7) (Int.toNat n))) := ⟨_, rfl⟩
    rw [← hV12] at hP hD
    have hst : V12 = f_bg2 (f_bg1 V i) i j (Int.toNat (n + 1)) := by rw [hV12, i2]; exact f_bg2_succ _ i j i1.1 _ (congrFun (f_bg2_o _ _ (by omega)) _)
    refine lv_iinc (v := iZ (n + 1)) (lv' := [(2, .int (iZ (n + 1))), (0, .ref (a i)), (1, .ref (a j))]) hx hb dX2_begin_34 hl (k := 0) rfl (iZ_add _ _) (by decide) rfl (fun ls hl => ?_)
    refine lv_goto (tgt := 17) hx hb dX2_begin_37 (by decide) ?_
    exact ih17 ((n + 1), V12) ⟨(by show 0 ≤ (n + 1) ∧ (n + 1) ≤ 4; omega), (by show V12 = f_bg2 (f_bg1 V i) i j (Int.toNat (n + 1)); exact hst)⟩ (by show (4 - (n + 1)).toNat < (4 - n).toNat; omega) H locs ⟨hP, hS⟩ ls (lv_sub hl [0, 1, 2] rfl)
set_option maxHeartbeats 4000000 in
set_option maxRecDepth 100000 in
theorem K_X6_tellNothing (l : Launch) (D : va_G) (C : cC) (a b : Nat → Nat) (V : Nat → Nat → Int) (i : Nat) (hi : isTo i) (hDD : va_D (fun _ => True) (cW C a V)) : Met l yX6_tellNothing wsX6_tellNothing ({ frames := 0, cells := 0, slots := 0, locals := 0 }) (va_Pc [.ref (a i)] (cOk D C a b V)) (va_Qv (fun (_ : Unit) => True) (fun _ t => cPo D C a (f_no V i) t) (cA a)) 0 0 (cA a) := by
  refine Met.ofW (cc := cX6_tellNothing) (maxL := 2) (ret := none) (by decide) rfl ?_
  intro p e s m args below meth c s₁ B hml hv
  obtain ⟨rfl, hP, hK, hN⟩ := hv
  have hx := B.exec
  have hb := B.bytes
  have hr := B.returns
  have hts := atoms_spec (ws := wsX6_tellNothing) B.pre
  have hown : s.vm.findClass RX6 = some m.cls := findClass_of_methodNamed B.named
  have hlocks := B.notSynchronized
  have hin_X6 : ∀ w ∈ wsX60, w ∈ wsX6_tellNothing := fun _ w_h => (List.mem_cons_of_mem _ (List.mem_append_right _ w_h))
  have hl := lv_entry ([.ref (a i)]) (n := 2) (Nat.le_of_ble_eq_true rfl)
  rw [lg_entry_eq]
  generalize (lg_sl ([.ref (a i)]) ++ List.replicate (2 - (lg_sl ([.ref (a i)])).length) Slot.unset).toArray = ls at hl ⊢
  replace hl : lv_has ls 2 [(0, .ref (a i))] := hl
  have hD : va_D (cA a) (cW C a V) := cD_own hDD
  generalize hHe : s.heap = H at hP ⊢
  have hS : va_S (cA a) s.heap H [] := by rw [hHe]; exact va_S.rf
  generalize hlo : ([] : List Loc) = locs at hS ⊢
  clear hHe hlo
  refine lv_aload_n hx hb dX6_tellNothing_0 rfl (lv_at hl 0 rfl) ?_
  refine lv_iconst (v := iZ 0) hx hb dX6_tellNothing_1 (by decide) ?_
  refine kq_put (ty := .int) (i := i) hx hb hts hin_X6 hown tyX6 tyX6_ok nmX6 hK hP hD hS (isTo.l0 hi) (cE_15 (isTo.s0 hi)) rfl 7 (by decide) (hts (.fieldLink RX6 36 "WordFletchers$Told" "people" "I") (List.mem_cons_of_mem _ (List.mem_append_left _ (List.mem_of_getElem? (i := 0) rfl)))) rfl (by decide +kernel) rfl rfl (Nat.le_of_ble_eq_true rfl) rfl dX6_tellNothing_2 (fun H locs hP hD hS => ?_)
  obtain ⟨V1, hV1⟩ : ∃ z : Nat → Nat → Int, z = (mU V i 7 0) := ⟨_, rfl⟩
  rw [← hV1] at hP hD
  refine lv_aload_n hx hb dX6_tellNothing_5 rfl (lv_at hl 0 rfl) ?_
  refine lv_iconst (v := iZ 0) hx hb dX6_tellNothing_6 (by decide) ?_
  refine kq_put (ty := .int) (i := i) hx hb hts hin_X6 hown tyX6 tyX6_ok nmX6 hK hP hD hS (isTo.l0 hi) (cE_15 (isTo.s0 hi)) rfl 8 (by decide) (hts (.fieldLink RX6 40 "WordFletchers$Told" "sayings" "I") (List.mem_cons_of_mem _ (List.mem_append_left _ (List.mem_of_getElem? (i := 1) rfl)))) rfl (by decide +kernel) rfl rfl (Nat.le_of_ble_eq_true rfl) rfl dX6_tellNothing_7 (fun H locs hP hD hS => ?_)
  obtain ⟨V2, hV2⟩ : ∃ z : Nat → Nat → Int, z = (mU V1 i 8 0) := ⟨_, rfl⟩
  rw [← hV2] at hP hD
  refine lv_aload_n hx hb dX6_tellNothing_10 rfl (lv_at hl 0 rfl) ?_
  refine W.eq (g2 := F0 m 11 ls [.ref (a i)]) rfl ?_
  refine lv_iconst (v := iZ 0) hx hb dX6_tellNothing_11 (by decide) ?_
  refine kq_put (ty := .int) (i := i) hx hb hts hin_X6 hown tyX6 tyX6_ok nmX6 hK hP hD hS (isTo.l0 hi) (cE_15 (isTo.s0 hi)) rfl 9 (by decide) (hts (.fieldLink RX6 43 "WordFletchers$Told" "windsTold" "I") (List.mem_cons_of_mem _ (List.mem_append_left _ (List.mem_of_getElem? (i := 2) rfl)))) rfl (by decide +kernel) rfl rfl (Nat.le_of_ble_eq_true rfl) rfl dX6_tellNothing_12 (fun H locs hP hD hS => ?_)
  obtain ⟨V3, hV3⟩ : ∃ z : Nat → Nat → Int, z = (mU V2 i 9 0) := ⟨_, rfl⟩
  rw [← hV3] at hP hD
  refine lv_aload_n hx hb dX6_tellNothing_15 rfl (lv_at hl 0 rfl) ?_
  refine kq_get (i := i) hx hb hts hin_X6 hown hK hP (isTo.l0 hi) (cE_15 (isTo.s0 hi)) rfl 5 (by decide) (hts (.fieldLink RX6 27 "WordFletchers$Told" "winds" "[I") (List.mem_cons_of_mem _ (List.mem_append_left _ (List.mem_of_getElem? (i := 3) rfl)))) rfl dX6_tellNothing_16 ?_
  refine lv_iconst (v := iZ 0) hx hb dX6_tellNothing_19 (by decide) ?_
  refine lv_iconst (v := iZ 0) hx hb dX6_tellNothing_20 (by decide) ?_
  refine kq_iast (i := (i + 6)) hx hb hK hP hD hS (isTo.l6 hi) (n := 6) (cE_21 (isTo.s6 hi)) (by decide) 0 rfl (by omega) dX6_tellNothing_21 (fun H locs hP hD hS => ?_)
  obtain ⟨V4, hV4⟩ : ∃ z : Nat → Nat → Int, z = (mU V3 (i + 6) 0 0) := ⟨_, rfl⟩
  rw [← hV4] at hP hD
  have hb1 : V4 = f_noN (mU (mU (mU (mU V i 7 0) i 8 0) i 9 0) (i + 6) 0 0) i (Int.toNat 0) := by rw [show Int.toNat 0 = 0 from rfl, f_noN_0]; subst_vars; rfl
  refine lv_iconst (v := iZ 0) hx hb dX6_tellNothing_22 (by decide) ?_
  refine lv_istore_n (lv' := [(1, .int (iZ 0)), (0, .ref (a i))]) hx hb dX6_tellNothing_23 rfl hl (by decide) rfl (fun ls hl => ?_)
  replace hl : lv_has ls 2 [(1, .int (iZ (0 : Int))), (0, .ref (a i))] := lv_sub hl [0, 1] rfl
  replace hP := And.intro hP hS
  clear hS
  revert ls
  revert hP
  revert H locs
  refine z_loopH (σ := Int × (Nat → Nat → Int)) (fun x9 => (0 ≤ x9.1 ∧ x9.1 ≤ 4) ∧ (x9.2 = f_noN (mU (mU (mU (mU V i 7 0) i 8 0) i 9 0) (i + 6) 0 0) i (Int.toNat x9.1))) (fun x9 H9 locs9 => va_P D vwCl (cW C a (x9.2)) H9 ∧ va_S (cA a) s.heap H9 locs9) (fun x9 => [(1, .int (iZ (x9.1))), (0, .ref (a i))]) 2 (fun x9 => (4 - x9.1).toNat) ((0 : Int), V4) ⟨(by show 0 ≤ (0 : Int) ∧ (0 : Int) ≤ 4; omega), (by show V4 = f_noN (mU (mU (mU (mU V i 7 0) i 8 0) i 9 0) (i + 6) 0 0) i (Int.toNat (0 : Int)); exact hb1)⟩ ?_
  rintro ⟨n, Vw⟩ hI9 ih24 H locs hPS ls hl
  have hP : va_P D vwCl (cW C a Vw) H := hPS.1
  have hS : va_S (cA a) s.heap H locs := hPS.2
  clear hPS
  have hD : va_D (cA a) (cW C a Vw) := cD_re hD
  obtain ⟨i1, i2⟩ := hI9
  replace i1 : 0 ≤ n ∧ n ≤ 4 := i1
  replace i2 : Vw = f_noN (mU (mU (mU (mU V i 7 0) i 8 0) i 9 0) (i + 6) 0 0) i (Int.toNat n) := i2
  replace hl : lv_has ls 2 [(1, .int (iZ n)), (0, .ref (a i))] := hl
  refine lv_iload_n hx hb dX6_tellNothing_24 rfl (lv_at hl 0 rfl) ?_
  refine lv_iconst (v := iZ 4) hx hb dX6_tellNothing_25 (by decide) ?_
  refine z_icmp_ge (x := n) (y := 4) (tgt := 43) hx hb (by omega) (by omega) dX6_tellNothing_26 (by decide) (fun c5 => ?_) (fun c5 => ?_)
  · exact kq_retV hx hb hK hP hS hr (by have q : n = 4 := (by omega); rw [i2, q]; rfl) dX6_tellNothing_43 hlocks
  · refine lv_aload_n hx hb dX6_tellNothing_29 rfl (lv_at hl 1 rfl) ?_
    refine kq_get (i := i) hx hb hts hin_X6 hown hK hP (isTo.l0 hi) (cE_15 (isTo.s0 hi)) rfl 6 (by decide) (hts (.fieldLink RX6 30 "WordFletchers$Told" "feathers" "[I") (List.mem_cons_of_mem _ (List.mem_append_left _ (List.mem_of_getElem? (i := 4) rfl)))) rfl dX6_tellNothing_30 ?_
    refine lv_iload_n hx hb dX6_tellNothing_33 rfl (lv_at hl 0 rfl) ?_
    refine lv_bipush (v := iZ 9) hx hb dX6_tellNothing_34 (by decide) ?_
    refine W.eq (g2 := F0 m 36 ls [.int (iZ 9), .int (iZ n), .ref (a (i + 7))]) rfl ?_
    refine kq_iast (i := (i + 7)) hx hb hK hP hD hS (isTo.l7 hi) (n := 4) (cE_22 (isTo.s7 hi)) (by decide) (Int.toNat n) rfl (by omega) dX6_tellNothing_36 (fun H locs hP hD hS => ?_)
    obtain ⟨V7, hV7⟩ : ∃ z : Nat → Nat → Int, z = (mU Vw (i + 7) (Int.toNat n) 9) := ⟨_, rfl⟩
    rw [← hV7] at hP hD
    have hst : V7 = f_noN (mU (mU (mU (mU V i 7 0) i 8 0) i 9 0) (i + 6) 0 0) i (Int.toNat (n + 1)) := by rw [hV7, i2]; exact f_noN_succ _ i i1.1
    refine lv_iinc (v := iZ (n + 1)) (lv' := [(1, .int (iZ (n + 1))), (0, .ref (a i))]) hx hb dX6_tellNothing_37 hl (k := 0) rfl (iZ_add _ _) (by decide) rfl (fun ls hl => ?_)
    refine lv_goto (tgt := 24) hx hb dX6_tellNothing_40 (by decide) ?_
    exact ih24 ((n + 1), V7) ⟨(by show 0 ≤ (n + 1) ∧ (n + 1) ≤ 4; omega), (by show V7 = f_noN (mU (mU (mU (mU V i 7 0) i 8 0) i 9 0) (i + 6) 0 0) i (Int.toNat (n + 1)); exact hst)⟩ (by show (4 - (n + 1)).toNat < (4 - n).toNat; omega) H locs ⟨hP, hS⟩ ls (lv_sub hl [0, 1] rfl)
set_option maxHeartbeats 4000000 in
set_option maxRecDepth 100000 in
theorem K_X5_sortAt_0 (l : Launch) (D : va_G) (C : cC) (a b : Nat → Nat) (V : Nat → Nat → Int) (ix : Int) (h1 : -2147483648 ≤ ix ∧ ix < 2147483648) (h2 : V 2 1 = 0 ∧ V 2 1 ≤ ix) : Met l yX5_sortAt wsX5_sortAt ({ frames := 0, cells := 0, slots := 0, locals := 0 }) (va_Pc [.ref (a 2), .int (iZ ix)] (cOk D C a b V)) (vp_Si (fun r => r = iZ (0))) 0 0 (fun _ => False) := by
  refine Met.ofW (cc := cX5_sortAt) (maxL := 3) (ret := (some .int)) (by decide) rfl ?_
  intro p e s m args below meth c s₁ B hml hv
  obtain ⟨rfl, hP, hK, hN⟩ := hv
  have hx := B.exec
  have hb := B.bytes
  have hr := B.returns
  have hts := atoms_spec (ws := wsX5_sortAt) B.pre
  have hown : s.vm.findClass RX5 = some m.cls := findClass_of_methodNamed B.named
  have hlocks := B.notSynchronized
  have hin_X5 : ∀ w ∈ wsX50, w ∈ wsX5_sortAt := fun _ w_h => (List.mem_cons_of_mem _ (List.mem_append_right _ w_h))
  have hl := lv_entry ([.ref (a 2), .int (iZ ix)]) (n := 3) (Nat.le_of_ble_eq_true rfl)
  rw [lg_entry_eq]
  generalize (lg_sl ([.ref (a 2), .int (iZ ix)]) ++ List.replicate (3 - (lg_sl ([.ref (a 2), .int (iZ ix)])).length) Slot.unset).toArray = ls at hl ⊢
  replace hl : lv_has ls 3 [(0, .ref (a 2)), (1, .int (iZ ix))] := hl
  have hS : va_S (cA a) s.heap s.heap [] := va_S.rf
  refine lv_iload_n hx hb dX5_sortAt_0 rfl (lv_at hl 1 rfl) ?_
  refine lv_aload_n hx hb dX5_sortAt_1 rfl (lv_at hl 0 rfl) ?_
  refine kq_get (i := 2) hx hb hts hin_X5 hown hK hP (by decide) (cE_2 rfl) rfl 1 (by decide) (hts (.fieldLink RX5 21 "WordFletchers$TextReader" "length" "I") (List.mem_cons_of_mem _ (List.mem_append_left _ (List.mem_of_getElem? (i := 0) rfl)))) rfl dX5_sortAt_2 ?_
  refine z_icmp_lt (x := ix) (y := (V 2 1)) (tgt := 10) hx hb (by omega) (by omega) dX5_sortAt_5 (by decide) (fun c1 => ?_) (fun c1 => ?_)
  · omega
  · refine lv_iconst (v := iZ 0) hx hb dX5_sortAt_8 (by decide) ?_
    exact mq_ret hx hb hr rfl rfl dX5_sortAt_9 hlocks rfl
set_option maxHeartbeats 4000000 in
set_option maxRecDepth 100000 in
theorem K_X5_step_0 (l : Launch) (D : va_G) (C : cC) (a b : Nat → Nat) (V : Nat → Nat → Int) (h1 : V 2 1 = 0) (h2 : V 2 2 = 0) (hDD : va_D (fun _ => True) (cW C a V)) : Met l yX5_step wsX5_step ({ frames := 1, cells := 0, slots := 0, locals := 22 }) (va_Pc [.ref (a 2)] (cOk D C a b V)) (va_Qv (fun (_ : Unit) => True) (fun _ t => cPo D C a (mU (mU V 2 4 (V 2 2)) 2 3 0) t) (cA a)) 0 0 (cA a) := by
  refine Met.ofW (cc := cX5_step) (maxL := 1) (ret := none) (by decide) rfl ?_
  intro p e s m args below meth c s₁ B hml hv
  obtain ⟨rfl, hP, hK, hN⟩ := hv
  have hx := B.exec
  have hb := B.bytes
  have hr := B.returns
  have hts := atoms_spec (ws := wsX5_step) B.pre
  have hown : s.vm.findClass RX5 = some m.cls := findClass_of_methodNamed B.named
  have hlocks := B.notSynchronized
  have hin_X5 : ∀ w ∈ wsX50, w ∈ wsX5_step := fun _ w_h => (List.mem_cons_of_mem _ (List.mem_append_right _ w_h))
  have hl := lv_entry ([.ref (a 2)]) (n := 1) (Nat.le_of_ble_eq_true rfl)
  rw [lg_entry_eq]
  generalize (lg_sl ([.ref (a 2)]) ++ List.replicate (1 - (lg_sl ([.ref (a 2)])).length) Slot.unset).toArray = ls at hl ⊢
  replace hl : lv_has ls 1 [(0, .ref (a 2))] := hl
  have hD : va_D (cA a) (cW C a V) := cD_own hDD
  generalize hHe : s.heap = H at hP ⊢
  have hS : va_S (cA a) s.heap H [] := by rw [hHe]; exact va_S.rf
  generalize hlo : ([] : List Loc) = locs at hS ⊢
  clear hHe hlo
  refine lv_aload_n hx hb dX5_step_0 rfl (lv_at hl 0 rfl) ?_
  refine kq_get (i := 2) hx hb hts hin_X5 hown hK hP (by decide) (cE_2 rfl) rfl 2 (by decide) (hts (.fieldLink RX5 25 "WordFletchers$TextReader" "next" "I") (List.mem_cons_of_mem _ (List.mem_append_left _ (List.mem_of_getElem? (i := 0) rfl)))) rfl dX5_step_1 ?_
  refine lv_aload_n hx hb dX5_step_4 rfl (lv_at hl 0 rfl) ?_
  refine W.eq (g2 := F0 m 5 ls [.ref (a 2), .int (iZ (V 2 2))]) rfl ?_
  refine kq_get (i := 2) hx hb hts hin_X5 hown hK hP (by decide) (cE_2 rfl) rfl 1 (by decide) (hts (.fieldLink RX5 21 "WordFletchers$TextReader" "length" "I") (List.mem_cons_of_mem _ (List.mem_append_left _ (List.mem_of_getElem? (i := 1) rfl)))) rfl dX5_step_5 ?_
  refine z_icmp_ge (x := (V 2 2)) (y := (V 2 1)) (tgt := 38) hx hb (by omega) (by omega) dX5_step_8 (by decide) (fun c1 => ?_) (fun c1 => ?_)
  · refine lv_aload_n hx hb dX5_step_38 rfl (lv_at hl 0 rfl) ?_
    refine lv_aload_n hx hb dX5_step_39 rfl (lv_at hl 0 rfl) ?_
    refine kq_get (i := 2) hx hb hts hin_X5 hown hK hP (by decide) (cE_2 rfl) rfl 2 (by decide) (hts (.fieldLink RX5 25 "WordFletchers$TextReader" "next" "I") (List.mem_cons_of_mem _ (List.mem_append_left _ (List.mem_of_getElem? (i := 0) rfl)))) rfl dX5_step_40 ?_
    refine kq_put (ty := .int) (i := 2) hx hb hts hin_X5 hown tyX5 tyX5_ok nmX5 hK hP hD hS (by decide) (cE_2 rfl) rfl 4 (by decide) (hts (.fieldLink RX5 43 "WordFletchers$TextReader" "start" "I") (List.mem_cons_of_mem _ (List.mem_append_left _ (List.mem_of_getElem? (i := 3) rfl)))) rfl (by decide +kernel) rfl rfl (Nat.le_of_ble_eq_true rfl) rfl dX5_step_43 (fun H locs hP hD hS => ?_)
    obtain ⟨V2, hV2⟩ : ∃ z : Nat → Nat → Int, z = (mU V 2 4 (V 2 2)) := ⟨_, rfl⟩
    rw [← hV2] at hP hD
    have e1 : V2 2 1 = 0 := by rw [hV2]; exact h1
    have e2 : V2 2 2 = 0 := by rw [hV2]; exact h2
    refine lv_aload_n hx hb dX5_step_46 rfl (lv_at hl 0 rfl) ?_
    refine lv_aload_n hx hb dX5_step_47 rfl (lv_at hl 0 rfl) ?_
    refine lv_aload_n hx hb dX5_step_48 rfl (lv_at hl 0 rfl) ?_
    refine kq_get (i := 2) hx hb hts hin_X5 hown hK hP (by decide) (cE_2 rfl) rfl 2 (by decide) (hts (.fieldLink RX5 25 "WordFletchers$TextReader" "next" "I") (List.mem_cons_of_mem _ (List.mem_append_left _ (List.mem_of_getElem? (i := 0) rfl)))) rfl dX5_step_49 ?_
    refine kq_ci (i := 2) (As := [.int (iZ (V2 2 2))]) (rest := [.ref (a 2)]) ⟨hx, hb, hml, hown, hts⟩ hK hP hN hS (by decide) (cE_2 rfl) rfl (K_X5_sortAt_0 l D C a b V2 (V2 2 2) (by omega) (by omega)) (cwV 1 hts gX5_step_X5_sortAt rfl rfl rfl (by decide +kernel) ⟨Nat.le_of_ble_eq_true rfl, Nat.le_of_ble_eq_true rfl⟩) rfl rfl hl.1 (Nat.le_of_ble_eq_true rfl) ⟨Nat.le_of_ble_eq_true rfl, Nat.le_of_ble_eq_true rfl⟩ dX5_step_52 ?_
    refine kq_put (ty := .int) (i := 2) hx hb hts hin_X5 hown tyX5 tyX5_ok nmX5 hK hP hD hS (by decide) (cE_2 rfl) rfl 3 (by decide) (hts (.fieldLink RX5 36 "WordFletchers$TextReader" "sort" "I") (List.mem_cons_of_mem _ (List.mem_append_left _ (List.mem_of_getElem? (i := 4) rfl)))) rfl (by decide +kernel) rfl rfl (Nat.le_of_ble_eq_true rfl) rfl dX5_step_55 (fun H locs hP hD hS => ?_)
    obtain ⟨V3, hV3⟩ : ∃ z : Nat → Nat → Int, z = (mU V2 2 3 0) := ⟨_, rfl⟩
    rw [← hV3] at hP hD
    have e3 : V3 2 3 = 0 := by rw [hV3, mU_eq]
    refine W.eq (g2 := F0 m 58 ls []) rfl ?_
    refine lv_aload_n hx hb dX5_step_58 rfl (lv_at hl 0 rfl) ?_
    refine kq_get (i := 2) hx hb hts hin_X5 hown hK hP (by decide) (cE_2 rfl) rfl 3 (by decide) (hts (.fieldLink RX5 36 "WordFletchers$TextReader" "sort" "I") (List.mem_cons_of_mem _ (List.mem_append_left _ (List.mem_of_getElem? (i := 4) rfl)))) rfl dX5_step_59 ?_
    refine lv_iconst (v := iZ 1) hx hb dX5_step_62 (by decide) ?_
    refine z_icmp_ne (x := (V3 2 3)) (y := 1) (tgt := 73) hx hb (by omega) (by omega) dX5_step_63 (by decide) (fun c4 => ?_) (fun c4 => ?_)
    · refine lv_aload_n hx hb dX5_step_73 rfl (lv_at hl 0 rfl) ?_
      refine W.eq (g2 := F0 m 74 ls [.ref (a 2)]) rfl ?_
      refine kq_get (i := 2) hx hb hts hin_X5 hown hK hP (by decide) (cE_2 rfl) rfl 3 (by decide) (hts (.fieldLink RX5 36 "WordFletchers$TextReader" "sort" "I") (List.mem_cons_of_mem _ (List.mem_append_left _ (List.mem_of_getElem? (i := 4) rfl)))) rfl dX5_step_74 ?_
      refine lv_iconst (v := iZ 2) hx hb dX5_step_77 (by decide) ?_
      refine z_icmp_ne (x := (V3 2 3)) (y := 2) (tgt := 88) hx hb (by omega) (by omega) dX5_step_78 (by decide) (fun c7 => ?_) (fun c7 => ?_)
      · refine lv_aload_n hx hb dX5_step_88 rfl (lv_at hl 0 rfl) ?_
        refine kq_get (i := 2) hx hb hts hin_X5 hown hK hP (by decide) (cE_2 rfl) rfl 3 (by decide) (hts (.fieldLink RX5 36 "WordFletchers$TextReader" "sort" "I") (List.mem_cons_of_mem _ (List.mem_append_left _ (List.mem_of_getElem? (i := 4) rfl)))) rfl dX5_step_89 ?_
        refine z_if_eq (x := (V3 2 3)) (tgt := 105) hx hb (by omega) dX5_step_92 (by decide) (fun c9 => ?_) (fun c9 => ?_)
        · exact kq_retV hx hb hK hP hS hr (by subst_vars; rfl) dX5_step_105 hlocks
        · omega
      · omega
    · omega
  · omega
set_option maxHeartbeats 4000000 in
set_option maxRecDepth 100000 in
theorem K_X5_read_0 (l : Launch) (D : va_G) (C : cC) (a b : Nat → Nat) (V : Nat → Nat → Int) (tl : Int) (j : Nat) (hj : isTo j) (h1 : tl = 0) (hDD : va_D (fun _ => True) (cW C a V)) : Met l yX5_read wsX5_read ({ frames := 2, cells := 0, slots := 0, locals := 42 }) (va_Pc [.ref (a 2), .int (iZ tl), .ref (a j)] (cOk D C a b V)) (va_Qi (fun r (_ : Unit) => r = iZ (0)) (fun _ t => cPo D C a (f_rd0 V j) t) (cA a)) 0 0 (cA a) := by
  refine Met.ofW (cc := cX5_read) (maxL := 4) (ret := (some .int)) (by decide) rfl ?_
  intro p e s m args below meth c s₁ B hml hv
  obtain ⟨rfl, hP, hK, hN⟩ := hv
  have hx := B.exec
  have hb := B.bytes
  have hr := B.returns
  have hts := atoms_spec (ws := wsX5_read) B.pre
  have hown : s.vm.findClass RX5 = some m.cls := findClass_of_methodNamed B.named
  have hlocks := B.notSynchronized
  have hin_X5 : ∀ w ∈ wsX50, w ∈ wsX5_read := fun _ w_h => (List.mem_cons_of_mem _ (List.mem_append_left _ (List.mem_append_right _ w_h)))
  have hin_X6 : ∀ w ∈ wsX60, w ∈ wsX5_read := fun _ w_h => (List.mem_cons_of_mem _ (List.mem_append_right _ w_h))
  have hl := lv_entry ([.ref (a 2), .int (iZ tl), .ref (a j)]) (n := 4) (Nat.le_of_ble_eq_true rfl)
  rw [lg_entry_eq]
  generalize (lg_sl ([.ref (a 2), .int (iZ tl), .ref (a j)]) ++ List.replicate (4 - (lg_sl ([.ref (a 2), .int (iZ tl), .ref (a j)])).length) Slot.unset).toArray = ls at hl ⊢
  replace hl : lv_has ls 4 [(0, .ref (a 2)), (1, .int (iZ tl)), (2, .ref (a j))] := hl
  have hD : va_D (cA a) (cW C a V) := cD_own hDD
  generalize hHe : s.heap = H at hP ⊢
  have hS : va_S (cA a) s.heap H [] := by rw [hHe]; exact va_S.rf
  generalize hlo : ([] : List Loc) = locs at hS ⊢
  clear hHe hlo
  have hjo := hj
  unfold isTo at hjo
  refine lv_aload_n hx hb dX5_read_0 rfl (lv_at hl 0 rfl) ?_
  refine lv_iload_n hx hb dX5_read_1 rfl (lv_at hl 1 rfl) ?_
  refine W.eq (g2 := F0 m 2 ls [.int (iZ tl), .ref (a 2)]) rfl ?_
  refine lv_aload_n hx hb dX5_read_2 rfl (lv_at hl 0 rfl) ?_
  refine kq_get (i := 2) hx hb hts hin_X5 hown hK hP (by decide) (cE_2 rfl) rfl 0 (by decide) (hts (.fieldLink RX5 9 "WordFletchers$TextReader" "bytes" "[I") (List.mem_cons_of_mem _ (List.mem_append_left _ (List.mem_append_left _ (List.mem_append_left _ (List.mem_of_getElem? (i := 0) rfl)))))) rfl dX5_read_3 ?_
  refine kq_alen (i := 1) hx hb hK hP (by decide) (n := 120) (cE_1 rfl) dX5_read_6 ?_
  refine kq_min (x := tl) (y := 120) hx hb (hml.trans hl.1.symm) hown (hts (.methodLink RX5 15 Lib.Math.min.name) (List.mem_cons_of_mem _ (List.mem_append_left _ (List.mem_append_left _ (List.mem_append_left _ (List.mem_of_getElem? (i := 1) rfl)))))) (hts (.static Lib.Math.min.name) (List.mem_cons_of_mem _ (List.mem_append_left _ (List.mem_append_left _ (List.mem_append_left _ (List.mem_of_getElem? (i := 2) rfl)))))) (hts (.initialized "java/lang/Math") (List.mem_cons_of_mem _ (List.mem_append_left _ (List.mem_append_left _ (List.mem_append_left _ (List.mem_of_getElem? (i := 3) rfl)))))) (hts (.code Lib.Math.min.name Lib.Math.min.code 2 (some .int)) (List.mem_cons_of_mem _ (List.mem_append_left _ (List.mem_append_left _ (List.mem_append_left _ (List.mem_of_getElem? (i := 4) rfl)))))) (Nat.le_of_ble_eq_true rfl) (Nat.le_of_ble_eq_true rfl) (Nat.le_of_ble_eq_true rfl) (Nat.le_of_ble_eq_true rfl) (by omega) (by omega) dX5_read_7 ?_
  refine kq_put (ty := .int) (i := 2) hx hb hts hin_X5 hown tyX5 tyX5_ok nmX5 hK hP hD hS (by decide) (cE_2 rfl) rfl 1 (by decide) (hts (.fieldLink RX5 21 "WordFletchers$TextReader" "length" "I") (List.mem_cons_of_mem _ (List.mem_append_left _ (List.mem_append_left _ (List.mem_append_left _ (List.mem_of_getElem? (i := 5) rfl)))))) rfl (by decide +kernel) rfl rfl (Nat.le_of_ble_eq_true rfl) rfl dX5_read_10 (fun H locs hP hD hS => ?_)
  obtain ⟨V1, hV1⟩ : ∃ z : Nat → Nat → Int, z = (mU V 2 1 (if 120 < tl then 120 else tl)) := ⟨_, rfl⟩
  rw [← hV1] at hP hD
  have e1 : V1 2 1 = 0 := by rw [hV1, mU_eq]; omega
  refine lv_aload_n hx hb dX5_read_13 rfl (lv_at hl 0 rfl) ?_
  refine lv_iconst (v := iZ 0) hx hb dX5_read_14 (by decide) ?_
  refine kq_put (ty := .int) (i := 2) hx hb hts hin_X5 hown tyX5 tyX5_ok nmX5 hK hP hD hS (by decide) (cE_2 rfl) rfl 2 (by decide) (hts (.fieldLink RX5 25 "WordFletchers$TextReader" "next" "I") (List.mem_cons_of_mem _ (List.mem_append_left _ (List.mem_append_left _ (List.mem_append_left _ (List.mem_of_getElem? (i := 6) rfl)))))) rfl (by decide +kernel) rfl rfl (Nat.le_of_ble_eq_true rfl) rfl dX5_read_15 (fun H locs hP hD hS => ?_)
  obtain ⟨V2, hV2⟩ : ∃ z : Nat → Nat → Int, z = (mU V1 2 2 0) := ⟨_, rfl⟩
  rw [← hV2] at hP hD
  have e2 : V2 2 1 = 0 := by rw [hV2]; exact e1
  have e3 : V2 2 2 = 0 := by rw [hV2, mU_eq]
  refine lv_aload_n hx hb dX5_read_18 rfl (lv_at hl 2 rfl) ?_
  refine kq_cv (i := j) (As := []) (rest := []) ⟨hx, hb, hml, hown, hts⟩ hK hP hN hD hS (isTo.l0 hj) (cE_15 (isTo.s0 hj)) rfl (K_X6_tellNothing l D C a b V2 j hj (hD.weaken (fun _ _ _ _ => trivial))) (cwV 0 hts gX5_read_X6_tellNothing rfl rfl rfl (by decide +kernel) ⟨Nat.le_of_ble_eq_true rfl, Nat.le_of_ble_eq_true rfl⟩) rfl rfl hl.1 (Nat.le_of_ble_eq_true rfl) ⟨Nat.le_of_ble_eq_true rfl, Nat.le_of_ble_eq_true rfl⟩ dX5_read_19 (fun H locs hP hD hS => ?_)
  obtain ⟨V3, hV3⟩ : ∃ z : Nat → Nat → Int, z = (f_no V2 j) := ⟨_, rfl⟩
  rw [← hV3] at hP hD
  have e4 : V3 2 = V2 2 := by rw [hV3]; exact f_no_o _ (by omega)
  have e5 : V3 2 1 = 0 := by rw [e4]; exact e2
  have e6 : V3 2 2 = 0 := by rw [e4]; exact e3
  refine lv_aload_n hx hb dX5_read_22 rfl (lv_at hl 0 rfl) ?_
  refine kq_cv (i := 2) (As := []) (rest := []) ⟨hx, hb, hml, hown, hts⟩ hK hP hN hD hS (by decide) (cE_2 rfl) rfl (K_X5_step_0 l D C a b V3  (by omega) (by omega) (hD.weaken (fun _ _ _ _ => trivial))) (cwV 0 hts gX5_read_X5_step rfl rfl rfl (by decide +kernel) ⟨Nat.le_of_ble_eq_true rfl, Nat.le_of_ble_eq_true rfl⟩) rfl rfl hl.1 (Nat.le_of_ble_eq_true rfl) ⟨Nat.le_of_ble_eq_true rfl, Nat.le_of_ble_eq_true rfl⟩ dX5_read_23 (fun H locs hP hD hS => ?_)
  obtain ⟨V4, hV4⟩ : ∃ z : Nat → Nat → Int, z = (mU (mU V3 2 4 (V3 2 2)) 2 3 0) := ⟨_, rfl⟩
  rw [← hV4] at hP hD
  have e7 : V4 2 3 = 0 := by rw [hV4, mU_eq]
  refine W.eq (g2 := F0 m 26 ls []) rfl ?_
  refine lv_iconst (v := iZ 0) hx hb dX5_read_26 (by decide) ?_
  refine lv_istore_n (lv' := [(3, .int (iZ 0)), (0, .ref (a 2)), (1, .int (iZ tl)), (2, .ref (a j))]) hx hb dX5_read_27 rfl hl (by decide) rfl (fun ls hl => ?_)
  refine lv_aload_n hx hb dX5_read_28 rfl (lv_at hl 1 rfl) ?_
  refine kq_get (i := 2) hx hb hts hin_X5 hown hK hP (by decide) (cE_2 rfl) rfl 3 (by decide) (hts (.fieldLink RX5 36 "WordFletchers$TextReader" "sort" "I") (List.mem_cons_of_mem _ (List.mem_append_left _ (List.mem_append_left _ (List.mem_append_left _ (List.mem_of_getElem? (i := 7) rfl)))))) rfl dX5_read_29 ?_
  refine z_if_eq (x := (V4 2 3)) (tgt := 63) hx hb (by omega) dX5_read_32 (by decide) (fun c5 => ?_) (fun c5 => ?_)
  · refine lv_iload_n hx hb dX5_read_63 rfl (lv_at hl 0 rfl) ?_
    exact kq_retM hx hb hK hP hS hr rfl rfl (by subst_vars; rfl) dX5_read_64 hlocks
  · omega
set_option maxHeartbeats 4000000 in
set_option maxRecDepth 100000 in
theorem K_X7_beginAnew (l : Launch) (D : va_G) (C : cC) (a b : Nat → Nat) (V : Nat → Nat → Int) (hto : isTo (Int.toNat (V 0 3))) (h1 : 0 ≤ V (Int.toNat (V 0 3)) 8 ∧ V (Int.toNat (V 0 3)) 8 ≤ 6) (hfi : ∀ k : Nat, (k : Int) < V (Int.toNat (V 0 3)) 8 → 0 ≤ V ((Int.toNat (V 0 3)) + 5) k ∧ V ((Int.toNat (V 0 3)) + 5) k ≤ 30) (hDD : va_D (fun _ => True) (cW C a V)) : Met l yX7_beginAnew wsX7_beginAnew ({ frames := 3, cells := 0, slots := 0, locals := 66 }) (va_Pc [.ref (a 0)] (cOk D C a b V)) (va_Qv (fun (_ : Unit) => True) (fun _ t => cPo D C a (f_anew V) t) (cA a)) 0 0 (cA a) := by
  refine Met.ofW (cc := cX7_beginAnew) (maxL := 2) (ret := none) (by decide) rfl ?_
  intro p e s m args below meth c s₁ B hml hv
  obtain ⟨rfl, hP, hK, hN⟩ := hv
  have hx := B.exec
  have hb := B.bytes
  have hr := B.returns
  have hts := atoms_spec (ws := wsX7_beginAnew) B.pre
  have hown : s.vm.findClass RX7 = some m.cls := findClass_of_methodNamed B.named
  have hlocks := B.notSynchronized
  have hin_X7 : ∀ w ∈ wsX70, w ∈ wsX7_beginAnew := fun _ w_h => (List.mem_cons_of_mem _ (List.mem_append_left _ (List.mem_append_left _ (List.mem_append_left _ (List.mem_append_left _ (List.mem_append_left _ (List.mem_append_right _ w_h)))))))
  have hin_X3 : ∀ w ∈ wsX30, w ∈ wsX7_beginAnew := fun _ w_h => (List.mem_cons_of_mem _ (List.mem_append_left _ (List.mem_append_left _ (List.mem_append_left _ (List.mem_append_left _ (List.mem_append_right _ w_h))))))
  have hin_X4 : ∀ w ∈ wsX40, w ∈ wsX7_beginAnew := fun _ w_h => (List.mem_cons_of_mem _ (List.mem_append_left _ (List.mem_append_left _ (List.mem_append_left _ (List.mem_append_right _ w_h)))))
  have hin_X1 : ∀ w ∈ wsX10, w ∈ wsX7_beginAnew := fun _ w_h => (List.mem_cons_of_mem _ (List.mem_append_left _ (List.mem_append_left _ (List.mem_append_right _ w_h))))
  have hin_X2 : ∀ w ∈ wsX20, w ∈ wsX7_beginAnew := fun _ w_h => (List.mem_cons_of_mem _ (List.mem_append_left _ (List.mem_append_right _ w_h)))
  have hin_X6 : ∀ w ∈ wsX60, w ∈ wsX7_beginAnew := fun _ w_h => (List.mem_cons_of_mem _ (List.mem_append_right _ w_h))
  have hl := lv_entry ([.ref (a 0)]) (n := 2) (Nat.le_of_ble_eq_true rfl)
  rw [lg_entry_eq]
  generalize (lg_sl ([.ref (a 0)]) ++ List.replicate (2 - (lg_sl ([.ref (a 0)])).length) Slot.unset).toArray = ls at hl ⊢
  replace hl : lv_has ls 2 [(0, .ref (a 0))] := hl
  have hD : va_D (cA a) (cW C a V) := cD_own hDD
  generalize hHe : s.heap = H at hP ⊢
  have hS : va_S (cA a) s.heap H [] := by rw [hHe]; exact va_S.rf
  generalize hlo : ([] : List Loc) = locs at hS ⊢
  clear hHe hlo
  refine lv_aload_n hx hb dX7_beginAnew_0 rfl (lv_at hl 0 rfl) ?_
  refine kq_get (i := 0) hx hb hts hin_X7 hown hK hP (by decide) (cE_0 rfl) rfl 5 (by decide) (hts (.fieldLink RX7 39 "WordFletchers" "moment" "LWordFletchers$Moment;") (List.mem_cons_of_mem _ (List.mem_append_left _ (List.mem_append_left _ (List.mem_append_left _ (List.mem_append_left _ (List.mem_append_left _ (List.mem_append_left _ (List.mem_append_left _ (List.mem_of_getElem? (i := 0) rfl)))))))))) rfl dX7_beginAnew_1 ?_
  refine lv_aload_n hx hb dX7_beginAnew_4 rfl (lv_at hl 0 rfl) ?_
  refine kq_get (i := 0) hx hb hts hin_X7 hown hK hP (by decide) (cE_0 rfl) rfl 3 (by decide) (hts (.fieldLink RX7 29 "WordFletchers" "told" "LWordFletchers$Told;") (List.mem_cons_of_mem _ (List.mem_append_left _ (List.mem_append_left _ (List.mem_append_left _ (List.mem_append_left _ (List.mem_append_left _ (List.mem_append_left _ (List.mem_append_left _ (List.mem_of_getElem? (i := 1) rfl)))))))))) rfl dX7_beginAnew_5 ?_
  refine kq_cv (i := 39) (As := [.ref (a (Int.toNat (V 0 3)))]) (rest := []) ⟨hx, hb, hml, hown, hts⟩ hK hP hN hD hS (isMo.l0 isMo_39) (cE_26 (isMo.s0 isMo_39)) rfl (K_X2_begin l D C a b V 39 isMo_39 (Int.toNat (V 0 3)) (by assumption) (by omega) (by assumption) (hD.weaken (fun _ _ _ _ => trivial))) (cwV 1 hts gX7_beginAnew_X2_begin rfl rfl rfl (by decide +kernel) ⟨Nat.le_of_ble_eq_true rfl, Nat.le_of_ble_eq_true rfl⟩) rfl rfl hl.1 (Nat.le_of_ble_eq_true rfl) ⟨Nat.le_of_ble_eq_true rfl, Nat.le_of_ble_eq_true rfl⟩ dX7_beginAnew_8 (fun H locs hP hD hS => ?_)
  obtain ⟨V1, hV1⟩ : ∃ z : Nat → Nat → Int, z = (f_beg V 39 (Int.toNat (V 0 3))) := ⟨_, rfl⟩
  rw [← hV1] at hP hD
  refine W.eq (g2 := F0 m 11 ls []) rfl ?_
  refine lv_aload_n hx hb dX7_beginAnew_11 rfl (lv_at hl 0 rfl) ?_
  refine kq_get (i := 0) hx hb hts hin_X7 hown hK hP (by decide) (cE_0 rfl) rfl 6 (by decide) (hts (.fieldLink RX7 46 "WordFletchers" "past" "LWordFletchers$Past;") (List.mem_cons_of_mem _ (List.mem_append_left _ (List.mem_append_left _ (List.mem_append_left _ (List.mem_append_left _ (List.mem_append_left _ (List.mem_append_left _ (List.mem_append_left _ (List.mem_of_getElem? (i := 2) rfl)))))))))) rfl dX7_beginAnew_12 ?_
  refine lv_iconst (v := iZ 0) hx hb dX7_beginAnew_15 (by decide) ?_
  refine kq_put (ty := .int) (i := 31) hx hb hts hin_X3 hown tyX3 tyX3_ok nmX3 hK hP hD hS (isPa.l0 isPa_31) (cE_23 (isPa.s0 isPa_31)) rfl 1 (by decide) (hts (.fieldLink RX7 185 "WordFletchers$Past" "known" "I") (List.mem_cons_of_mem _ (List.mem_append_left _ (List.mem_append_left _ (List.mem_append_left _ (List.mem_append_left _ (List.mem_append_left _ (List.mem_append_left _ (List.mem_append_left _ (List.mem_of_getElem? (i := 3) rfl)))))))))) rfl (by decide +kernel) rfl rfl (Nat.le_of_ble_eq_true rfl) rfl dX7_beginAnew_16 (fun H locs hP hD hS => ?_)
  obtain ⟨V2, hV2⟩ : ∃ z : Nat → Nat → Int, z = (mU V1 31 1 0) := ⟨_, rfl⟩
  rw [← hV2] at hP hD
  refine lv_aload_n hx hb dX7_beginAnew_19 rfl (lv_at hl 0 rfl) ?_
  refine kq_get (i := 0) hx hb hts hin_X7 hown hK hP (by decide) (cE_0 rfl) rfl 8 (by decide) (hts (.fieldLink RX7 59 "WordFletchers" "sightings" "LWordFletchers$Sightings;") (List.mem_cons_of_mem _ (List.mem_append_left _ (List.mem_append_left _ (List.mem_append_left _ (List.mem_append_left _ (List.mem_append_left _ (List.mem_append_left _ (List.mem_append_left _ (List.mem_of_getElem? (i := 4) rfl)))))))))) rfl dX7_beginAnew_20 ?_
  refine lv_iconst (v := iZ 0) hx hb dX7_beginAnew_23 (by decide) ?_
  refine kq_put (ty := .int) (i := 4) hx hb hts hin_X4 hown tyX4 tyX4_ok nmX4 hK hP hD hS (by decide) (cE_4 rfl) rfl 4 (by decide) (hts (.fieldLink RX7 251 "WordFletchers$Sightings" "size" "I") (List.mem_cons_of_mem _ (List.mem_append_left _ (List.mem_append_left _ (List.mem_append_left _ (List.mem_append_left _ (List.mem_append_left _ (List.mem_append_left _ (List.mem_append_left _ (List.mem_of_getElem? (i := 5) rfl)))))))))) rfl (by decide +kernel) rfl rfl (Nat.le_of_ble_eq_true rfl) rfl dX7_beginAnew_24 (fun H locs hP hD hS => ?_)
  obtain ⟨V3, hV3⟩ : ∃ z : Nat → Nat → Int, z = (mU V2 4 4 0) := ⟨_, rfl⟩
  rw [← hV3] at hP hD
  have hb1 : V3 = f_ikN (mU (mU (f_beg V 39 (Int.toNat (V 0 3))) 31 1 0) 4 4 0) (Int.toNat 0) := by rw [show Int.toNat 0 = 0 from rfl, f_ikN_0]; subst_vars; rfl
  refine lv_iconst (v := iZ 0) hx hb dX7_beginAnew_27 (by decide) ?_
  refine lv_istore_n (lv' := [(1, .int (iZ 0)), (0, .ref (a 0))]) hx hb dX7_beginAnew_28 rfl hl (by decide) rfl (fun ls hl => ?_)
  replace hl : lv_has ls 2 [(1, .int (iZ (0 : Int))), (0, .ref (a 0))] := lv_sub hl [0, 1] rfl
  replace hP := And.intro hP hS
  clear hS
  revert ls
  revert hP
  revert H locs
  refine z_loopH (σ := Int × (Nat → Nat → Int)) (fun x9 => (0 ≤ x9.1 ∧ x9.1 ≤ 2) ∧ (x9.2 = f_ikN (mU (mU (f_beg V 39 (Int.toNat (V 0 3))) 31 1 0) 4 4 0) (Int.toNat x9.1))) (fun x9 H9 locs9 => va_P D vwCl (cW C a (x9.2)) H9 ∧ va_S (cA a) s.heap H9 locs9) (fun x9 => [(1, .int (iZ (x9.1))), (0, .ref (a 0))]) 2 (fun x9 => (2 - x9.1).toNat) ((0 : Int), V3) ⟨(by show 0 ≤ (0 : Int) ∧ (0 : Int) ≤ 2; omega), (by show V3 = f_ikN (mU (mU (f_beg V 39 (Int.toNat (V 0 3))) 31 1 0) 4 4 0) (Int.toNat (0 : Int)); exact hb1)⟩ ?_
  rintro ⟨n, Vw⟩ hI9 ih29 H locs hPS ls hl
  have hP : va_P D vwCl (cW C a Vw) H := hPS.1
  have hS : va_S (cA a) s.heap H locs := hPS.2
  clear hPS
  have hD : va_D (cA a) (cW C a Vw) := cD_re hD
  obtain ⟨i1, i2⟩ := hI9
  replace i1 : 0 ≤ n ∧ n ≤ 2 := i1
  replace i2 : Vw = f_ikN (mU (mU (f_beg V 39 (Int.toNat (V 0 3))) 31 1 0) 4 4 0) (Int.toNat n) := i2
  replace hl : lv_has ls 2 [(1, .int (iZ n)), (0, .ref (a 0))] := hl
  refine lv_iload_n hx hb dX7_beginAnew_29 rfl (lv_at hl 0 rfl) ?_
  refine lv_iconst (v := iZ 2) hx hb dX7_beginAnew_30 (by decide) ?_
  refine W.eq (g2 := F0 m 31 ls [.int (iZ 2), .int (iZ n)]) rfl ?_
  refine z_icmp_ge (x := n) (y := 2) (tgt := 50) hx hb (by omega) (by omega) dX7_beginAnew_31 (by decide) (fun c4 => ?_) (fun c4 => ?_)
  · exact kq_retV hx hb hK hP hS hr (by have q : n = 2 := (by omega); rw [i2, q]; rfl) dX7_beginAnew_50 hlocks
  · refine lv_aload_n hx hb dX7_beginAnew_34 rfl (lv_at hl 1 rfl) ?_
    refine kq_get (i := 0) hx hb hts hin_X7 hown hK hP (by decide) (cE_0 rfl) rfl 7 (by decide) (hts (.fieldLink RX7 52 "WordFletchers" "images" "[LWordFletchers$Image;") (List.mem_cons_of_mem _ (List.mem_append_left _ (List.mem_append_left _ (List.mem_append_left _ (List.mem_append_left _ (List.mem_append_left _ (List.mem_append_left _ (List.mem_append_left _ (List.mem_of_getElem? (i := 6) rfl)))))))))) rfl dX7_beginAnew_35 ?_
    refine W.eq (g2 := F0 m 38 ls [.ref (a 3)]) rfl ?_
    refine lv_iload_n hx hb dX7_beginAnew_38 rfl (lv_at hl 0 rfl) ?_
    refine kq_aldI hx hb hK hP (Int.toNat n) rfl (by omega) dX7_beginAnew_39 ?_
    refine lv_iconst (v := iZ 0) hx hb dX7_beginAnew_40 (by decide) ?_
    refine kq_put (ty := .boolean) (i := (37 + (Int.toNat n))) hx hb hts hin_X1 hown tyX1 tyX1_ok nmX1 hK hP hD hS (isIm.l0 (isIm_of (by omega))) (cE_25 (isIm.s0 (isIm_of (by omega)))) rfl 2 (by decide) (hts (.fieldLink RX7 291 "WordFletchers$Image" "kept" "Z") (List.mem_cons_of_mem _ (List.mem_append_left _ (List.mem_append_left _ (List.mem_append_left _ (List.mem_append_left _ (List.mem_append_left _ (List.mem_append_left _ (List.mem_append_left _ (List.mem_of_getElem? (i := 7) rfl)))))))))) rfl (by decide +kernel) (z_nbool (by omega)) (z_fbool (by omega)) (Nat.le_of_ble_eq_true rfl) rfl dX7_beginAnew_41 (fun H locs hP hD hS => ?_)
    obtain ⟨V6, hV6⟩ : ∃ z : Nat → Nat → Int, z = (mU Vw (37 + (Int.toNat n)) 2 0) := ⟨_, rfl⟩
    rw [← hV6] at hP hD
    have hst : V6 = f_ikN (mU (mU (f_beg V 39 (Int.toNat (V 0 3))) 31 1 0) 4 4 0) (Int.toNat (n + 1)) := by rw [hV6, i2]; exact f_ikN_succ _ i1.1
    refine lv_iinc (v := iZ (n + 1)) (lv' := [(1, .int (iZ (n + 1))), (0, .ref (a 0))]) hx hb dX7_beginAnew_44 hl (k := 0) rfl (iZ_add _ _) (by decide) rfl (fun ls hl => ?_)
    refine lv_goto (tgt := 29) hx hb dX7_beginAnew_47 (by decide) ?_
    exact ih29 ((n + 1), V6) ⟨(by show 0 ≤ (n + 1) ∧ (n + 1) ≤ 2; omega), (by show V6 = f_ikN (mU (mU (f_beg V 39 (Int.toNat (V 0 3))) 31 1 0) 4 4 0) (Int.toNat (n + 1)); exact hst)⟩ (by show (2 - (n + 1)).toNat < (2 - n).toNat; omega) H locs ⟨hP, hS⟩ ls (lv_sub hl [0, 1] rfl)
