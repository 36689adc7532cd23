set_option maxHeartbeats 4000000 in
set_option maxRecDepth 100000 in
theorem K_X2_isKnown (l : Launch) (D : va_G) (C : cC) (a b : Nat → Nat) (V : Nat → Nat → Int) (i : Nat) (hi : isMo i) (pe : Int) (sy : Int) (hM : moI V i) (h1 : 0 ≤ pe ∧ pe < 6) (h2 : 0 ≤ sy ∧ sy < 6) : Met l yX2_isKnown wsX2_isKnown ({ frames := 1, cells := 0, slots := 0, locals := 21 }) (va_Pc [.ref (a i), .int (iZ pe), .int (iZ sy)] (cOk D C a b V)) (vp_Si (fun r => r = iZ (if (V (i + 2) (Int.toNat pe) / zp sy % 2 = 1) then 1 else 0))) 0 0 (fun _ => False) := by
  refine Met.ofW (cc := cX2_isKnown) (maxL := 3) (ret := (some .boolean)) (by decide) rfl ?_
  intro p e s m args below meth c s₁ B hml hv
  obtain ⟨rfl, hP, hK, hN⟩ := hv
  have hx := B.exec
  have hb := B.bytes
  have hr := B.returns
  have hts := atoms_spec (ws := wsX2_isKnown) B.pre
  have hown : s.vm.findClass RX2 = some m.cls := findClass_of_methodNamed B.named
  have hlocks := B.notSynchronized
  have hin_X2 : ∀ w ∈ wsX20, w ∈ wsX2_isKnown := fun _ w_h => (List.mem_cons_of_mem _ (List.mem_append_right _ w_h))
  have hl := lv_entry ([.ref (a i), .int (iZ pe), .int (iZ sy)]) (n := 3) (Nat.le_of_ble_eq_true rfl)
  rw [lg_entry_eq]
  generalize (lg_sl ([.ref (a i), .int (iZ pe), .int (iZ sy)]) ++ List.replicate (3 - (lg_sl ([.ref (a i), .int (iZ pe), .int (iZ sy)])).length) Slot.unset).toArray = ls at hl ⊢
  replace hl : lv_has ls 3 [(0, .ref (a i)), (1, .int (iZ pe)), (2, .int (iZ sy))] := hl
  have hS : va_S (cA a) s.heap s.heap [] := va_S.rf
  have hn := hM.now
  have hq := hM.kn h1
  refine lv_aload_n hx hb dX2_isKnown_0 rfl (lv_at hl 0 rfl) ?_
  refine kq_get (i := i) hx hb hts hin_X2 hown hK hP (isMo.l0 hi) (cE_26 (isMo.s0 hi)) rfl 4 (by decide) (hts (.fieldLink RX2 15 "WordFletchers$Moment" "knows" "[I") (List.mem_cons_of_mem _ (List.mem_append_left _ (List.mem_of_getElem? (i := 0) rfl)))) rfl dX2_isKnown_1 ?_
  refine lv_iload_n hx hb dX2_isKnown_4 rfl (lv_at hl 1 rfl) ?_
  refine kq_iald (i := (i + 2)) hx hb hK hP (isMo.l2 hi) (n := 6) (cE_28 (isMo.s2 hi)) (by decide) (Int.toNat pe) rfl (by omega) dX2_isKnown_5 ?_
  refine lv_iload_n hx hb dX2_isKnown_6 rfl (lv_at hl 2 rfl) ?_
  refine kq_csN (As := [.int (iZ (V (i + 2) (Int.toNat pe))), .int (iZ sy)]) (rest := []) (host := RX7) ⟨hx, hb, hml, hown, hts⟩ (K_X7_isIn l (V (i + 2) (Int.toNat pe)) sy (by omega) (by omega)) (va_cnB 2 hts gX2_isKnown_X7_isIn_n53 rfl rfl rfl hN.1 (hts (.initialized RX7) (List.mem_cons_of_mem _ (List.mem_append_left _ (List.mem_of_getElem? (i := 2) rfl)))) (by decide +kernel) ⟨Nat.le_of_ble_eq_true rfl, Nat.le_of_ble_eq_true rfl⟩) (hts (.static yX7_isIn) (List.mem_cons_of_mem _ (List.mem_append_left _ (List.mem_of_getElem? (i := 1) rfl)))) rfl rfl hl.1 (Nat.le_of_ble_eq_true rfl) ⟨Nat.le_of_ble_eq_true rfl, Nat.le_of_ble_eq_true rfl⟩ dX2_isKnown_7 ?_
  exact mq_ret hx hb hr (z_nbool (by first | omega | (split <;> omega))) rfl dX2_isKnown_10 hlocks rfl
set_option maxHeartbeats 4000000 in
set_option maxRecDepth 100000 in
theorem K_X2_whoKnows (l : Launch) (D : va_G) (C : cC) (a b : Nat → Nat) (V : Nat → Nat → Int) (i : Nat) (hi : isMo i) (sy : Int) (hM : moI V i) (h1 : 0 ≤ sy ∧ sy < 6) : Met l yX2_whoKnows wsX2_whoKnows ({ frames := 2, cells := 0, slots := 0, locals := 43 }) (va_Pc [.ref (a i), .int (iZ sy)] (cOk D C a b V)) (vp_Si (fun r => r = iZ (s_wkN (V (i + 2)) sy 6))) 0 0 (fun _ => False) := by
  refine Met.ofW (cc := cX2_whoKnows) (maxL := 4) (ret := (some .int)) (by decide) rfl ?_
  intro p e s m args below meth c s₁ B hml hv
  obtain ⟨rfl, hP, hK, hN⟩ := hv
  have hx := B.exec
  have hb := B.bytes
  have hr := B.returns
  have hts := atoms_spec (ws := wsX2_whoKnows) B.pre
  have hown : s.vm.findClass RX2 = some m.cls := findClass_of_methodNamed B.named
  have hlocks := B.notSynchronized
  have hin_X2 : ∀ w ∈ wsX20, w ∈ wsX2_whoKnows := fun _ w_h => (List.mem_cons_of_mem _ (List.mem_append_right _ w_h))
  have hl := lv_entry ([.ref (a i), .int (iZ sy)]) (n := 4) (Nat.le_of_ble_eq_true rfl)
  rw [lg_entry_eq]
  generalize (lg_sl ([.ref (a i), .int (iZ sy)]) ++ List.replicate (4 - (lg_sl ([.ref (a i), .int (iZ sy)])).length) Slot.unset).toArray = ls at hl ⊢
  replace hl : lv_has ls 4 [(0, .ref (a i)), (1, .int (iZ sy))] := hl
  have hS : va_S (cA a) s.heap s.heap [] := va_S.rf
  have hn := hM.now
  refine lv_iconst (v := iZ 0) hx hb dX2_whoKnows_0 (by decide) ?_
  refine lv_istore_n (lv' := [(2, .int (iZ 0)), (0, .ref (a i)), (1, .int (iZ sy))]) hx hb dX2_whoKnows_1 rfl hl (by decide) rfl (fun ls hl => ?_)
  refine lv_iconst (v := iZ 0) hx hb dX2_whoKnows_2 (by decide) ?_
  refine W.eq (g2 := F0 m 3 ls [.int (iZ 0)]) rfl ?_
  refine lv_istore_n (lv' := [(3, .int (iZ 0)), (2, .int (iZ 0)), (0, .ref (a i)), (1, .int (iZ sy))]) hx hb dX2_whoKnows_3 rfl hl (by decide) rfl (fun ls hl => ?_)
  replace hl : lv_has ls 4 [(3, .int (iZ (0 : Int))), (2, .int (iZ (0 : Int))), (0, .ref (a i)), (1, .int (iZ sy))] := lv_sub hl [0, 1, 2, 3] rfl
  revert ls
  refine z_loop (σ := Int × Int) (fun x9 => (0 ≤ x9.2 ∧ x9.2 ≤ 6) ∧ (x9.1 = s_wkN (V (i + 2)) sy (Int.toNat x9.2))) (fun x9 => [(3, .int (iZ (x9.2))), (2, .int (iZ (x9.1))), (0, .ref (a i)), (1, .int (iZ sy))]) 4 (fun x9 => (6 - x9.2).toNat) ((0 : Int), (0 : Int)) ⟨(by show 0 ≤ (0 : Int) ∧ (0 : Int) ≤ 6; omega), (by show (0 : Int) = s_wkN (V (i + 2)) sy (Int.toNat (0 : Int)); rfl)⟩ ?_
  rintro ⟨st, kk⟩ hI9 ih4 ls hl
  obtain ⟨i1, i2⟩ := hI9
  replace i1 : 0 ≤ kk ∧ kk ≤ 6 := i1
  replace i2 : st = s_wkN (V (i + 2)) sy (Int.toNat kk) := i2
  replace hl : lv_has ls 4 [(3, .int (iZ kk)), (2, .int (iZ st)), (0, .ref (a i)), (1, .int (iZ sy))] := hl
  have hbd := s_wkN_nn (V (i + 2)) sy (Int.toNat kk)
  have hzp := zp_nn kk
  refine lv_iload_n hx hb dX2_whoKnows_4 rfl (lv_at hl 0 rfl) ?_
  refine lv_bipush (v := iZ 6) hx hb dX2_whoKnows_5 (by decide) ?_
  refine z_icmp_ge (x := kk) (y := 6) (tgt := 31) hx hb (by omega) (by omega) dX2_whoKnows_7 (by decide) (fun c1 => ?_) (fun c1 => ?_)
  · refine lv_iload_n hx hb dX2_whoKnows_31 rfl (lv_at hl 1 rfl) ?_
    exact mq_ret hx hb hr rfl (by have q : kk = 6 := (by omega); rw [i2, q]; rfl) dX2_whoKnows_32 hlocks rfl
  · refine lv_aload_n hx hb dX2_whoKnows_10 rfl (lv_at hl 2 rfl) ?_
    refine lv_iload_n hx hb dX2_whoKnows_11 rfl (lv_at hl 0 rfl) ?_
    refine lv_iload_n hx hb dX2_whoKnows_12 rfl (lv_at hl 3 rfl) ?_
    refine W.eq (g2 := F0 m 13 ls [.int (iZ sy), .int (iZ kk), .ref (a i)]) rfl ?_
    refine kq_ci (i := i) (As := [.int (iZ kk), .int (iZ sy)]) (rest := []) ⟨hx, hb, hml, hown, hts⟩ hK hP hN hS (isMo.l0 hi) (cE_26 (isMo.s0 hi)) rfl (K_X2_isKnown l D C a b V i hi kk sy (by assumption) (by omega) (by omega)) (cwV 2 hts gX2_whoKnows_X2_isKnown rfl rfl rfl (by decide +kernel) ⟨Nat.le_of_ble_eq_true rfl, Nat.le_of_ble_eq_true rfl⟩) rfl rfl hl.1 (Nat.le_of_ble_eq_true rfl) ⟨Nat.le_of_ble_eq_true rfl, Nat.le_of_ble_eq_true rfl⟩ dX2_whoKnows_13 ?_
    refine z_ifb_eq (P := (V (i + 2) (Int.toNat kk) / zp sy % 2 = 1)) (tgt := 25) hx hb dX2_whoKnows_16 (by decide) (fun c3 => ?_) (fun c3 => ?_)
    · refine lv_iinc (v := iZ (kk + 1)) (lv' := [(3, .int (iZ (kk + 1))), (2, .int (iZ st)), (0, .ref (a i)), (1, .int (iZ sy))]) hx hb dX2_whoKnows_25 hl (k := 0) rfl (iZ_add _ _) (by decide) rfl (fun ls hl => ?_)
      refine lv_goto (tgt := 4) hx hb dX2_whoKnows_28 (by decide) ?_
      exact ih4 (st, (kk + 1)) ⟨(by show 0 ≤ (kk + 1) ∧ (kk + 1) ≤ 6; omega), (by show st = s_wkN (V (i + 2)) sy (Int.toNat (kk + 1)); rw [s_wkN_succ _ _ i1.1, ← i2]; first | (rw [if_pos (by omega)]; done) | (rw [if_neg (by omega)]; done))⟩ (by show (6 - (kk + 1)).toNat < (6 - kk).toNat; omega) ls (lv_sub hl [0, 1, 2, 3] rfl)
    · refine lv_iload_n hx hb dX2_whoKnows_19 rfl (lv_at hl 1 rfl) ?_
      refine lv_iconst (v := iZ 1) hx hb dX2_whoKnows_20 (by decide) ?_
      refine lv_iload_n hx hb dX2_whoKnows_21 rfl (lv_at hl 0 rfl) ?_
      refine z_ishl1 hx hb (by omega) dX2_whoKnows_22 ?_
      refine z_ior hx hb (by omega) (by omega) dX2_whoKnows_23 ?_
      refine lv_istore_n (lv' := [(2, .int (iZ (zor st (zp kk)))), (3, .int (iZ kk)), (0, .ref (a i)), (1, .int (iZ sy))]) hx hb dX2_whoKnows_24 rfl hl (by decide) rfl (fun ls hl => ?_)
      refine lv_iinc (v := iZ (kk + 1)) (lv' := [(3, .int (iZ (kk + 1))), (2, .int (iZ (zor st (zp kk)))), (0, .ref (a i)), (1, .int (iZ sy))]) hx hb dX2_whoKnows_25 hl (k := 1) rfl (iZ_add _ _) (by decide) rfl (fun ls hl => ?_)
      refine lv_goto (tgt := 4) hx hb dX2_whoKnows_28 (by decide) ?_
      exact ih4 ((zor st (zp kk)), (kk + 1)) ⟨(by show 0 ≤ (kk + 1) ∧ (kk + 1) ≤ 6; omega), (by show (zor st (zp kk)) = s_wkN (V (i + 2)) sy (Int.toNat (kk + 1)); rw [s_wkN_succ _ _ i1.1, ← i2]; first | (rw [if_pos (by omega)]; done) | (rw [if_neg (by omega)]; done))⟩ (by show (6 - (kk + 1)).toNat < (6 - kk).toNat; omega) ls (lv_sub hl [0, 1, 2, 3] rfl)
set_option maxHeartbeats 4000000 in
set_option maxRecDepth 100000 in
theorem K_X2_allFeathers (l : Launch) (D : va_G) (C : cC) (a b : Nat → Nat) (V : Nat → Nat → Int) (i : Nat) (hi : isMo i) (hM : moI V i) : Met l yX2_allFeathers wsX2_allFeathers ({ frames := 0, cells := 0, slots := 0, locals := 0 }) (va_Pc [.ref (a i)] (cOk D C a b V)) (vp_Si (fun r => r = iZ (V (i + 1) 0 + V (i + 1) 1 + V (i + 1) 2 + V (i + 1) 3))) 0 0 (fun _ => False) := by
  refine Met.ofW (cc := cX2_allFeathers) (maxL := 3) (ret := (some .int)) (by decide) rfl ?_
  intro p e s m args below meth c s₁ B hml hv
  obtain ⟨rfl, hP, hK, hN⟩ := hv
  have hx := B.exec
  have hb := B.bytes
  have hr := B.returns
  have hts := atoms_spec (ws := wsX2_allFeathers) B.pre
  have hown : s.vm.findClass RX2 = some m.cls := findClass_of_methodNamed B.named
  have hlocks := B.notSynchronized
  have hin_X2 : ∀ w ∈ wsX20, w ∈ wsX2_allFeathers := fun _ w_h => (List.mem_cons_of_mem _ (List.mem_append_right _ w_h))
  have hl := lv_entry ([.ref (a i)]) (n := 3) (Nat.le_of_ble_eq_true rfl)
  rw [lg_entry_eq]
  generalize (lg_sl ([.ref (a i)]) ++ List.replicate (3 - (lg_sl ([.ref (a i)])).length) Slot.unset).toArray = ls at hl ⊢
  replace hl : lv_has ls 3 [(0, .ref (a i))] := hl
  have hS : va_S (cA a) s.heap s.heap [] := va_S.rf
  have hn := hM.now
  refine W.eq (g2 := F0 m 0 ls []) rfl ?_
  refine lv_iconst (v := iZ 0) hx hb dX2_allFeathers_0 (by decide) ?_
  refine lv_istore_n (lv' := [(1, .int (iZ 0)), (0, .ref (a i))]) hx hb dX2_allFeathers_1 rfl hl (by decide) rfl (fun ls hl => ?_)
  refine lv_iconst (v := iZ 0) hx hb dX2_allFeathers_2 (by decide) ?_
  refine lv_istore_n (lv' := [(2, .int (iZ 0)), (1, .int (iZ 0)), (0, .ref (a i))]) hx hb dX2_allFeathers_3 rfl hl (by decide) rfl (fun ls hl => ?_)
  replace hl : lv_has ls 3 [(2, .int (iZ (0 : Int))), (1, .int (iZ (0 : Int))), (0, .ref (a i))] := lv_sub hl [0, 1, 2] rfl
  revert ls
  refine z_loop (σ := Int × Int) (fun x9 => (0 ≤ x9.2 ∧ x9.2 ≤ 4) ∧ (x9.1 = s_sumN (V (i + 1)) (Int.toNat x9.2))) (fun x9 => [(2, .int (iZ (x9.2))), (1, .int (iZ (x9.1))), (0, .ref (a i))]) 3 (fun x9 => (4 - x9.2).toNat) ((0 : Int), (0 : Int)) ⟨(by show 0 ≤ (0 : Int) ∧ (0 : Int) ≤ 4; omega), (by show (0 : Int) = s_sumN (V (i + 1)) (Int.toNat (0 : Int)); rfl)⟩ ?_
  rintro ⟨al, kk⟩ hI9 ih4 ls hl
  obtain ⟨i1, i2⟩ := hI9
  replace i1 : 0 ≤ kk ∧ kk ≤ 4 := i1
  replace i2 : al = s_sumN (V (i + 1)) (Int.toNat kk) := i2
  replace hl : lv_has ls 3 [(2, .int (iZ kk)), (1, .int (iZ al)), (0, .ref (a i))] := hl
  refine lv_iload_n hx hb dX2_allFeathers_4 rfl (lv_at hl 0 rfl) ?_
  refine lv_iconst (v := iZ 4) hx hb dX2_allFeathers_5 (by decide) ?_
  refine z_icmp_ge (x := kk) (y := 4) (tgt := 24) hx hb (by omega) (by omega) dX2_allFeathers_6 (by decide) (fun c1 => ?_) (fun c1 => ?_)
  · refine lv_iload_n hx hb dX2_allFeathers_24 rfl (lv_at hl 1 rfl) ?_
    exact mq_ret hx hb hr rfl (by have q : kk = 4 := (by omega); rw [i2, q]; exact s_sumN_4 _) dX2_allFeathers_25 hlocks rfl
  · refine lv_iload_n hx hb dX2_allFeathers_9 rfl (lv_at hl 1 rfl) ?_
    refine lv_aload_n hx hb dX2_allFeathers_10 rfl (lv_at hl 2 rfl) ?_
    refine kq_get (i := i) hx hb hts hin_X2 hown hK hP (isMo.l0 hi) (cE_26 (isMo.s0 hi)) rfl 3 (by decide) (hts (.fieldLink RX2 9 "WordFletchers$Moment" "feathers" "[I") (List.mem_cons_of_mem _ (List.mem_append_left _ (List.mem_of_getElem? (i := 0) rfl)))) rfl dX2_allFeathers_11 ?_
    refine lv_iload_n hx hb dX2_allFeathers_14 rfl (lv_at hl 0 rfl) ?_
    refine kq_iald (i := (i + 1)) hx hb hK hP (isMo.l1 hi) (n := 4) (cE_27 (isMo.s1 hi)) (by decide) (Int.toNat kk) rfl (by omega) dX2_allFeathers_15 ?_
    refine z_iadd hx hb dX2_allFeathers_16 ?_
    refine W.eq (g2 := F0 m 17 ls [.int (iZ (al + (V (i + 1) (Int.toNat kk))))]) rfl ?_
    refine lv_istore_n (lv' := [(1, .int (iZ (al + (V (i + 1) (Int.toNat kk))))), (2, .int (iZ kk)), (0, .ref (a i))]) hx hb dX2_allFeathers_17 rfl hl (by decide) rfl (fun ls hl => ?_)
    refine lv_iinc (v := iZ (kk + 1)) (lv' := [(2, .int (iZ (kk + 1))), (1, .int (iZ (al + (V (i + 1) (Int.toNat kk))))), (0, .ref (a i))]) hx hb dX2_allFeathers_18 hl (k := 1) rfl (iZ_add _ _) (by decide) rfl (fun ls hl => ?_)
    refine lv_goto (tgt := 4) hx hb dX2_allFeathers_21 (by decide) ?_
    exact ih4 ((al + (V (i + 1) (Int.toNat kk))), (kk + 1)) ⟨(by show 0 ≤ (kk + 1) ∧ (kk + 1) ≤ 4; omega), (by show (al + (V (i + 1) (Int.toNat kk))) = s_sumN (V (i + 1)) (Int.toNat (kk + 1)); rw [s_sumN_succ _ i1.1, ← i2])⟩ (by show (4 - (kk + 1)).toNat < (4 - kk).toNat; omega) ls (lv_sub hl [0, 1, 2] rfl)
set_option maxHeartbeats 4000000 in
set_option maxRecDepth 100000 in
theorem K_X2_longestStrayAt (l : Launch) (D : va_G) (C : cC) (a b : Nat → Nat) (V : Nat → Nat → Int) (i : Nat) (hi : isMo i) (sp : Int) (hM : moI V i) (h1 : -2147483648 ≤ sp ∧ sp < 2147483648) : Met l yX2_longestStrayAt wsX2_longestStrayAt ({ frames := 0, cells := 0, slots := 0, locals := 0 }) (va_Pc [.ref (a i), .int (iZ sp)] (cOk D C a b V)) (vp_Si (fun r => r = iZ (zfind (fun q => decide (V (i + 4) (Int.toNat q) = sp)) (Int.toNat (V i 2)) 0))) 0 0 (fun _ => False) := by
  refine Met.ofW (cc := cX2_longestStrayAt) (maxL := 3) (ret := (some .int)) (by decide) rfl ?_
  intro p e s m args below meth c s₁ B hml hv
  obtain ⟨rfl, hP, hK, hN⟩ := hv
  have hx := B.exec
  have hb := B.bytes
  have hr := B.returns
  have hts := atoms_spec (ws := wsX2_longestStrayAt) B.pre
  have hown : s.vm.findClass RX2 = some m.cls := findClass_of_methodNamed B.named
  have hlocks := B.notSynchronized
  have hin_X2 : ∀ w ∈ wsX20, w ∈ wsX2_longestStrayAt := fun _ w_h => (List.mem_cons_of_mem _ (List.mem_append_right _ w_h))
  have hl := lv_entry ([.ref (a i), .int (iZ sp)]) (n := 3) (Nat.le_of_ble_eq_true rfl)
  rw [lg_entry_eq]
  generalize (lg_sl ([.ref (a i), .int (iZ sp)]) ++ List.replicate (3 - (lg_sl ([.ref (a i), .int (iZ sp)])).length) Slot.unset).toArray = ls at hl ⊢
  replace hl : lv_has ls 3 [(0, .ref (a i)), (1, .int (iZ sp))] := hl
  have hS : va_S (cA a) s.heap s.heap [] := va_S.rf
  have hn := hM.now
  refine lv_iconst (v := iZ 0) hx hb dX2_longestStrayAt_0 (by decide) ?_
  refine lv_istore_n (lv' := [(2, .int (iZ 0)), (0, .ref (a i)), (1, .int (iZ sp))]) hx hb dX2_longestStrayAt_1 rfl hl (by decide) rfl (fun ls hl => ?_)
  replace hl : lv_has ls 3 [(2, .int (iZ (0 : Int))), (0, .ref (a i)), (1, .int (iZ sp))] := lv_sub hl [0, 1, 2] rfl
  revert ls
  refine z_loop (σ := Int) (fun x9 => (0 ≤ x9 ∧ x9 ≤ V i 2) ∧ (zfind (fun q => decide (V (i + 4) (Int.toNat q) = sp)) (Int.toNat (V i 2)) 0 = zfind (fun q => decide (V (i + 4) (Int.toNat q) = sp)) (Int.toNat (V i 2 - x9)) x9)) (fun x9 => [(2, .int (iZ x9)), (0, .ref (a i)), (1, .int (iZ sp))]) 3 (fun x9 => (V i 2 - x9).toNat) (0 : Int) ⟨(by show 0 ≤ (0 : Int) ∧ (0 : Int) ≤ V i 2; omega), (by show zfind (fun q => decide (V (i + 4) (Int.toNat q) = sp)) (Int.toNat (V i 2)) 0 = zfind (fun q => decide (V (i + 4) (Int.toNat q) = sp)) (Int.toNat (V i 2 - (0 : Int))) (0 : Int); rw [Int.sub_zero])⟩ ?_
  rintro kk hI9 ih2 ls hl
  obtain ⟨i1, i2⟩ := hI9
  replace i1 : 0 ≤ kk ∧ kk ≤ V i 2 := i1
  replace i2 : zfind (fun q => decide (V (i + 4) (Int.toNat q) = sp)) (Int.toNat (V i 2)) 0 = zfind (fun q => decide (V (i + 4) (Int.toNat q) = sp)) (Int.toNat (V i 2 - kk)) kk := i2
  replace hl : lv_has ls 3 [(2, .int (iZ kk)), (0, .ref (a i)), (1, .int (iZ sp))] := hl
  have hst9 : kk < V i 2 → (0 ≤ V (i + 3) (Int.toNat kk) ∧ V (i + 3) (Int.toNat kk) < 6) ∧ (0 ≤ V (i + 4) (Int.toNat kk) ∧ V (i + 4) (Int.toNat kk) ≤ 30) := fun h9 => hM.st ⟨i1.1, h9⟩
  refine lv_iload_n hx hb dX2_longestStrayAt_2 rfl (lv_at hl 0 rfl) ?_
  refine lv_aload_n hx hb dX2_longestStrayAt_3 rfl (lv_at hl 1 rfl) ?_
  refine kq_get (i := i) hx hb hts hin_X2 hown hK hP (isMo.l0 hi) (cE_26 (isMo.s0 hi)) rfl 2 (by decide) (hts (.fieldLink RX2 31 "WordFletchers$Moment" "strays" "I") (List.mem_cons_of_mem _ (List.mem_append_left _ (List.mem_of_getElem? (i := 0) rfl)))) rfl dX2_longestStrayAt_4 ?_
  refine z_icmp_ge (x := kk) (y := (V i 2)) (tgt := 28) hx hb (by omega) (by omega) dX2_longestStrayAt_7 (by decide) (fun c1 => ?_) (fun c1 => ?_)
  · refine lv_bipush (v := iZ (-9)) hx hb dX2_longestStrayAt_28 (by decide) ?_
    exact mq_ret hx hb hr rfl (by first | (have q : kk = V i 2 := (by omega); rw [i2, q, Int.sub_self]; rfl) | (rw [i2, zfind_step _ (V i 2) _ (by omega)]; exact (if_pos (decide_eq_true (by assumption))).symm)) dX2_longestStrayAt_30 hlocks rfl
  · refine lv_aload_n hx hb dX2_longestStrayAt_10 rfl (lv_at hl 1 rfl) ?_
    refine W.eq (g2 := F0 m 11 ls [.ref (a i)]) rfl ?_
    refine kq_get (i := i) hx hb hts hin_X2 hown hK hP (isMo.l0 hi) (cE_26 (isMo.s0 hi)) rfl 6 (by decide) (hts (.fieldLink RX2 21 "WordFletchers$Moment" "strayPlace" "[I") (List.mem_cons_of_mem _ (List.mem_append_left _ (List.mem_of_getElem? (i := 1) rfl)))) rfl dX2_longestStrayAt_11 ?_
    refine lv_iload_n hx hb dX2_longestStrayAt_14 rfl (lv_at hl 0 rfl) ?_
    refine kq_iald (i := (i + 4)) hx hb hK hP (isMo.l4 hi) (n := 8) (cE_30 (isMo.s4 hi)) (by decide) (Int.toNat kk) rfl (by omega) dX2_longestStrayAt_15 ?_
    refine lv_iload_n hx hb dX2_longestStrayAt_16 rfl (lv_at hl 2 rfl) ?_
    refine z_icmp_ne (x := (V (i + 4) (Int.toNat kk))) (y := sp) (tgt := 22) hx hb (by omega) (by omega) dX2_longestStrayAt_17 (by decide) (fun c2 => ?_) (fun c2 => ?_)
    · refine lv_iinc (v := iZ (kk + 1)) (lv' := [(2, .int (iZ (kk + 1))), (0, .ref (a i)), (1, .int (iZ sp))]) hx hb dX2_longestStrayAt_22 hl (k := 0) rfl (iZ_add _ _) (by decide) rfl (fun ls hl => ?_)
      refine lv_goto (tgt := 2) hx hb dX2_longestStrayAt_25 (by decide) ?_
      exact ih2 (kk + 1) ⟨(by show 0 ≤ (kk + 1) ∧ (kk + 1) ≤ V i 2; omega), (by show zfind (fun q => decide (V (i + 4) (Int.toNat q) = sp)) (Int.toNat (V i 2)) 0 = zfind (fun q => decide (V (i + 4) (Int.toNat q) = sp)) (Int.toNat (V i 2 - (kk + 1))) (kk + 1); rw [i2, zfind_step _ (V i 2) _ (by omega)]; exact if_neg (fun h9 => absurd (of_decide_eq_true h9) (by assumption)))⟩ (by show (V i 2 - (kk + 1)).toNat < (V i 2 - kk).toNat; omega) ls (lv_sub hl [0, 1, 2] rfl)
    · refine lv_iload_n hx hb dX2_longestStrayAt_20 rfl (lv_at hl 0 rfl) ?_
      exact mq_ret hx hb hr rfl (by first | (have q : kk = V i 2 := (by omega); rw [i2, q, Int.sub_self]; rfl) | (rw [i2, zfind_step _ (V i 2) _ (by omega)]; exact (if_pos (decide_eq_true (by assumption))).symm)) dX2_longestStrayAt_21 hlocks rfl
set_option maxHeartbeats 4000000 in
set_option maxRecDepth 100000 in
theorem K_X2_removeStray (l : Launch) (D : va_G) (C : cC) (a b : Nat → Nat) (V : Nat → Nat → Int) (i : Nat) (hi : isMo i) (ii : Int) (hM : moI V i) (h1 : 0 ≤ ii ∧ ii < V i 2) (hDD : va_D (fun _ => True) (cW C a V)) : Met l yX2_removeStray wsX2_removeStray ({ frames := 0, cells := 0, slots := 0, locals := 0 }) (va_Pc [.ref (a i), .int (iZ ii)] (cOk D C a b V)) (va_Qv (fun (_ : Unit) => True) (fun _ t => cPo D C a (f_rmv V i ii) t) (cA a)) 0 0 (cA a) := by
  refine Met.ofW (cc := cX2_removeStray) (maxL := 3) (ret := none) (by decide) rfl ?_
  intro p e s m args below meth c s₁ B hml hv
  obtain ⟨rfl, hP, hK, hN⟩ := hv
  have hx := B.exec
  have hb := B.bytes
  have hr := B.returns
  have hts := atoms_spec (ws := wsX2_removeStray) B.pre
  have hown : s.vm.findClass RX2 = some m.cls := findClass_of_methodNamed B.named
  have hlocks := B.notSynchronized
  have hin_X2 : ∀ w ∈ wsX20, w ∈ wsX2_removeStray := fun _ w_h => (List.mem_cons_of_mem _ (List.mem_append_right _ w_h))
  have hl := lv_entry ([.ref (a i), .int (iZ ii)]) (n := 3) (Nat.le_of_ble_eq_true rfl)
  rw [lg_entry_eq]
  generalize (lg_sl ([.ref (a i), .int (iZ ii)]) ++ List.replicate (3 - (lg_sl ([.ref (a i), .int (iZ ii)])).length) Slot.unset).toArray = ls at hl ⊢
  replace hl : lv_has ls 3 [(0, .ref (a i)), (1, .int (iZ ii))] := hl
  have hD : va_D (cA a) (cW C a V) := cD_own hDD
  generalize hHe : s.heap = H at hP ⊢
  have hS : va_S (cA a) s.heap H [] := by rw [hHe]; exact va_S.rf
  generalize hlo : ([] : List Loc) = locs at hS ⊢
  clear hHe hlo
  have hn := hM.now
  have hio := hi
  unfold isMo at hio
  refine lv_iload_n hx hb dX2_removeStray_0 rfl (lv_at hl 1 rfl) ?_
  refine lv_iconst (v := iZ 1) hx hb dX2_removeStray_1 (by decide) ?_
  refine z_iadd hx hb dX2_removeStray_2 ?_
  refine W.eq (g2 := F0 m 3 ls [.int (iZ (ii + 1))]) rfl ?_
  refine lv_istore_n (lv' := [(2, .int (iZ (ii + 1))), (0, .ref (a i)), (1, .int (iZ ii))]) hx hb dX2_removeStray_3 rfl hl (by decide) rfl (fun ls hl => ?_)
  replace hl : lv_has ls 3 [(2, .int (iZ (ii + 1))), (0, .ref (a i))] := lv_sub hl [0, 1] rfl
  replace hP := And.intro hP hS
  clear hS
  revert ls
  revert hP
  revert H locs
  refine z_loopH (σ := Int × (Nat → Nat → Int)) (fun x9 => (ii + 1 ≤ x9.1 ∧ x9.1 ≤ V i 2) ∧ (x9.2 = f_rmN V i ii (Int.toNat x9.1))) (fun x9 H9 locs9 => va_P D vwCl (cW C a (x9.2)) H9 ∧ va_S (cA a) s.heap H9 locs9) (fun x9 => [(2, .int (iZ (x9.1))), (0, .ref (a i))]) 3 (fun x9 => (V i 2 - x9.1).toNat) ((ii + 1), V) ⟨(by show ii + 1 ≤ (ii + 1) ∧ (ii + 1) ≤ V i 2; omega), (by show V = f_rmN V i ii (Int.toNat (ii + 1)); exact (f_rmN_0 V i ii).symm)⟩ ?_
  rintro ⟨kk, Vw⟩ hI9 ih4 H locs hPS ls hl
  have hP : va_P D vwCl (cW C a Vw) H := hPS.1
  have hS : va_S (cA a) s.heap H locs := hPS.2
  clear hPS
  have hD : va_D (cA a) (cW C a Vw) := cD_re hD
  obtain ⟨i1, i2⟩ := hI9
  replace i1 : ii + 1 ≤ kk ∧ kk ≤ V i 2 := i1
  replace i2 : Vw = f_rmN V i ii (Int.toNat kk) := i2
  replace hl : lv_has ls 3 [(2, .int (iZ kk)), (0, .ref (a i))] := hl
  have hw2 : Vw i 2 = V i 2 := by rw [i2]; exact f_rmN_i V i ii _
  refine lv_iload_n hx hb dX2_removeStray_4 rfl (lv_at hl 0 rfl) ?_
  refine lv_aload_n hx hb dX2_removeStray_5 rfl (lv_at hl 1 rfl) ?_
  refine kq_get (i := i) hx hb hts hin_X2 hown hK hP (isMo.l0 hi) (cE_26 (isMo.s0 hi)) rfl 2 (by decide) (hts (.fieldLink RX2 31 "WordFletchers$Moment" "strays" "I") (List.mem_cons_of_mem _ (List.mem_append_left _ (List.mem_of_getElem? (i := 0) rfl)))) rfl dX2_removeStray_6 ?_
  refine z_icmp_ge (x := kk) (y := (Vw i 2)) (tgt := 46) hx hb (by omega) (by omega) dX2_removeStray_9 (by decide) (fun c1 => ?_) (fun c1 => ?_)
  · refine lv_aload_n hx hb dX2_removeStray_46 rfl (lv_at hl 1 rfl) ?_
    refine lv_dup hx hb dX2_removeStray_47 rfl ?_
    refine kq_get (i := i) hx hb hts hin_X2 hown hK hP (isMo.l0 hi) (cE_26 (isMo.s0 hi)) rfl 2 (by decide) (hts (.fieldLink RX2 31 "WordFletchers$Moment" "strays" "I") (List.mem_cons_of_mem _ (List.mem_append_left _ (List.mem_of_getElem? (i := 0) rfl)))) rfl dX2_removeStray_48 ?_
    refine lv_iconst (v := iZ 1) hx hb dX2_removeStray_51 (by decide) ?_
    refine z_isub hx hb dX2_removeStray_52 ?_
    refine kq_put (ty := .int) (i := i) hx hb hts hin_X2 hown tyX2 tyX2_ok nmX2 hK hP hD hS (isMo.l0 hi) (cE_26 (isMo.s0 hi)) rfl 2 (by decide) (hts (.fieldLink RX2 31 "WordFletchers$Moment" "strays" "I") (List.mem_cons_of_mem _ (List.mem_append_left _ (List.mem_of_getElem? (i := 0) rfl)))) rfl (by decide +kernel) rfl rfl (Nat.le_of_ble_eq_true rfl) rfl dX2_removeStray_53 (fun H locs hP hD hS => ?_)
    obtain ⟨V4, hV4⟩ : ∃ z : Nat → Nat → Int, z = (mU Vw i 2 ((Vw i 2) - 1)) := ⟨_, rfl⟩
    rw [← hV4] at hP hD
    exact kq_retV hx hb hK hP hS hr (by have q : kk = V i 2 := (by omega); rw [q] at i2; subst_vars; rfl) dX2_removeStray_56 hlocks
  · refine lv_aload_n hx hb dX2_removeStray_12 rfl (lv_at hl 1 rfl) ?_
    refine kq_get (i := i) hx hb hts hin_X2 hown hK hP (isMo.l0 hi) (cE_26 (isMo.s0 hi)) rfl 5 (by decide) (hts (.fieldLink RX2 18 "WordFletchers$Moment" "straySaying" "[I") (List.mem_cons_of_mem _ (List.mem_append_left _ (List.mem_of_getElem? (i := 1) rfl)))) rfl dX2_removeStray_13 ?_
    refine W.eq (g2 := F0 m 16 ls [.ref (a (i + 3))]) rfl ?_
    refine lv_iload_n hx hb dX2_removeStray_16 rfl (lv_at hl 0 rfl) ?_
    refine lv_iconst (v := iZ 1) hx hb dX2_removeStray_17 (by decide) ?_
    refine z_isub hx hb dX2_removeStray_18 ?_
    refine lv_aload_n hx hb dX2_removeStray_19 rfl (lv_at hl 1 rfl) ?_
    refine kq_get (i := i) hx hb hts hin_X2 hown hK hP (isMo.l0 hi) (cE_26 (isMo.s0 hi)) rfl 5 (by decide) (hts (.fieldLink RX2 18 "WordFletchers$Moment" "straySaying" "[I") (List.mem_cons_of_mem _ (List.mem_append_left _ (List.mem_of_getElem? (i := 1) rfl)))) rfl dX2_removeStray_20 ?_
    refine lv_iload_n hx hb dX2_removeStray_23 rfl (lv_at hl 0 rfl) ?_
    refine kq_iald (i := (i + 3)) hx hb hK hP (isMo.l3 hi) (n := 8) (cE_29 (isMo.s3 hi)) (by decide) (Int.toNat kk) rfl (by omega) dX2_removeStray_24 ?_
    refine kq_iast (i := (i + 3)) hx hb hK hP hD hS (isMo.l3 hi) (n := 8) (cE_29 (isMo.s3 hi)) (by decide) (Int.toNat (kk - 1)) rfl (by omega) dX2_removeStray_25 (fun H locs hP hD hS => ?_)
    obtain ⟨V5, hV5⟩ : ∃ z : Nat → Nat → Int, z = (mU Vw (i + 3) (Int.toNat (kk - 1)) (Vw (i + 3) (Int.toNat kk))) := ⟨_, rfl⟩
    rw [← hV5] at hP hD
    have y1 : Vw (i + 3) (Int.toNat kk) = V (i + 3) (Int.toNat kk) := by rw [i2]; exact f_rmN_rd V i ii (Or.inl rfl)
    have y2 : V5 (i + 4) (Int.toNat kk) = V (i + 4) (Int.toNat kk) := by rw [hV5, mU_or _ _ _ (by omega), i2]; exact f_rmN_rd V i ii (Or.inr rfl)
    have y3 := hV5
    refine lv_aload_n hx hb dX2_removeStray_26 rfl (lv_at hl 1 rfl) ?_
    refine kq_get (i := i) hx hb hts hin_X2 hown hK hP (isMo.l0 hi) (cE_26 (isMo.s0 hi)) rfl 6 (by decide) (hts (.fieldLink RX2 21 "WordFletchers$Moment" "strayPlace" "[I") (List.mem_cons_of_mem _ (List.mem_append_left _ (List.mem_of_getElem? (i := 2) rfl)))) rfl dX2_removeStray_27 ?_
    refine lv_iload_n hx hb dX2_removeStray_30 rfl (lv_at hl 0 rfl) ?_
    refine lv_iconst (v := iZ 1) hx hb dX2_removeStray_31 (by decide) ?_
    refine W.eq (g2 := F0 m 32 ls [.int (iZ 1), .int (iZ kk), .ref (a (i + 4))]) rfl ?_
    refine z_isub hx hb dX2_removeStray_32 ?_
    refine lv_aload_n hx hb dX2_removeStray_33 rfl (lv_at hl 1 rfl) ?_
    refine kq_get (i := i) hx hb hts hin_X2 hown hK hP (isMo.l0 hi) (cE_26 (isMo.s0 hi)) rfl 6 (by decide) (hts (.fieldLink RX2 21 "WordFletchers$Moment" "strayPlace" "[I") (List.mem_cons_of_mem _ (List.mem_append_left _ (List.mem_of_getElem? (i := 2) rfl)))) rfl dX2_removeStray_34 ?_
    refine lv_iload_n hx hb dX2_removeStray_37 rfl (lv_at hl 0 rfl) ?_
    refine kq_iald (i := (i + 4)) hx hb hK hP (isMo.l4 hi) (n := 8) (cE_30 (isMo.s4 hi)) (by decide) (Int.toNat kk) rfl (by omega) dX2_removeStray_38 ?_
    refine kq_iast (i := (i + 4)) hx hb hK hP hD hS (isMo.l4 hi) (n := 8) (cE_30 (isMo.s4 hi)) (by decide) (Int.toNat (kk - 1)) rfl (by omega) dX2_removeStray_39 (fun H locs hP hD hS => ?_)
    obtain ⟨V6, hV6⟩ : ∃ z : Nat → Nat → Int, z = (mU V5 (i + 4) (Int.toNat (kk - 1)) (V5 (i + 4) (Int.toNat kk))) := ⟨_, rfl⟩
    rw [← hV6] at hP hD
    have hst : V6 = f_rmN V i ii (Int.toNat (kk + 1)) := by rw [hV6, y2, y3, y1, i2]; exact f_rmN_step V i (by omega) rfl rfl
    refine lv_iinc (v := iZ (kk + 1)) (lv' := [(2, .int (iZ (kk + 1))), (0, .ref (a i))]) hx hb dX2_removeStray_40 hl (k := 0) rfl (iZ_add _ _) (by decide) rfl (fun ls hl => ?_)
    refine lv_goto (tgt := 4) hx hb dX2_removeStray_43 (by decide) ?_
    exact ih4 ((kk + 1), V6) ⟨(by show ii + 1 ≤ (kk + 1) ∧ (kk + 1) ≤ V i 2; omega), (by show V6 = f_rmN V i ii (Int.toNat (kk + 1)); exact hst)⟩ (by show (V i 2 - (kk + 1)).toNat < (V i 2 - kk).toNat; omega) H locs ⟨hP, hS⟩ ls (lv_sub hl [0, 1] rfl)
set_option maxHeartbeats 4000000 in
set_option maxRecDepth 100000 in
theorem K_X2_addStray (l : Launch) (D : va_G) (C : cC) (a b : Nat → Nat) (V : Nat → Nat → Int) (i : Nat) (hi : isMo i) (sy : Int) (sp : Int) (hM : moI V i) (h1 : 0 ≤ sy ∧ sy < 6) (h2 : 0 ≤ sp ∧ sp ≤ 30) (hDD : va_D (fun _ => True) (cW C a V)) : Met l yX2_addStray wsX2_addStray ({ frames := 1, cells := 0, slots := 0, locals := 22 }) (va_Pc [.ref (a i), .int (iZ sy), .int (iZ sp)] (cOk D C a b V)) (va_Qv (fun (_ : Unit) => True) (fun _ t => cPo D C a (f_ads V i sy sp) t) (cA a)) 0 0 (cA a) := by
  refine Met.ofW (cc := cX2_addStray) (maxL := 3) (ret := none) (by decide) rfl ?_
  intro p e s m args below meth c s₁ B hml hv
  obtain ⟨rfl, hP, hK, hN⟩ := hv
  have hx := B.exec
  have hb := B.bytes
  have hr := B.returns
  have hts := atoms_spec (ws := wsX2_addStray) B.pre
  have hown : s.vm.findClass RX2 = some m.cls := findClass_of_methodNamed B.named
  have hlocks := B.notSynchronized
  have hin_X2 : ∀ w ∈ wsX20, w ∈ wsX2_addStray := fun _ w_h => (List.mem_cons_of_mem _ (List.mem_append_right _ w_h))
  have hl := lv_entry ([.ref (a i), .int (iZ sy), .int (iZ sp)]) (n := 3) (Nat.le_of_ble_eq_true rfl)
  rw [lg_entry_eq]
  generalize (lg_sl ([.ref (a i), .int (iZ sy), .int (iZ sp)]) ++ List.replicate (3 - (lg_sl ([.ref (a i), .int (iZ sy), .int (iZ sp)])).length) Slot.unset).toArray = ls at hl ⊢
  replace hl : lv_has ls 3 [(0, .ref (a i)), (1, .int (iZ sy)), (2, .int (iZ sp))] := hl
  have hD : va_D (cA a) (cW C a V) := cD_own hDD
  generalize hHe : s.heap = H at hP ⊢
  have hS : va_S (cA a) s.heap H [] := by rw [hHe]; exact va_S.rf
  generalize hlo : ([] : List Loc) = locs at hS ⊢
  clear hHe hlo
  have hn := hM.now
  have hio := hi
  unfold isMo at hio
  refine lv_aload_n hx hb dX2_addStray_0 rfl (lv_at hl 0 rfl) ?_
  refine kq_get (i := i) hx hb hts hin_X2 hown hK hP (isMo.l0 hi) (cE_26 (isMo.s0 hi)) rfl 2 (by decide) (hts (.fieldLink RX2 31 "WordFletchers$Moment" "strays" "I") (List.mem_cons_of_mem _ (List.mem_append_left _ (List.mem_of_getElem? (i := 0) rfl)))) rfl dX2_addStray_1 ?_
  refine lv_bipush (v := iZ 8) hx hb dX2_addStray_4 (by decide) ?_
  refine z_icmp_lt (x := (V i 2)) (y := 8) (tgt := 14) hx hb (by omega) (by omega) dX2_addStray_6 (by decide) (fun c1 => ?_) (fun c1 => ?_)
  · refine W.eq (g2 := F0 m 14 ls []) rfl ?_
    have hv2 : f_ad1 V i = V := (by first | assumption | exact if_neg (by omega))
    have hvb := f_ad1_2 V i hn.2.2
    rw [hv2] at hvb
    refine lv_aload_n hx hb dX2_addStray_14 rfl (lv_at hl 0 rfl) ?_
    refine kq_get (i := i) hx hb hts hin_X2 hown hK hP (isMo.l0 hi) (cE_26 (isMo.s0 hi)) rfl 5 (by decide) (hts (.fieldLink RX2 18 "WordFletchers$Moment" "straySaying" "[I") (List.mem_cons_of_mem _ (List.mem_append_left _ (List.mem_of_getElem? (i := 1) rfl)))) rfl dX2_addStray_15 ?_
    refine lv_aload_n hx hb dX2_addStray_18 rfl (lv_at hl 0 rfl) ?_
    refine kq_get (i := i) hx hb hts hin_X2 hown hK hP (isMo.l0 hi) (cE_26 (isMo.s0 hi)) rfl 2 (by decide) (hts (.fieldLink RX2 31 "WordFletchers$Moment" "strays" "I") (List.mem_cons_of_mem _ (List.mem_append_left _ (List.mem_of_getElem? (i := 0) rfl)))) rfl dX2_addStray_19 ?_
    refine lv_iload_n hx hb dX2_addStray_22 rfl (lv_at hl 1 rfl) ?_
    refine kq_iast (i := (i + 3)) hx hb hK hP hD hS (isMo.l3 hi) (n := 8) (cE_29 (isMo.s3 hi)) (by decide) (Int.toNat (V i 2)) rfl (by omega) dX2_addStray_23 (fun H locs hP hD hS => ?_)
    obtain ⟨V2, hV2⟩ : ∃ z : Nat → Nat → Int, z = (mU V (i + 3) (Int.toNat (V i 2)) sy) := ⟨_, rfl⟩
    rw [← hV2] at hP hD
    have hvc : V2 i 2 = V i 2 := by rw [hV2, mU_or _ _ _ (by omega)]
    refine lv_aload_n hx hb dX2_addStray_24 rfl (lv_at hl 0 rfl) ?_
    refine kq_get (i := i) hx hb hts hin_X2 hown hK hP (isMo.l0 hi) (cE_26 (isMo.s0 hi)) rfl 6 (by decide) (hts (.fieldLink RX2 21 "WordFletchers$Moment" "strayPlace" "[I") (List.mem_cons_of_mem _ (List.mem_append_left _ (List.mem_of_getElem? (i := 2) rfl)))) rfl dX2_addStray_25 ?_
    refine lv_aload_n hx hb dX2_addStray_28 rfl (lv_at hl 0 rfl) ?_
    refine kq_get (i := i) hx hb hts hin_X2 hown hK hP (isMo.l0 hi) (cE_26 (isMo.s0 hi)) rfl 2 (by decide) (hts (.fieldLink RX2 31 "WordFletchers$Moment" "strays" "I") (List.mem_cons_of_mem _ (List.mem_append_left _ (List.mem_of_getElem? (i := 0) rfl)))) rfl dX2_addStray_29 ?_
    refine lv_iload_n hx hb dX2_addStray_32 rfl (lv_at hl 2 rfl) ?_
    refine kq_iast (i := (i + 4)) hx hb hK hP hD hS (isMo.l4 hi) (n := 8) (cE_30 (isMo.s4 hi)) (by decide) (Int.toNat (V2 i 2)) rfl (by omega) dX2_addStray_33 (fun H locs hP hD hS => ?_)
    obtain ⟨V3, hV3⟩ : ∃ z : Nat → Nat → Int, z = (mU V2 (i + 4) (Int.toNat (V2 i 2)) sp) := ⟨_, rfl⟩
    rw [← hV3] at hP hD
    have hvd : V3 i 2 = V2 i 2 := by rw [hV3, mU_or _ _ _ (by omega)]
    refine W.eq (g2 := F0 m 34 ls []) rfl ?_
    refine lv_aload_n hx hb dX2_addStray_34 rfl (lv_at hl 0 rfl) ?_
    refine lv_dup hx hb dX2_addStray_35 rfl ?_
    refine kq_get (i := i) hx hb hts hin_X2 hown hK hP (isMo.l0 hi) (cE_26 (isMo.s0 hi)) rfl 2 (by decide) (hts (.fieldLink RX2 31 "WordFletchers$Moment" "strays" "I") (List.mem_cons_of_mem _ (List.mem_append_left _ (List.mem_of_getElem? (i := 0) rfl)))) rfl dX2_addStray_36 ?_
    refine lv_iconst (v := iZ 1) hx hb dX2_addStray_39 (by decide) ?_
    refine z_iadd hx hb dX2_addStray_40 ?_
    refine kq_put (ty := .int) (i := i) hx hb hts hin_X2 hown tyX2 tyX2_ok nmX2 hK hP hD hS (isMo.l0 hi) (cE_26 (isMo.s0 hi)) rfl 2 (by decide) (hts (.fieldLink RX2 31 "WordFletchers$Moment" "strays" "I") (List.mem_cons_of_mem _ (List.mem_append_left _ (List.mem_of_getElem? (i := 0) rfl)))) rfl (by decide +kernel) rfl rfl (Nat.le_of_ble_eq_true rfl) rfl dX2_addStray_41 (fun H locs hP hD hS => ?_)
    obtain ⟨V4, hV4⟩ : ∃ z : Nat → Nat → Int, z = (mU V3 i 2 ((V3 i 2) + 1)) := ⟨_, rfl⟩
    rw [← hV4] at hP hD
    exact kq_retV hx hb hK hP hS hr (by unfold f_ads; rw [hv2]; subst_vars; rfl) dX2_addStray_44 hlocks
  · refine lv_aload_n hx hb dX2_addStray_9 rfl (lv_at hl 0 rfl) ?_
    refine lv_iconst (v := iZ 0) hx hb dX2_addStray_10 (by decide) ?_
    refine kq_cv (i := i) (As := [.int (iZ 0)]) (rest := []) ⟨hx, hb, hml, hown, hts⟩ hK hP hN hD hS (isMo.l0 hi) (cE_26 (isMo.s0 hi)) rfl (K_X2_removeStray l D C a b V i hi 0 (by assumption) (by omega) (hD.weaken (fun _ _ _ _ => trivial))) (cwV 1 hts gX2_addStray_X2_removeStray rfl rfl rfl (by decide +kernel) ⟨Nat.le_of_ble_eq_true rfl, Nat.le_of_ble_eq_true rfl⟩) rfl rfl hl.1 (Nat.le_of_ble_eq_true rfl) ⟨Nat.le_of_ble_eq_true rfl, Nat.le_of_ble_eq_true rfl⟩ dX2_addStray_11 (fun H locs hP hD hS => ?_)
    obtain ⟨V5, hV5⟩ : ∃ z : Nat → Nat → Int, z = (f_rmv V i 0) := ⟨_, rfl⟩
    rw [← hV5] at hP hD
    have hv1 : f_ad1 V i = V5 := by rw [hV5]; exact if_pos (by omega)
    have hv2 : f_ad1 V i = V5 := (by first | assumption | exact if_neg (by omega))
    have hvb := f_ad1_2 V i hn.2.2
    rw [hv2] at hvb
    refine lv_aload_n hx hb dX2_addStray_14 rfl (lv_at hl 0 rfl) ?_
    refine kq_get (i := i) hx hb hts hin_X2 hown hK hP (isMo.l0 hi) (cE_26 (isMo.s0 hi)) rfl 5 (by decide) (hts (.fieldLink RX2 18 "WordFletchers$Moment" "straySaying" "[I") (List.mem_cons_of_mem _ (List.mem_append_left _ (List.mem_of_getElem? (i := 1) rfl)))) rfl dX2_addStray_15 ?_
    refine W.eq (g2 := F0 m 18 ls [.ref (a (i + 3))]) rfl ?_
    refine lv_aload_n hx hb dX2_addStray_18 rfl (lv_at hl 0 rfl) ?_
    refine kq_get (i := i) hx hb hts hin_X2 hown hK hP (isMo.l0 hi) (cE_26 (isMo.s0 hi)) rfl 2 (by decide) (hts (.fieldLink RX2 31 "WordFletchers$Moment" "strays" "I") (List.mem_cons_of_mem _ (List.mem_append_left _ (List.mem_of_getElem? (i := 0) rfl)))) rfl dX2_addStray_19 ?_
    refine lv_iload_n hx hb dX2_addStray_22 rfl (lv_at hl 1 rfl) ?_
    refine kq_iast (i := (i + 3)) hx hb hK hP hD hS (isMo.l3 hi) (n := 8) (cE_29 (isMo.s3 hi)) (by decide) (Int.toNat (V5 i 2)) rfl (by omega) dX2_addStray_23 (fun H locs hP hD hS => ?_)
    obtain ⟨V6, hV6⟩ : ∃ z : Nat → Nat → Int, z = (mU V5 (i + 3) (Int.toNat (V5 i 2)) sy) := ⟨_, rfl⟩
    rw [← hV6] at hP hD
    have hvc : V6 i 2 = V5 i 2 := by rw [hV6, mU_or _ _ _ (by omega)]
    refine lv_aload_n hx hb dX2_addStray_24 rfl (lv_at hl 0 rfl) ?_
    refine kq_get (i := i) hx hb hts hin_X2 hown hK hP (isMo.l0 hi) (cE_26 (isMo.s0 hi)) rfl 6 (by decide) (hts (.fieldLink RX2 21 "WordFletchers$Moment" "strayPlace" "[I") (List.mem_cons_of_mem _ (List.mem_append_left _ (List.mem_of_getElem? (i := 2) rfl)))) rfl dX2_addStray_25 ?_
    refine lv_aload_n hx hb dX2_addStray_28 rfl (lv_at hl 0 rfl) ?_
    refine kq_get (i := i) hx hb hts hin_X2 hown hK hP (isMo.l0 hi) (cE_26 (isMo.s0 hi)) rfl 2 (by decide) (hts (.fieldLink RX2 31 "WordFletchers$Moment" "strays" "I") (List.mem_cons_of_mem _ (List.mem_append_left _ (List.mem_of_getElem? (i := 0) rfl)))) rfl dX2_addStray_29 ?_
    refine lv_iload_n hx hb dX2_addStray_32 rfl (lv_at hl 2 rfl) ?_
    refine kq_iast (i := (i + 4)) hx hb hK hP hD hS (isMo.l4 hi) (n := 8) (cE_30 (isMo.s4 hi)) (by decide) (Int.toNat (V6 i 2)) rfl (by omega) dX2_addStray_33 (fun H locs hP hD hS => ?_)
    obtain ⟨V7, hV7⟩ : ∃ z : Nat → Nat → Int, z = (mU V6 (i + 4) (Int.toNat (V6 i 2)) sp) := ⟨_, rfl⟩
    rw [← hV7] at hP hD
    have hvd : V7 i 2 = V6 i 2 := by rw [hV7, mU_or _ _ _ (by omega)]
    refine lv_aload_n hx hb dX2_addStray_34 rfl (lv_at hl 0 rfl) ?_
    refine lv_dup hx hb dX2_addStray_35 rfl ?_
    refine W.eq (g2 := F0 m 36 ls [.ref (a i), .ref (a i)]) rfl ?_
    refine kq_get (i := i) hx hb hts hin_X2 hown hK hP (isMo.l0 hi) (cE_26 (isMo.s0 hi)) rfl 2 (by decide) (hts (.fieldLink RX2 31 "WordFletchers$Moment" "strays" "I") (List.mem_cons_of_mem _ (List.mem_append_left _ (List.mem_of_getElem? (i := 0) rfl)))) rfl dX2_addStray_36 ?_
    refine lv_iconst (v := iZ 1) hx hb dX2_addStray_39 (by decide) ?_
    refine z_iadd hx hb dX2_addStray_40 ?_
    refine kq_put (ty := .int) (i := i) hx hb hts hin_X2 hown tyX2 tyX2_ok nmX2 hK hP hD hS (isMo.l0 hi) (cE_26 (isMo.s0 hi)) rfl 2 (by decide) (hts (.fieldLink RX2 31 "WordFletchers$Moment" "strays" "I") (List.mem_cons_of_mem _ (List.mem_append_left _ (List.mem_of_getElem? (i := 0) rfl)))) rfl (by decide +kernel) rfl rfl (Nat.le_of_ble_eq_true rfl) rfl dX2_addStray_41 (fun H locs hP hD hS => ?_)
    obtain ⟨V8, hV8⟩ : ∃ z : Nat → Nat → Int, z = (mU V7 i 2 ((V7 i 2) + 1)) := ⟨_, rfl⟩
    rw [← hV8] at hP hD
    exact kq_retV hx hb hK hP hS hr (by unfold f_ads; rw [hv2]; subst_vars; rfl) dX2_addStray_44 hlocks
set_option maxHeartbeats 4000000 in
set_option maxRecDepth 100000 in
theorem K_X4_add (l : Launch) (D : va_G) (C : cC) (a b : Nat → Nat) (V : Nat → Nat → Int) (sy : Int) (sp : Int) (wi : Int) (dm : Int) (h0 : 0 ≤ V 4 4 ∧ V 4 4 < 4) (hDD : va_D (fun _ => True) (cW C a V)) : Met l yX4_add wsX4_add ({ frames := 0, cells := 0, slots := 0, locals := 0 }) (va_Pc [.ref (a 4), .int (iZ sy), .int (iZ sp), .int (iZ wi), .int (iZ dm)] (cOk D C a b V)) (va_Qv (fun (_ : Unit) => True) (fun _ t => cPo D C a (f_sad V sy sp wi dm) t) (cA a)) 0 0 (cA a) := by
  refine Met.ofW (cc := cX4_add) (maxL := 5) (ret := none) (by decide) rfl ?_
  intro p e s m args below meth c s₁ B hml hv
  obtain ⟨rfl, hP, hK, hN⟩ := hv
  have hx := B.exec
  have hb := B.bytes
  have hr := B.returns
  have hts := atoms_spec (ws := wsX4_add) B.pre
  have hown : s.vm.findClass RX4 = some m.cls := findClass_of_methodNamed B.named
  have hlocks := B.notSynchronized
  have hin_X4 : ∀ w ∈ wsX40, w ∈ wsX4_add := fun _ w_h => (List.mem_cons_of_mem _ (List.mem_append_right _ w_h))
  have hl := lv_entry ([.ref (a 4), .int (iZ sy), .int (iZ sp), .int (iZ wi), .int (iZ dm)]) (n := 5) (Nat.le_of_ble_eq_true rfl)
  rw [lg_entry_eq]
  generalize (lg_sl ([.ref (a 4), .int (iZ sy), .int (iZ sp), .int (iZ wi), .int (iZ dm)]) ++ List.replicate (5 - (lg_sl ([.ref (a 4), .int (iZ sy), .int (iZ sp), .int (iZ wi), .int (iZ dm)])).length) Slot.unset).toArray = ls at hl ⊢
  replace hl : lv_has ls 5 [(0, .ref (a 4)), (1, .int (iZ sy)), (2, .int (iZ sp)), (3, .int (iZ wi)), (4, .int (iZ dm))] := hl
  have hD : va_D (cA a) (cW C a V) := cD_own hDD
  generalize hHe : s.heap = H at hP ⊢
  have hS : va_S (cA a) s.heap H [] := by rw [hHe]; exact va_S.rf
  generalize hlo : ([] : List Loc) = locs at hS ⊢
  clear hHe hlo
  refine lv_aload_n hx hb dX4_add_0 rfl (lv_at hl 0 rfl) ?_
  refine kq_get (i := 4) hx hb hts hin_X4 hown hK hP (by decide) (cE_4 rfl) rfl 0 (by decide) (hts (.fieldLink RX4 9 "WordFletchers$Sightings" "saying" "[I") (List.mem_cons_of_mem _ (List.mem_append_left _ (List.mem_of_getElem? (i := 0) rfl)))) rfl dX4_add_1 ?_
  refine lv_aload_n hx hb dX4_add_4 rfl (lv_at hl 0 rfl) ?_
  refine kq_get (i := 4) hx hb hts hin_X4 hown hK hP (by decide) (cE_4 rfl) rfl 4 (by decide) (hts (.fieldLink RX4 24 "WordFletchers$Sightings" "size" "I") (List.mem_cons_of_mem _ (List.mem_append_left _ (List.mem_of_getElem? (i := 1) rfl)))) rfl dX4_add_5 ?_
  refine lv_iload_n hx hb dX4_add_8 rfl (lv_at hl 1 rfl) ?_
  refine kq_iast (i := 5) hx hb hK hP hD hS (by decide) (n := 4) (cE_5 rfl) (by decide) (Int.toNat (V 4 4)) rfl (by omega) dX4_add_9 (fun H locs hP hD hS => ?_)
  obtain ⟨V1, hV1⟩ : ∃ z : Nat → Nat → Int, z = (mU V 5 (Int.toNat (V 4 4)) sy) := ⟨_, rfl⟩
  rw [← hV1] at hP hD
  have b1 : V1 4 4 = V 4 4 := by rw [hV1]; rfl
  refine lv_aload_n hx hb dX4_add_10 rfl (lv_at hl 0 rfl) ?_
  refine W.eq (g2 := F0 m 11 ls [.ref (a 4)]) rfl ?_
  refine kq_get (i := 4) hx hb hts hin_X4 hown hK hP (by decide) (cE_4 rfl) rfl 1 (by decide) (hts (.fieldLink RX4 15 "WordFletchers$Sightings" "place" "[I") (List.mem_cons_of_mem _ (List.mem_append_left _ (List.mem_of_getElem? (i := 2) rfl)))) rfl dX4_add_11 ?_
  refine lv_aload_n hx hb dX4_add_14 rfl (lv_at hl 0 rfl) ?_
  refine kq_get (i := 4) hx hb hts hin_X4 hown hK hP (by decide) (cE_4 rfl) rfl 4 (by decide) (hts (.fieldLink RX4 24 "WordFletchers$Sightings" "size" "I") (List.mem_cons_of_mem _ (List.mem_append_left _ (List.mem_of_getElem? (i := 1) rfl)))) rfl dX4_add_15 ?_
  refine lv_iload_n hx hb dX4_add_18 rfl (lv_at hl 2 rfl) ?_
  refine kq_iast (i := 6) hx hb hK hP hD hS (by decide) (n := 4) (cE_6 rfl) (by decide) (Int.toNat (V1 4 4)) rfl (by omega) dX4_add_19 (fun H locs hP hD hS => ?_)
  obtain ⟨V2, hV2⟩ : ∃ z : Nat → Nat → Int, z = (mU V1 6 (Int.toNat (V1 4 4)) sp) := ⟨_, rfl⟩
  rw [← hV2] at hP hD
  have b2 : V2 4 4 = V1 4 4 := by rw [hV2]; rfl
  refine lv_aload_n hx hb dX4_add_20 rfl (lv_at hl 0 rfl) ?_
  refine kq_get (i := 4) hx hb hts hin_X4 hown hK hP (by decide) (cE_4 rfl) rfl 2 (by decide) (hts (.fieldLink RX4 18 "WordFletchers$Sightings" "wind" "[I") (List.mem_cons_of_mem _ (List.mem_append_left _ (List.mem_of_getElem? (i := 3) rfl)))) rfl dX4_add_21 ?_
  refine lv_aload_n hx hb dX4_add_24 rfl (lv_at hl 0 rfl) ?_
  refine kq_get (i := 4) hx hb hts hin_X4 hown hK hP (by decide) (cE_4 rfl) rfl 4 (by decide) (hts (.fieldLink RX4 24 "WordFletchers$Sightings" "size" "I") (List.mem_cons_of_mem _ (List.mem_append_left _ (List.mem_of_getElem? (i := 1) rfl)))) rfl dX4_add_25 ?_
  refine lv_iload_n hx hb dX4_add_28 rfl (lv_at hl 3 rfl) ?_
  refine kq_iast (i := 7) hx hb hK hP hD hS (by decide) (n := 4) (cE_7 rfl) (by decide) (Int.toNat (V2 4 4)) rfl (by omega) dX4_add_29 (fun H locs hP hD hS => ?_)
  obtain ⟨V3, hV3⟩ : ∃ z : Nat → Nat → Int, z = (mU V2 7 (Int.toNat (V2 4 4)) wi) := ⟨_, rfl⟩
  rw [← hV3] at hP hD
  have b3 : V3 4 4 = V2 4 4 := by rw [hV3]; rfl
  refine lv_aload_n hx hb dX4_add_30 rfl (lv_at hl 0 rfl) ?_
  refine W.eq (g2 := F0 m 31 ls [.ref (a 4)]) rfl ?_
  refine kq_get (i := 4) hx hb hts hin_X4 hown hK hP (by decide) (cE_4 rfl) rfl 3 (by decide) (hts (.fieldLink RX4 21 "WordFletchers$Sightings" "damp" "[I") (List.mem_cons_of_mem _ (List.mem_append_left _ (List.mem_of_getElem? (i := 4) rfl)))) rfl dX4_add_31 ?_
  refine lv_aload_n hx hb dX4_add_34 rfl (lv_at hl 0 rfl) ?_
  refine kq_get (i := 4) hx hb hts hin_X4 hown hK hP (by decide) (cE_4 rfl) rfl 4 (by decide) (hts (.fieldLink RX4 24 "WordFletchers$Sightings" "size" "I") (List.mem_cons_of_mem _ (List.mem_append_left _ (List.mem_of_getElem? (i := 1) rfl)))) rfl dX4_add_35 ?_
  refine lv_iload hx hb dX4_add_38 (lv_at hl 4 rfl) ?_
  refine kq_iast (i := 8) hx hb hK hP hD hS (by decide) (n := 4) (cE_8 rfl) (by decide) (Int.toNat (V3 4 4)) rfl (by omega) dX4_add_40 (fun H locs hP hD hS => ?_)
  obtain ⟨V4, hV4⟩ : ∃ z : Nat → Nat → Int, z = (mU V3 8 (Int.toNat (V3 4 4)) dm) := ⟨_, rfl⟩
  rw [← hV4] at hP hD
  have b4 : V4 4 4 = V3 4 4 := by rw [hV4]; rfl
  refine lv_aload_n hx hb dX4_add_41 rfl (lv_at hl 0 rfl) ?_
  refine lv_dup hx hb dX4_add_42 rfl ?_
  refine kq_get (i := 4) hx hb hts hin_X4 hown hK hP (by decide) (cE_4 rfl) rfl 4 (by decide) (hts (.fieldLink RX4 24 "WordFletchers$Sightings" "size" "I") (List.mem_cons_of_mem _ (List.mem_append_left _ (List.mem_of_getElem? (i := 1) rfl)))) rfl dX4_add_43 ?_
  refine lv_iconst (v := iZ 1) hx hb dX4_add_46 (by decide) ?_
  refine z_iadd hx hb dX4_add_47 ?_
  refine kq_put (ty := .int) (i := 4) hx hb hts hin_X4 hown tyX4 tyX4_ok nmX4 hK hP hD hS (by decide) (cE_4 rfl) rfl 4 (by decide) (hts (.fieldLink RX4 24 "WordFletchers$Sightings" "size" "I") (List.mem_cons_of_mem _ (List.mem_append_left _ (List.mem_of_getElem? (i := 1) rfl)))) rfl (by decide +kernel) rfl rfl (Nat.le_of_ble_eq_true rfl) rfl dX4_add_48 (fun H locs hP hD hS => ?_)
  obtain ⟨V5, hV5⟩ : ∃ z : Nat → Nat → Int, z = (mU V4 4 4 ((V4 4 4) + 1)) := ⟨_, rfl⟩
  rw [← hV5] at hP hD
  exact kq_retV hx hb hK hP hS hr (by subst_vars; rfl) dX4_add_51 hlocks
