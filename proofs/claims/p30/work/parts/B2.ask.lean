set_option maxHeartbeats 4000000 in
set_option maxRecDepth 100000 in
theorem K_X7_howManyReach (l : Launch) (D : va_G) (C : cC) (a b : Nat → Nat) (V : Nat → Nat → Int) (ps : Int) (pl : Int) (hI : cI V) (h1 : 0 ≤ ps ∧ ps < 64) (h2 : -2147483648 ≤ pl ∧ pl < 2147483648) (h3 : c_14ok V) : Met l yX7_howManyReach wsX7_howManyReach ({ frames := 1, cells := 0, slots := 0, locals := 21 }) (va_Pc [.ref (a 0), .int (iZ ps), .int (iZ pl)] (cOk D C a b V)) (vp_Si (fun r => r = iZ (c_hmN (V 14) ps pl (Int.toNat (V (Int.toNat (V 0 3)) 7))))) 0 0 (fun _ => False) := by
  refine Met.ofW (cc := cX7_howManyReach) (maxL := 5) (ret := (some .int)) (by decide) rfl ?_
  intro p e s m args below meth c s₁ B hml hv
  obtain ⟨rfl, hP, hK, hN⟩ := hv
  have hx := B.exec
  have hb := B.bytes
  have hr := B.returns
  have hts := atoms_spec (ws := wsX7_howManyReach) B.pre
  have hown : s.vm.findClass RX7 = some m.cls := findClass_of_methodNamed B.named
  have hlocks := B.notSynchronized
  have hin_X7 : ∀ w ∈ wsX70, w ∈ wsX7_howManyReach := fun _ w_h => (List.mem_cons_of_mem _ (List.mem_append_left _ (List.mem_append_right _ w_h)))
  have hin_X6 : ∀ w ∈ wsX60, w ∈ wsX7_howManyReach := fun _ w_h => (List.mem_cons_of_mem _ (List.mem_append_right _ w_h))
  have hl := lv_entry ([.ref (a 0), .int (iZ ps), .int (iZ pl)]) (n := 5) (Nat.le_of_ble_eq_true rfl)
  rw [lg_entry_eq]
  generalize (lg_sl ([.ref (a 0), .int (iZ ps), .int (iZ pl)]) ++ List.replicate (5 - (lg_sl ([.ref (a 0), .int (iZ ps), .int (iZ pl)])).length) Slot.unset).toArray = ls at hl ⊢
  replace hl : lv_has ls 5 [(0, .ref (a 0)), (1, .int (iZ ps)), (2, .int (iZ pl))] := hl
  have hS : va_S (cA a) s.heap s.heap [] := va_S.rf
  obtain ⟨hto, hto4, hne, htx, hT, hM, hpa, hpi, hki, hsz, hsg, hby⟩ := id hI
  have hnt := hT.now
  have hnm := hM.now
  refine lv_iconst (v := iZ 0) hx hb dX7_howManyReach_0 (by decide) ?_
  refine W.eq (g2 := F0 m 1 ls [.int (iZ 0)]) rfl ?_
  refine lv_istore_n (lv' := [(3, .int (iZ 0)), (0, .ref (a 0)), (1, .int (iZ ps)), (2, .int (iZ pl))]) hx hb dX7_howManyReach_1 rfl hl (by decide) rfl (fun ls hl => ?_)
  refine lv_iconst (v := iZ 0) hx hb dX7_howManyReach_2 (by decide) ?_
  refine lv_istore (lv' := [(4, .int (iZ 0)), (3, .int (iZ 0)), (0, .ref (a 0)), (1, .int (iZ ps)), (2, .int (iZ pl))]) hx hb dX7_howManyReach_3 hl (by decide) rfl (fun ls hl => ?_)
  replace hl : lv_has ls 5 [(4, .int (iZ (0 : Int))), (3, .int (iZ (0 : Int))), (0, .ref (a 0)), (1, .int (iZ ps)), (2, .int (iZ pl))] := lv_sub hl [0, 1, 2, 3, 4] rfl
  revert ls
  refine z_loop (σ := Int × Int) (fun x9 => ((0 ≤ x9.2 ∧ x9.2 ≤ V (Int.toNat (V 0 3)) 7) ∧ (0 ≤ x9.1 ∧ x9.1 ≤ x9.2)) ∧ (x9.1 = c_hmN (V 14) ps pl (Int.toNat x9.2))) (fun x9 => [(4, .int (iZ (x9.2))), (3, .int (iZ (x9.1))), (0, .ref (a 0)), (1, .int (iZ ps)), (2, .int (iZ pl))]) 5 (fun x9 => (V (Int.toNat (V 0 3)) 7 - x9.2).toNat) ((0 : Int), (0 : Int)) ⟨(by show (0 ≤ (0 : Int) ∧ (0 : Int) ≤ V (Int.toNat (V 0 3)) 7) ∧ (0 ≤ (0 : Int) ∧ (0 : Int) ≤ (0 : Int)); omega), (by show (0 : Int) = c_hmN (V 14) ps pl (Int.toNat (0 : Int)); rfl)⟩ ?_
  rintro ⟨st, kk⟩ hI9 ih5 ls hl
  obtain ⟨i1, i2⟩ := hI9
  replace i1 : (0 ≤ kk ∧ kk ≤ V (Int.toNat (V 0 3)) 7) ∧ (0 ≤ st ∧ st ≤ kk) := i1
  replace i2 : st = c_hmN (V 14) ps pl (Int.toNat kk) := i2
  replace hl : lv_has ls 5 [(4, .int (iZ kk)), (3, .int (iZ st)), (0, .ref (a 0)), (1, .int (iZ ps)), (2, .int (iZ pl))] := hl
  have h39 : kk < V (Int.toNat (V 0 3)) 7 → c_i32 (V 14 (Int.toNat kk)) := fun h9 => h3 _ (by omega)
  unfold c_i32 at h39
  refine lv_iload hx hb dX7_howManyReach_5 (lv_at hl 0 rfl) ?_
  refine lv_aload_n hx hb dX7_howManyReach_7 rfl (lv_at hl 2 rfl) ?_
  refine kq_get (i := 0) hx hb hts hin_X7 hown hK hP (by decide) (cE_0 rfl) rfl 3 (by decide) (hts (.fieldLink RX7 29 "WordFletchers" "told" "LWordFletchers$Told;") (List.mem_cons_of_mem _ (List.mem_append_left _ (List.mem_append_left _ (List.mem_of_getElem? (i := 0) rfl))))) rfl dX7_howManyReach_8 ?_
  refine kq_get (i := (Int.toNat (V 0 3))) hx hb hts hin_X6 hown hK hP (isTo.l0 (by assumption)) (cE_15 (isTo.s0 (by assumption))) rfl 7 (by decide) (hts (.fieldLink RX7 298 "WordFletchers$Told" "people" "I") (List.mem_cons_of_mem _ (List.mem_append_left _ (List.mem_append_left _ (List.mem_of_getElem? (i := 1) rfl))))) rfl dX7_howManyReach_11 ?_
  refine z_icmp_ge (x := kk) (y := (V (Int.toNat (V 0 3)) 7)) (tgt := 46) hx hb (by omega) (by omega) dX7_howManyReach_14 (by decide) (fun c1 => ?_) (fun c1 => ?_)
  · refine lv_iload_n hx hb dX7_howManyReach_46 rfl (lv_at hl 1 rfl) ?_
    exact mq_ret hx hb hr rfl (by have q : kk = V (Int.toNat (V 0 3)) 7 := (by omega); rw [i2, q]) dX7_howManyReach_47 hlocks rfl
  · refine lv_iload_n hx hb dX7_howManyReach_17 rfl (lv_at hl 3 rfl) ?_
    refine lv_iload hx hb dX7_howManyReach_18 (lv_at hl 0 rfl) ?_
    refine kq_cs (As := [.int (iZ ps), .int (iZ kk)]) (rest := []) ⟨hx, hb, hml, hown, hts⟩ (K_X7_isIn l ps kk (by omega) (by omega)) (va_cwS 2 hts gX7_howManyReach_X7_isIn rfl rfl rfl (by decide +kernel) ⟨Nat.le_of_ble_eq_true rfl, Nat.le_of_ble_eq_true rfl⟩) rfl rfl hl.1 (Nat.le_of_ble_eq_true rfl) ⟨Nat.le_of_ble_eq_true rfl, Nat.le_of_ble_eq_true rfl⟩ dX7_howManyReach_20 ?_
    refine z_ifb_eq (P := (ps / zp kk % 2 = 1)) (tgt := 40) hx hb dX7_howManyReach_23 (by decide) (fun c4 => ?_) (fun c4 => ?_)
    · refine lv_iinc (v := iZ (kk + 1)) (lv' := [(4, .int (iZ (kk + 1))), (3, .int (iZ st)), (0, .ref (a 0)), (1, .int (iZ ps)), (2, .int (iZ pl))]) hx hb dX7_howManyReach_40 hl (k := 0) rfl (iZ_add _ _) (by decide) rfl (fun ls hl => ?_)
      refine lv_goto (tgt := 5) hx hb dX7_howManyReach_43 (by decide) ?_
      exact ih5 (st, (kk + 1)) ⟨(by show (0 ≤ (kk + 1) ∧ (kk + 1) ≤ V (Int.toNat (V 0 3)) 7) ∧ (0 ≤ st ∧ st ≤ (kk + 1)); omega), (by show st = c_hmN (V 14) ps pl (Int.toNat (kk + 1)); rw [c_hmN_succ _ _ _ (by omega), ← i2]; first | exact (if_pos ⟨by assumption, by assumption⟩).symm | exact (if_neg (fun h9 => absurd h9.1 (by assumption))).symm | exact (if_neg (fun h9 => absurd h9.2 (by assumption))).symm)⟩ (by show (V (Int.toNat (V 0 3)) 7 - (kk + 1)).toNat < (V (Int.toNat (V 0 3)) 7 - kk).toNat; omega) ls (lv_sub hl [0, 1, 2, 3, 4] rfl)
    · refine lv_aload_n hx hb dX7_howManyReach_26 rfl (lv_at hl 2 rfl) ?_
      refine kq_get (i := 0) hx hb hts hin_X7 hown hK hP (by decide) (cE_0 rfl) rfl 11 (by decide) (hts (.fieldLink RX7 73 "WordFletchers" "placesReached" "[I") (List.mem_cons_of_mem _ (List.mem_append_left _ (List.mem_append_left _ (List.mem_of_getElem? (i := 2) rfl))))) rfl dX7_howManyReach_27 ?_
      refine lv_iload hx hb dX7_howManyReach_30 (lv_at hl 0 rfl) ?_
      refine W.eq (g2 := F0 m 32 ls [.int (iZ kk), .ref (a 14)]) rfl ?_
      refine kq_iald (i := 14) hx hb hK hP (by decide) (n := 6) (cE_14 rfl) (by decide) (Int.toNat kk) rfl (by omega) dX7_howManyReach_32 ?_
      refine lv_iload_n hx hb dX7_howManyReach_33 rfl (lv_at hl 4 rfl) ?_
      refine z_icmp_ne (x := (V 14 (Int.toNat kk))) (y := pl) (tgt := 40) hx hb (by omega) (by omega) dX7_howManyReach_34 (by decide) (fun c5 => ?_) (fun c5 => ?_)
      · refine lv_iinc (v := iZ (kk + 1)) (lv' := [(4, .int (iZ (kk + 1))), (3, .int (iZ st)), (0, .ref (a 0)), (1, .int (iZ ps)), (2, .int (iZ pl))]) hx hb dX7_howManyReach_40 hl (k := 0) rfl (iZ_add _ _) (by decide) rfl (fun ls hl => ?_)
        refine lv_goto (tgt := 5) hx hb dX7_howManyReach_43 (by decide) ?_
        exact ih5 (st, (kk + 1)) ⟨(by show (0 ≤ (kk + 1) ∧ (kk + 1) ≤ V (Int.toNat (V 0 3)) 7) ∧ (0 ≤ st ∧ st ≤ (kk + 1)); omega), (by show st = c_hmN (V 14) ps pl (Int.toNat (kk + 1)); rw [c_hmN_succ _ _ _ (by omega), ← i2]; first | exact (if_pos ⟨by assumption, by assumption⟩).symm | exact (if_neg (fun h9 => absurd h9.1 (by assumption))).symm | exact (if_neg (fun h9 => absurd h9.2 (by assumption))).symm)⟩ (by show (V (Int.toNat (V 0 3)) 7 - (kk + 1)).toNat < (V (Int.toNat (V 0 3)) 7 - kk).toNat; omega) ls (lv_sub hl [0, 1, 2, 3, 4] rfl)
      · refine lv_iinc (v := iZ (st + 1)) (lv' := [(3, .int (iZ (st + 1))), (4, .int (iZ kk)), (0, .ref (a 0)), (1, .int (iZ ps)), (2, .int (iZ pl))]) hx hb dX7_howManyReach_37 hl (k := 1) rfl (iZ_add _ _) (by decide) rfl (fun ls hl => ?_)
        refine lv_iinc (v := iZ (kk + 1)) (lv' := [(4, .int (iZ (kk + 1))), (3, .int (iZ (st + 1))), (0, .ref (a 0)), (1, .int (iZ ps)), (2, .int (iZ pl))]) hx hb dX7_howManyReach_40 hl (k := 1) rfl (iZ_add _ _) (by decide) rfl (fun ls hl => ?_)
        refine lv_goto (tgt := 5) hx hb dX7_howManyReach_43 (by decide) ?_
        exact ih5 ((st + 1), (kk + 1)) ⟨(by show (0 ≤ (kk + 1) ∧ (kk + 1) ≤ V (Int.toNat (V 0 3)) 7) ∧ (0 ≤ (st + 1) ∧ (st + 1) ≤ (kk + 1)); omega), (by show (st + 1) = c_hmN (V 14) ps pl (Int.toNat (kk + 1)); rw [c_hmN_succ _ _ _ (by omega), ← i2]; first | exact (if_pos ⟨by assumption, by assumption⟩).symm | exact (if_neg (fun h9 => absurd h9.1 (by assumption))).symm | exact (if_neg (fun h9 => absurd h9.2 (by assumption))).symm)⟩ (by show (V (Int.toNat (V 0 3)) 7 - (kk + 1)).toNat < (V (Int.toNat (V 0 3)) 7 - kk).toNat; omega) ls (lv_sub hl [0, 1, 2, 3, 4] rfl)
set_option maxHeartbeats 20000000 in
set_option maxRecDepth 100000 in
theorem K_X7_mostAlike (l : Launch) (D : va_G) (C : cC) (a b : Nat → Nat) (V : Nat → Nat → Int) (ps : Int) (sy : Int) (hI : cI V) (h1 : 0 ≤ ps ∧ ps < 64) (h2 : 0 ≤ sy ∧ sy < V (Int.toNat (V 0 3)) 8) (hDD : va_D (fun _ => True) (cW C a V)) : Met l yX7_mostAlike wsX7_mostAlike ({ frames := 4, cells := 0, slots := 0, locals := 111 }) (va_Pc [.ref (a 0), .int (iZ ps), .int (iZ sy)] (cOk D C a b V)) (va_Qi (fun r (_ : Unit) => r = iZ (c_mo (f_mo V sy) ps)) (fun _ t => cPo D C a (f_mo V sy) t) (cA a)) 0 0 (cA a) := by
  refine Met.ofW (cc := cX7_mostAlike) (maxL := 5) (ret := (some .int)) (by decide) rfl ?_
  intro p e s m args below meth c s₁ B hml hv
  obtain ⟨rfl, hP, hK, hN⟩ := hv
  have hx := B.exec
  have hb := B.bytes
  have hr := B.returns
  have hts := atoms_spec (ws := wsX7_mostAlike) B.pre
  have hown : s.vm.findClass RX7 = some m.cls := findClass_of_methodNamed B.named
  have hlocks := B.notSynchronized
  have hin_X7 : ∀ w ∈ wsX70, w ∈ wsX7_mostAlike := fun _ w_h => (List.mem_cons_of_mem _ (List.mem_append_left _ (List.mem_append_left _ (List.mem_append_right _ w_h))))
  have hin_X6 : ∀ w ∈ wsX60, w ∈ wsX7_mostAlike := fun _ w_h => (List.mem_cons_of_mem _ (List.mem_append_left _ (List.mem_append_right _ w_h)))
  have hin_X2 : ∀ w ∈ wsX20, w ∈ wsX7_mostAlike := fun _ w_h => (List.mem_cons_of_mem _ (List.mem_append_right _ w_h))
  have hl := lv_entry ([.ref (a 0), .int (iZ ps), .int (iZ sy)]) (n := 5) (Nat.le_of_ble_eq_true rfl)
  rw [lg_entry_eq]
  generalize (lg_sl ([.ref (a 0), .int (iZ ps), .int (iZ sy)]) ++ List.replicate (5 - (lg_sl ([.ref (a 0), .int (iZ ps), .int (iZ sy)])).length) Slot.unset).toArray = ls at hl ⊢
  replace hl : lv_has ls 5 [(0, .ref (a 0)), (1, .int (iZ ps)), (2, .int (iZ sy))] := hl
  have hD : va_D (cA a) (cW C a V) := cD_own hDD
  generalize hHe : s.heap = H at hP ⊢
  have hS : va_S (cA a) s.heap H [] := by rw [hHe]; exact va_S.rf
  generalize hlo : ([] : List Loc) = locs at hS ⊢
  clear hHe hlo
  obtain ⟨hto, hto4, hne, htx, hT, hM, hpa, hpi, hki, hsz, hsg, hby⟩ := id hI
  have hnt := hT.now
  have hnm := hM.now
  refine lv_iconst (v := iZ 0) hx hb dX7_mostAlike_0 (by decide) ?_
  refine lv_istore_n (lv' := [(3, .int (iZ 0)), (0, .ref (a 0)), (1, .int (iZ ps)), (2, .int (iZ sy))]) hx hb dX7_mostAlike_1 rfl hl (by decide) rfl (fun ls hl => ?_)
  replace hl : lv_has ls 5 [(3, .int (iZ (0 : Int))), (0, .ref (a 0)), (1, .int (iZ ps)), (2, .int (iZ sy))] := lv_sub hl [0, 1, 2, 3] rfl
  replace hP := And.intro hP hS
  clear hS
  revert ls
  revert hP
  revert H locs
  refine z_loopH (σ := Int × (Nat → Nat → Int)) (fun x9 => (0 ≤ x9.1 ∧ x9.1 ≤ V (Int.toNat (V 0 3)) 7) ∧ (x9.2 = f_mlN V sy (Int.toNat x9.1))) (fun x9 H9 locs9 => va_P D vwCl (cW C a (x9.2)) H9 ∧ va_S (cA a) s.heap H9 locs9) (fun x9 => [(3, .int (iZ (x9.1))), (0, .ref (a 0)), (1, .int (iZ ps)), (2, .int (iZ sy))]) 5 (fun x9 => (V (Int.toNat (V 0 3)) 7 - x9.1).toNat) ((0 : Int), V) ⟨(by show 0 ≤ (0 : Int) ∧ (0 : Int) ≤ V (Int.toNat (V 0 3)) 7; omega), (by show V = f_mlN V sy (Int.toNat (0 : Int)); rfl)⟩ ?_
  rintro ⟨kk, Va⟩ hI9 ih2 H locs hPS ls hl
  have hP : va_P D vwCl (cW C a Va) H := hPS.1
  have hS : va_S (cA a) s.heap H locs := hPS.2
  clear hPS
  have hD : va_D (cA a) (cW C a Va) := cD_re hD
  obtain ⟨i1, i2⟩ := hI9
  replace i1 : 0 ≤ kk ∧ kk ≤ V (Int.toNat (V 0 3)) 7 := i1
  replace i2 : Va = f_mlN V sy (Int.toNat kk) := i2
  replace hl : lv_has ls 5 [(3, .int (iZ kk)), (0, .ref (a 0)), (1, .int (iZ ps)), (2, .int (iZ sy))] := hl
  have o14_Va : ∀ g, g ≠ 14 → Va g = V g := fun g hg => (by rw [i2]; exact f_mlN_o _ _ _ g hg)
  have hI_Va : cI Va := cI_14 hI o14_Va
  have hto_Va : isTo (Int.toNat (Va 0 3)) := hI_Va.1
  have e7_Va := c_n14 hto o14_Va 7
  have e8_Va := c_n14 hto o14_Va 8
  have hnm_Va := hI_Va.2.2.2.2.2.1.now
  have hnt_Va := hI_Va.2.2.2.2.1.now
  have hcw := c_wind_bd hI_Va 0
  have h391 : 0 ≤ Va 39 1 ∧ Va 39 1 ≤ 5 := by rw [o14_Va 39 (by decide)]; omega
  have hT_Va : toI Va (Int.toNat (Va 0 3)) := hI_Va.2.2.2.2.1
  refine lv_iload_n hx hb dX7_mostAlike_2 rfl (lv_at hl 0 rfl) ?_
  refine lv_aload_n hx hb dX7_mostAlike_3 rfl (lv_at hl 1 rfl) ?_
  refine W.eq (g2 := F0 m 4 ls [.ref (a 0), .int (iZ kk)]) rfl ?_
  refine kq_get (i := 0) hx hb hts hin_X7 hown hK hP (by decide) (cE_0 rfl) rfl 3 (by decide) (hts (.fieldLink RX7 29 "WordFletchers" "told" "LWordFletchers$Told;") (List.mem_cons_of_mem _ (List.mem_append_left _ (List.mem_append_left _ (List.mem_append_left _ (List.mem_append_left _ (List.mem_of_getElem? (i := 0) rfl))))))) rfl dX7_mostAlike_4 ?_
  refine kq_get (i := (Int.toNat (Va 0 3))) hx hb hts hin_X6 hown hK hP (isTo.l0 (by assumption)) (cE_15 (isTo.s0 (by assumption))) rfl 7 (by decide) (hts (.fieldLink RX7 298 "WordFletchers$Told" "people" "I") (List.mem_cons_of_mem _ (List.mem_append_left _ (List.mem_append_left _ (List.mem_append_left _ (List.mem_append_left _ (List.mem_of_getElem? (i := 1) rfl))))))) rfl dX7_mostAlike_7 ?_
  refine z_icmp_ge (x := kk) (y := (Va (Int.toNat (Va 0 3)) 7)) (tgt := 49) hx hb (by omega) (by omega) dX7_mostAlike_10 (by decide) (fun c1 => ?_) (fun c1 => ?_)
  · refine lv_iconst (v := iZ 0) hx hb dX7_mostAlike_49 (by decide) ?_
    refine lv_istore_n (lv' := [(3, .int (iZ 0)), (0, .ref (a 0)), (1, .int (iZ ps)), (2, .int (iZ sy))]) hx hb dX7_mostAlike_50 rfl hl (by decide) rfl (fun ls hl => ?_)
    refine lv_iconst (v := iZ 0) hx hb dX7_mostAlike_51 (by decide) ?_
    refine W.eq (g2 := F0 m 52 ls [.int (iZ 0)]) rfl ?_
    refine lv_istore (lv' := [(4, .int (iZ 0)), (3, .int (iZ 0)), (0, .ref (a 0)), (1, .int (iZ ps)), (2, .int (iZ sy))]) hx hb dX7_mostAlike_52 hl (by decide) rfl (fun ls hl => ?_)
    replace hl : lv_has ls 5 [(4, .int (iZ (0 : Int))), (3, .int (iZ (0 : Int))), (0, .ref (a 0)), (1, .int (iZ ps))] := lv_sub hl [0, 1, 2, 3] rfl
    revert ls
    refine z_loop (σ := Int × Int) (fun x9 => (0 ≤ x9.2 ∧ x9.2 ≤ V (Int.toNat (V 0 3)) 7) ∧ (x9.1 = c_moN (Va 14) ps (Int.toNat (V (Int.toNat (V 0 3)) 7)) (Int.toNat x9.2))) (fun x9 => [(4, .int (iZ (x9.2))), (3, .int (iZ (x9.1))), (0, .ref (a 0)), (1, .int (iZ ps))]) 5 (fun x9 => (V (Int.toNat (V 0 3)) 7 - x9.2).toNat) ((0 : Int), (0 : Int)) ⟨(by show 0 ≤ (0 : Int) ∧ (0 : Int) ≤ V (Int.toNat (V 0 3)) 7; omega), (by show (0 : Int) = c_moN (Va 14) ps (Int.toNat (V (Int.toNat (V 0 3)) 7)) (Int.toNat (0 : Int)); rfl)⟩ ?_
    rintro ⟨mo, jj⟩ hI9 ih54 ls hl
    obtain ⟨i3, i4⟩ := hI9
    replace i3 : 0 ≤ jj ∧ jj ≤ V (Int.toNat (V 0 3)) 7 := i3
    replace i4 : mo = c_moN (Va 14) ps (Int.toNat (V (Int.toNat (V 0 3)) 7)) (Int.toNat jj) := i4
    replace hl : lv_has ls 5 [(4, .int (iZ jj)), (3, .int (iZ mo)), (0, .ref (a 0)), (1, .int (iZ ps))] := hl
    have hmo := c_moN_bd (Va 14) ps (N := (Int.toNat (V (Int.toNat (V 0 3)) 7))) (by omega) (Int.toNat jj)
    have q14 : kk = V (Int.toNat (V 0 3)) 7 := by omega
    have ok_Va : c_14ok Va := fun k hk => by rw [i2]; exact f_mlN_bd V sy _ k (by omega)
    have h149 : jj < kk → c_i32 (Va 14 (Int.toNat jj)) := fun h9 => ok_Va _ (by omega)
    unfold c_i32 at h149
    refine lv_iload hx hb dX7_mostAlike_54 (lv_at hl 0 rfl) ?_
    refine lv_aload_n hx hb dX7_mostAlike_56 rfl (lv_at hl 2 rfl) ?_
    refine kq_get (i := 0) hx hb hts hin_X7 hown hK hP (by decide) (cE_0 rfl) rfl 3 (by decide) (hts (.fieldLink RX7 29 "WordFletchers" "told" "LWordFletchers$Told;") (List.mem_cons_of_mem _ (List.mem_append_left _ (List.mem_append_left _ (List.mem_append_left _ (List.mem_append_left _ (List.mem_of_getElem? (i := 0) rfl))))))) rfl dX7_mostAlike_57 ?_
    refine kq_get (i := (Int.toNat (Va 0 3))) hx hb hts hin_X6 hown hK hP (isTo.l0 (by assumption)) (cE_15 (isTo.s0 (by assumption))) rfl 7 (by decide) (hts (.fieldLink RX7 298 "WordFletchers$Told" "people" "I") (List.mem_cons_of_mem _ (List.mem_append_left _ (List.mem_append_left _ (List.mem_append_left _ (List.mem_append_left _ (List.mem_of_getElem? (i := 1) rfl))))))) rfl dX7_mostAlike_60 ?_
    refine z_icmp_ge (x := jj) (y := (Va (Int.toNat (Va 0 3)) 7)) (tgt := 89) hx hb (by omega) (by omega) dX7_mostAlike_63 (by decide) (fun c3 => ?_) (fun c3 => ?_)
    · refine lv_iload_n hx hb dX7_mostAlike_89 rfl (lv_at hl 1 rfl) ?_
      exact kq_retM hx hb hK hP hS hr rfl (by have q : jj = V (Int.toNat (V 0 3)) 7 := (by omega); have q2 : f_mo V sy = Va := (by rw [i2, q14]; rfl); unfold c_mo; rw [q2, e7_Va, i4, q]) (by rw [i2, q14]; rfl) dX7_mostAlike_90 hlocks
    · refine lv_iload_n hx hb dX7_mostAlike_66 rfl (lv_at hl 1 rfl) ?_
      refine lv_aload_n hx hb dX7_mostAlike_67 rfl (lv_at hl 2 rfl) ?_
      refine lv_iload_n hx hb dX7_mostAlike_68 rfl (lv_at hl 3 rfl) ?_
      refine lv_aload_n hx hb dX7_mostAlike_69 rfl (lv_at hl 2 rfl) ?_
      refine W.eq (g2 := F0 m 70 ls [.ref (a 0), .int (iZ ps), .ref (a 0), .int (iZ mo)]) rfl ?_
      refine kq_get (i := 0) hx hb hts hin_X7 hown hK hP (by decide) (cE_0 rfl) rfl 11 (by decide) (hts (.fieldLink RX7 73 "WordFletchers" "placesReached" "[I") (List.mem_cons_of_mem _ (List.mem_append_left _ (List.mem_append_left _ (List.mem_append_left _ (List.mem_append_left _ (List.mem_of_getElem? (i := 2) rfl))))))) rfl dX7_mostAlike_70 ?_
      refine lv_iload hx hb dX7_mostAlike_73 (lv_at hl 0 rfl) ?_
      refine kq_iald (i := 14) hx hb hK hP (by decide) (n := 6) (cE_14 rfl) (by decide) (Int.toNat jj) rfl (by omega) dX7_mostAlike_75 ?_
      refine kq_ci (i := 0) (As := [.int (iZ ps), .int (iZ (Va 14 (Int.toNat jj)))]) (rest := [.int (iZ mo)]) ⟨hx, hb, hml, hown, hts⟩ hK hP hN hS (by decide) (cE_0 rfl) rfl (K_X7_howManyReach l D C a b Va ps (Va 14 (Int.toNat jj)) hI_Va (by omega) (by omega) (by assumption)) (cwV 2 hts gX7_mostAlike_X7_howManyReach rfl rfl rfl (by decide +kernel) ⟨Nat.le_of_ble_eq_true rfl, Nat.le_of_ble_eq_true rfl⟩) rfl rfl hl.1 (Nat.le_of_ble_eq_true rfl) ⟨Nat.le_of_ble_eq_true rfl, Nat.le_of_ble_eq_true rfl⟩ dX7_mostAlike_76 ?_
      have hhm := c_hmN_bd (Va 14) ps (Va 14 (Int.toNat jj)) (Int.toNat (Va (Int.toNat (Va 0 3)) 7))
      refine kq_max (x := mo) (y := c_hmN (Va 14) ps (Va 14 (Int.toNat jj)) (Int.toNat (Va (Int.toNat (Va 0 3)) 7))) hx hb (hml.trans hl.1.symm) hown (hts (.methodLink RX7 248 Lib.Math.max.name) (List.mem_cons_of_mem _ (List.mem_append_left _ (List.mem_append_left _ (List.mem_append_left _ (List.mem_append_left _ (List.mem_of_getElem? (i := 5) rfl))))))) (hts (.static Lib.Math.max.name) (List.mem_cons_of_mem _ (List.mem_append_left _ (List.mem_append_left _ (List.mem_append_left _ (List.mem_append_left _ (List.mem_of_getElem? (i := 6) rfl))))))) (hts (.initialized "java/lang/Math") (List.mem_cons_of_mem _ (List.mem_append_left _ (List.mem_append_left _ (List.mem_append_left _ (List.mem_append_left _ (List.mem_of_getElem? (i := 7) rfl))))))) (hts (.code Lib.Math.max.name Lib.Math.max.code 2 (some .int)) (List.mem_cons_of_mem _ (List.mem_append_left _ (List.mem_append_left _ (List.mem_append_left _ (List.mem_append_left _ (List.mem_of_getElem? (i := 8) rfl))))))) (Nat.le_of_ble_eq_true rfl) (Nat.le_of_ble_eq_true rfl) (Nat.le_of_ble_eq_true rfl) (Nat.le_of_ble_eq_true rfl) (by omega) (by omega) dX7_mostAlike_79 ?_
      refine lv_istore_n (lv' := [(3, .int (iZ (if mo < (c_hmN (Va 14) ps (Va 14 (Int.toNat jj)) (Int.toNat (Va (Int.toNat (Va 0 3)) 7))) then (c_hmN (Va 14) ps (Va 14 (Int.toNat jj)) (Int.toNat (Va (Int.toNat (Va 0 3)) 7))) else mo))), (4, .int (iZ jj)), (0, .ref (a 0)), (1, .int (iZ ps))]) hx hb dX7_mostAlike_82 rfl hl (by decide) rfl (fun ls hl => ?_)
      refine lv_iinc (v := iZ (jj + 1)) (lv' := [(4, .int (iZ (jj + 1))), (3, .int (iZ (if mo < (c_hmN (Va 14) ps (Va 14 (Int.toNat jj)) (Int.toNat (Va (Int.toNat (Va 0 3)) 7))) then (c_hmN (Va 14) ps (Va 14 (Int.toNat jj)) (Int.toNat (Va (Int.toNat (Va 0 3)) 7))) else mo))), (0, .ref (a 0)), (1, .int (iZ ps))]) hx hb dX7_mostAlike_83 hl (k := 1) rfl (iZ_add _ _) (by decide) rfl (fun ls hl => ?_)
      refine lv_goto (tgt := 54) hx hb dX7_mostAlike_86 (by decide) ?_
      exact ih54 ((if mo < (c_hmN (Va 14) ps (Va 14 (Int.toNat jj)) (Int.toNat (Va (Int.toNat (Va 0 3)) 7))) then (c_hmN (Va 14) ps (Va 14 (Int.toNat jj)) (Int.toNat (Va (Int.toNat (Va 0 3)) 7))) else mo), (jj + 1)) ⟨(by show 0 ≤ (jj + 1) ∧ (jj + 1) ≤ V (Int.toNat (V 0 3)) 7; omega), (by show (if mo < (c_hmN (Va 14) ps (Va 14 (Int.toNat jj)) (Int.toNat (Va (Int.toNat (Va 0 3)) 7))) then (c_hmN (Va 14) ps (Va 14 (Int.toNat jj)) (Int.toNat (Va (Int.toNat (Va 0 3)) 7))) else mo) = c_moN (Va 14) ps (Int.toNat (V (Int.toNat (V 0 3)) 7)) (Int.toNat (jj + 1)); rw [c_moN_succ _ _ _ (by omega), ← i4, ← e7_Va])⟩ (by show (V (Int.toNat (V 0 3)) 7 - (jj + 1)).toNat < (V (Int.toNat (V 0 3)) 7 - jj).toNat; omega) ls (lv_sub hl [0, 1, 2, 3] rfl)
  · refine lv_aload_n hx hb dX7_mostAlike_13 rfl (lv_at hl 1 rfl) ?_
    refine kq_get (i := 0) hx hb hts hin_X7 hown hK hP (by decide) (cE_0 rfl) rfl 11 (by decide) (hts (.fieldLink RX7 73 "WordFletchers" "placesReached" "[I") (List.mem_cons_of_mem _ (List.mem_append_left _ (List.mem_append_left _ (List.mem_append_left _ (List.mem_append_left _ (List.mem_of_getElem? (i := 2) rfl))))))) rfl dX7_mostAlike_14 ?_
    refine lv_iload_n hx hb dX7_mostAlike_17 rfl (lv_at hl 0 rfl) ?_
    refine lv_aload_n hx hb dX7_mostAlike_18 rfl (lv_at hl 1 rfl) ?_
    refine W.eq (g2 := F0 m 19 ls [.ref (a 0), .int (iZ kk), .ref (a 14)]) rfl ?_
    refine kq_get (i := 0) hx hb hts hin_X7 hown hK hP (by decide) (cE_0 rfl) rfl 3 (by decide) (hts (.fieldLink RX7 29 "WordFletchers" "told" "LWordFletchers$Told;") (List.mem_cons_of_mem _ (List.mem_append_left _ (List.mem_append_left _ (List.mem_append_left _ (List.mem_append_left _ (List.mem_of_getElem? (i := 0) rfl))))))) rfl dX7_mostAlike_19 ?_
    refine lv_iload_n hx hb dX7_mostAlike_22 rfl (lv_at hl 0 rfl) ?_
    refine lv_iload_n hx hb dX7_mostAlike_23 rfl (lv_at hl 3 rfl) ?_
    refine lv_aload_n hx hb dX7_mostAlike_24 rfl (lv_at hl 1 rfl) ?_
    refine lv_iconst (v := iZ 0) hx hb dX7_mostAlike_25 (by decide) ?_
    refine kq_ci (i := 0) (As := [.int (iZ 0)]) (rest := [.int (iZ sy), .int (iZ kk), .ref (a (Int.toNat (Va 0 3))), .int (iZ kk), .ref (a 14)]) ⟨hx, hb, hml, hown, hts⟩ hK hP hN hS (by decide) (cE_0 rfl) rfl (K_X7_windIn l D C a b Va 0 (by assumption) (by omega) (by omega) (by omega)) (cwV 1 hts gX7_mostAlike_X7_windIn rfl rfl rfl (by decide +kernel) ⟨Nat.le_of_ble_eq_true rfl, Nat.le_of_ble_eq_true rfl⟩) rfl rfl hl.1 (Nat.le_of_ble_eq_true rfl) ⟨Nat.le_of_ble_eq_true rfl, Nat.le_of_ble_eq_true rfl⟩ dX7_mostAlike_26 ?_
    refine lv_aload_n hx hb dX7_mostAlike_29 rfl (lv_at hl 1 rfl) ?_
    refine kq_get (i := 0) hx hb hts hin_X7 hown hK hP (by decide) (cE_0 rfl) rfl 5 (by decide) (hts (.fieldLink RX7 39 "WordFletchers" "moment" "LWordFletchers$Moment;") (List.mem_cons_of_mem _ (List.mem_append_left _ (List.mem_append_left _ (List.mem_append_left _ (List.mem_append_left _ (List.mem_of_getElem? (i := 3) rfl))))))) rfl dX7_mostAlike_30 ?_
    refine kq_get (i := 39) hx hb hts hin_X2 hown hK hP (isMo.l0 isMo_39) (cE_26 (isMo.s0 isMo_39)) rfl 1 (by decide) (hts (.fieldLink RX7 177 "WordFletchers$Moment" "damp" "I") (List.mem_cons_of_mem _ (List.mem_append_left _ (List.mem_append_left _ (List.mem_append_left _ (List.mem_append_left _ (List.mem_of_getElem? (i := 4) rfl))))))) rfl dX7_mostAlike_33 ?_
    refine kq_ci (i := (Int.toNat (Va 0 3))) (As := [.int (iZ kk), .int (iZ sy), .int (iZ (c_wind Va 0)), .int (iZ (Va 39 1))]) (rest := [.int (iZ kk), .ref (a 14)]) ⟨hx, hb, hml, hown, hts⟩ hK hP hN hS (isTo.l0 (by assumption)) (cE_15 (isTo.s0 (by assumption))) rfl (K_X6_landings l D C a b Va (Int.toNat (Va 0 3)) (by assumption) kk sy (c_wind Va 0) (Va 39 1) (by assumption) (by omega) (by omega) (by omega) (by omega)) (cwV 4 hts gX7_mostAlike_X6_landings rfl rfl rfl (by decide +kernel) ⟨Nat.le_of_ble_eq_true rfl, Nat.le_of_ble_eq_true rfl⟩) rfl rfl hl.1 (Nat.le_of_ble_eq_true rfl) ⟨Nat.le_of_ble_eq_true rfl, Nat.le_of_ble_eq_true rfl⟩ dX7_mostAlike_36 ?_
    refine kq_cs (As := [.int (iZ (s_lgN (fun sh => s_land (Va ((Int.toNat (Va 0 3)) + 1) (Int.toNat kk)) (Va ((Int.toNat (Va 0 3)) + 4) (Int.toNat sy)) (Va ((Int.toNat (Va 0 3)) + 3) (Int.toNat sy)) (Va 39 1) (sh / 100) (sh / 10 % 10) (sh % 10) (c_wind Va 0)) 26))]) (rest := [.int (iZ kk), .ref (a 14)]) ⟨hx, hb, hml, hown, hts⟩ (K_J6_bitCount_0f7a4 l (s_lgN (fun sh => s_land (Va ((Int.toNat (Va 0 3)) + 1) (Int.toNat kk)) (Va ((Int.toNat (Va 0 3)) + 4) (Int.toNat sy)) (Va ((Int.toNat (Va 0 3)) + 3) (Int.toNat sy)) (Va 39 1) (sh / 100) (sh / 10 % 10) (sh % 10) (c_wind Va 0)) 26) ) (va_cwS 1 hts gX7_mostAlike_J6_bitCount_0f7a4 rfl rfl rfl (by decide +kernel) ⟨Nat.le_of_ble_eq_true rfl, Nat.le_of_ble_eq_true rfl⟩) rfl rfl hl.1 (Nat.le_of_ble_eq_true rfl) ⟨Nat.le_of_ble_eq_true rfl, Nat.le_of_ble_eq_true rfl⟩ dX7_mostAlike_39 ?_
    have hbc := zbc_bd (s_lgN (fun sh => s_land (Va ((Int.toNat (Va 0 3)) + 1) (Int.toNat kk)) (Va ((Int.toNat (Va 0 3)) + 4) (Int.toNat sy)) (Va ((Int.toNat (Va 0 3)) + 3) (Int.toNat sy)) (Va 39 1) (sh / 100) (sh / 10 % 10) (sh % 10) (c_wind Va 0)) 26)
    refine kq_iast (i := 14) hx hb hK hP hD hS (by decide) (n := 6) (cE_14 rfl) (by decide) (Int.toNat kk) rfl (by omega) dX7_mostAlike_42 (fun H locs hP hD hS => ?_)
    obtain ⟨V4, hV4⟩ : ∃ z : Nat → Nat → Int, z = (mU Va 14 (Int.toNat kk) (zbc (s_lgN (fun sh => s_land (Va ((Int.toNat (Va 0 3)) + 1) (Int.toNat kk)) (Va ((Int.toNat (Va 0 3)) + 4) (Int.toNat sy)) (Va ((Int.toNat (Va 0 3)) + 3) (Int.toNat sy)) (Va 39 1) (sh / 100) (sh / 10 % 10) (sh % 10) (c_wind Va 0)) 26))) := ⟨_, rfl⟩
    rw [← hV4] at hP hD
    refine W.eq (g2 := F0 m 43 ls []) rfl ?_
    refine lv_iinc (v := iZ (kk + 1)) (lv' := [(3, .int (iZ (kk + 1))), (0, .ref (a 0)), (1, .int (iZ ps)), (2, .int (iZ sy))]) hx hb dX7_mostAlike_43 hl (k := 0) rfl (iZ_add _ _) (by decide) rfl (fun ls hl => ?_)
    refine lv_goto (tgt := 2) hx hb dX7_mostAlike_46 (by decide) ?_
    exact ih2 ((kk + 1), V4) ⟨(by show 0 ≤ (kk + 1) ∧ (kk + 1) ≤ V (Int.toNat (V 0 3)) 7; omega), (by show V4 = f_mlN V sy (Int.toNat (kk + 1)); rw [f_mlN_succ _ _ (by omega), ← i2, ← c_bn_14 hto o14_Va]; subst_vars; rfl)⟩ (by show (V (Int.toNat (V 0 3)) 7 - (kk + 1)).toNat < (V (Int.toNat (V 0 3)) 7 - kk).toNat; omega) H locs ⟨hP, hS⟩ ls (lv_sub hl [0, 1, 2, 3] rfl)
set_option maxHeartbeats 20000000 in
set_option maxRecDepth 100000 in
theorem K_X7_ask (l : Launch) (D : va_G) (C : cC) (a b : Nat → Nat) (V : Nat → Nat → Int) (hI : cI V) (hDD : va_D (fun _ => True) (cW C a V)) : Met l yX7_ask wsX7_ask ({ frames := 6, cells := 0, slots := 0, locals := 157 }) (va_Pc [.ref (a 0)] (cOk D C a b V)) (va_Qi (fun r (_ : Unit) => r = iZ (c_ask V)) (fun _ t => cPo D C a (f_ask V) t) (cA a)) 0 0 (cA a) := by
  refine Met.ofW (cc := cX7_ask) (maxL := 6) (ret := (some .int)) (by decide) rfl ?_
  intro p e s m args below meth c s₁ B hml hv
  obtain ⟨rfl, hP, hK, hN⟩ := hv
  have hx := B.exec
  have hb := B.bytes
  have hr := B.returns
  have hts := atoms_spec (ws := wsX7_ask) B.pre
  have hown : s.vm.findClass RX7 = some m.cls := findClass_of_methodNamed B.named
  have hlocks := B.notSynchronized
  have hin_X7 : ∀ w ∈ wsX70, w ∈ wsX7_ask := fun _ w_h => (List.mem_cons_of_mem _ (List.mem_append_left _ (List.mem_append_left _ (List.mem_append_left _ (List.mem_append_right _ w_h)))))
  have hin_X6 : ∀ w ∈ wsX60, w ∈ wsX7_ask := fun _ w_h => (List.mem_cons_of_mem _ (List.mem_append_left _ (List.mem_append_left _ (List.mem_append_right _ w_h))))
  have hin_X4 : ∀ w ∈ wsX40, w ∈ wsX7_ask := fun _ w_h => (List.mem_cons_of_mem _ (List.mem_append_left _ (List.mem_append_right _ w_h)))
  have hin_X2 : ∀ w ∈ wsX20, w ∈ wsX7_ask := fun _ w_h => (List.mem_cons_of_mem _ (List.mem_append_right _ w_h))
  have hl := lv_entry ([.ref (a 0)]) (n := 6) (Nat.le_of_ble_eq_true rfl)
  rw [lg_entry_eq]
  generalize (lg_sl ([.ref (a 0)]) ++ List.replicate (6 - (lg_sl ([.ref (a 0)])).length) Slot.unset).toArray = ls at hl ⊢
  replace hl : lv_has ls 6 [(0, .ref (a 0))] := hl
  have hD : va_D (cA a) (cW C a V) := cD_own hDD
  generalize hHe : s.heap = H at hP ⊢
  have hS : va_S (cA a) s.heap H [] := by rw [hHe]; exact va_S.rf
  generalize hlo : ([] : List Loc) = locs at hS ⊢
  clear hHe hlo
  obtain ⟨hto, hto4, hne, htx, hT, hM, hpa, hpi, hki, hsz, hsg, hby⟩ := id hI
  have hnt := hT.now
  have hnm := hM.now
  have hsu9 := c_suN_bd V (Int.toNat (V (Int.toNat (V 0 3)) 7)) (by omega)
  refine lv_aload_n hx hb dX7_ask_0 rfl (lv_at hl 0 rfl) ?_
  refine kq_ci (i := 0) (As := []) (rest := []) ⟨hx, hb, hml, hown, hts⟩ hK hP hN hS (by decide) (cE_0 rfl) rfl (K_X7_suspects l D C a b V  hI) (cwV 0 hts gX7_ask_X7_suspects rfl rfl rfl (by decide +kernel) ⟨Nat.le_of_ble_eq_true rfl, Nat.le_of_ble_eq_true rfl⟩) rfl rfl hl.1 (Nat.le_of_ble_eq_true rfl) ⟨Nat.le_of_ble_eq_true rfl, Nat.le_of_ble_eq_true rfl⟩ dX7_ask_1 ?_
  have hsu := c_suN_bd V (Int.toNat (V (Int.toNat (V 0 3)) 7)) (by omega)
  refine z_nm (fun ws hws => ?_)
  have hws2 : ws = c_suN V (Int.toNat (V (Int.toNat (V 0 3)) 7)) := hws
  rw [← hws2] at hsu9
  refine lv_istore_n (lv' := [(1, .int (iZ ws)), (0, .ref (a 0))]) hx hb dX7_ask_4 rfl hl (by decide) rfl (fun ls hl => ?_)
  refine lv_iload_n hx hb dX7_ask_5 rfl (lv_at hl 0 rfl) ?_
  refine kq_cs (As := [.int (iZ ws)]) (rest := []) ⟨hx, hb, hml, hown, hts⟩ (K_J6_bitCount_0f7a4 l ws ) (va_cwS 1 hts gX7_ask_J6_bitCount_0f7a4 rfl rfl rfl (by decide +kernel) ⟨Nat.le_of_ble_eq_true rfl, Nat.le_of_ble_eq_true rfl⟩) rfl rfl hl.1 (Nat.le_of_ble_eq_true rfl) ⟨Nat.le_of_ble_eq_true rfl, Nat.le_of_ble_eq_true rfl⟩ dX7_ask_6 ?_
  have hbc := zbc_bd ws
  refine lv_iconst (v := iZ 2) hx hb dX7_ask_9 (by decide) ?_
  refine z_icmp_ge (x := (zbc ws)) (y := 2) (tgt := 16) hx hb (by omega) (by omega) dX7_ask_10 (by decide) (fun c1 => ?_) (fun c1 => ?_)
  · refine lv_bipush (v := iZ (-9)) hx hb dX7_ask_16 (by decide) ?_
    refine lv_istore_n (lv' := [(2, .int (iZ (-9))), (1, .int (iZ ws)), (0, .ref (a 0))]) hx hb dX7_ask_18 rfl hl (by decide) rfl (fun ls hl => ?_)
    refine lv_bipush (v := iZ 7) hx hb dX7_ask_19 (by decide) ?_
    refine W.eq (g2 := F0 m 21 ls [.int (iZ 7)]) rfl ?_
    refine lv_istore_n (lv' := [(3, .int (iZ 7)), (2, .int (iZ (-9))), (1, .int (iZ ws)), (0, .ref (a 0))]) hx hb dX7_ask_21 rfl hl (by decide) rfl (fun ls hl => ?_)
    refine lv_iconst (v := iZ 0) hx hb dX7_ask_22 (by decide) ?_
    refine lv_istore (lv' := [(4, .int (iZ 0)), (3, .int (iZ 7)), (2, .int (iZ (-9))), (1, .int (iZ ws)), (0, .ref (a 0))]) hx hb dX7_ask_23 hl (by decide) rfl (fun ls hl => ?_)
    replace hl : lv_has ls 6 [(4, .int (iZ (0 : Int))), (3, .int (iZ (7 : Int))), (2, .int (iZ ((-9) : Int))), (1, .int (iZ ws)), (0, .ref (a 0))] := lv_sub hl [0, 1, 2, 3, 4] rfl
    replace hP := And.intro hP hS
    clear hS
    revert ls
    revert hP
    revert H locs
    refine z_loopH (σ := Int × Int × Int × (Nat → Nat → Int)) (fun x9 => ((0 ≤ x9.2.2.1 ∧ x9.2.2.1 ≤ V (Int.toNat (V 0 3)) 8) ∧ (0 ≤ x9.2.1 ∧ x9.2.1 ≤ 7)) ∧ (x9.2.2.2 = f_as V (Int.toNat x9.2.2.1)) ∧ (x9.1 = (c_asN V ws (Int.toNat x9.2.2.1)).1) ∧ (x9.2.1 = (c_asN V ws (Int.toNat x9.2.2.1)).2)) (fun x9 H9 locs9 => va_P D vwCl (cW C a (x9.2.2.2)) H9 ∧ va_S (cA a) s.heap H9 locs9) (fun x9 => [(4, .int (iZ (x9.2.2.1))), (3, .int (iZ (x9.2.1))), (2, .int (iZ (x9.1))), (1, .int (iZ ws)), (0, .ref (a 0))]) 6 (fun x9 => (V (Int.toNat (V 0 3)) 8 - x9.2.2.1).toNat) (((-9) : Int), (7 : Int), (0 : Int), V) ⟨(by show (0 ≤ (0 : Int) ∧ (0 : Int) ≤ V (Int.toNat (V 0 3)) 8) ∧ (0 ≤ (7 : Int) ∧ (7 : Int) ≤ 7); omega), (by show V = f_as V (Int.toNat (0 : Int)); rfl), (by show ((-9) : Int) = (c_asN V ws (Int.toNat (0 : Int))).1; rfl), (by show (7 : Int) = (c_asN V ws (Int.toNat (0 : Int))).2; rfl)⟩ ?_
    rintro ⟨bb, le, kk, Va⟩ hI9 ih25 H locs hPS ls hl
    have hP : va_P D vwCl (cW C a Va) H := hPS.1
    have hS : va_S (cA a) s.heap H locs := hPS.2
    clear hPS
    have hD : va_D (cA a) (cW C a Va) := cD_re hD
    obtain ⟨i1, i2, i3, i4⟩ := hI9
    replace i1 : (0 ≤ kk ∧ kk ≤ V (Int.toNat (V 0 3)) 8) ∧ (0 ≤ le ∧ le ≤ 7) := i1
    replace i2 : Va = f_as V (Int.toNat kk) := i2
    replace i3 : bb = (c_asN V ws (Int.toNat kk)).1 := i3
    replace i4 : le = (c_asN V ws (Int.toNat kk)).2 := i4
    replace hl : lv_has ls 6 [(4, .int (iZ kk)), (3, .int (iZ le)), (2, .int (iZ bb)), (1, .int (iZ ws)), (0, .ref (a 0))] := hl
    have o14_Va : ∀ g, g ≠ 14 → Va g = V g := fun g hg => (by rw [i2]; exact f_as_o _ _ g hg)
    have hI_Va : cI Va := cI_14 hI o14_Va
    have hto_Va : isTo (Int.toNat (Va 0 3)) := hI_Va.1
    have e7_Va := c_n14 hto o14_Va 7
    have e8_Va := c_n14 hto o14_Va 8
    have hnm_Va := hI_Va.2.2.2.2.2.1.now
    have hnt_Va := hI_Va.2.2.2.2.1.now
    refine lv_iload hx hb dX7_ask_25 (lv_at hl 0 rfl) ?_
    refine lv_aload_n hx hb dX7_ask_27 rfl (lv_at hl 4 rfl) ?_
    refine kq_get (i := 0) hx hb hts hin_X7 hown hK hP (by decide) (cE_0 rfl) rfl 3 (by decide) (hts (.fieldLink RX7 29 "WordFletchers" "told" "LWordFletchers$Told;") (List.mem_cons_of_mem _ (List.mem_append_left _ (List.mem_append_left _ (List.mem_append_left _ (List.mem_append_left _ (List.mem_append_left _ (List.mem_of_getElem? (i := 0) rfl)))))))) rfl dX7_ask_28 ?_
    refine kq_get (i := (Int.toNat (Va 0 3))) hx hb hts hin_X6 hown hK hP (isTo.l0 (by assumption)) (cE_15 (isTo.s0 (by assumption))) rfl 8 (by decide) (hts (.fieldLink RX7 219 "WordFletchers$Told" "sayings" "I") (List.mem_cons_of_mem _ (List.mem_append_left _ (List.mem_append_left _ (List.mem_append_left _ (List.mem_append_left _ (List.mem_append_left _ (List.mem_of_getElem? (i := 1) rfl)))))))) rfl dX7_ask_31 ?_
    refine z_icmp_ge (x := kk) (y := (Va (Int.toNat (Va 0 3)) 8)) (tgt := 64) hx hb (by omega) (by omega) dX7_ask_34 (by decide) (fun c2 => ?_) (fun c2 => ?_)
    · refine W.eq (g2 := F0 m 64 ls []) rfl ?_
      refine lv_iload_n hx hb dX7_ask_64 rfl (lv_at hl 2 rfl) ?_
      exact kq_retM hx hb hK hP hS hr rfl (by unfold c_ask; rw [← hws2]; first | exact (if_pos (by omega)).symm | (refine Eq.trans ?_ (if_neg (by omega)).symm; rw [i3]; congr 3; omega)) (by unfold f_ask; rw [← hws2]; first | exact (if_pos (by omega)).symm | (refine Eq.trans ?_ (if_neg (by omega)).symm; rw [i2]; congr 2; omega)) dX7_ask_65 hlocks
    · refine lv_aload_n hx hb dX7_ask_37 rfl (lv_at hl 4 rfl) ?_
      refine lv_iload_n hx hb dX7_ask_38 rfl (lv_at hl 3 rfl) ?_
      refine lv_iload hx hb dX7_ask_39 (lv_at hl 0 rfl) ?_
      refine kq_cm (i := 0) (As := [.int (iZ ws), .int (iZ kk)]) (rest := []) ⟨hx, hb, hml, hown, hts⟩ hK hP hN hD hS (by decide) (cE_0 rfl) rfl (K_X7_mostAlike l D C a b Va ws kk hI_Va (by omega) ⟨by omega, by omega⟩ (hD.weaken (fun _ _ _ _ => trivial))) (cwV 2 hts gX7_ask_X7_mostAlike rfl rfl rfl (by decide +kernel) ⟨Nat.le_of_ble_eq_true rfl, Nat.le_of_ble_eq_true rfl⟩) rfl rfl hl.1 (Nat.le_of_ble_eq_true rfl) ⟨Nat.le_of_ble_eq_true rfl, Nat.le_of_ble_eq_true rfl⟩ dX7_ask_41 (fun H locs hP hD hS => ?_)
      obtain ⟨V5, hV5⟩ : ∃ z : Nat → Nat → Int, z = (f_mo Va kk) := ⟨_, rfl⟩
      rw [← hV5] at hP hD
      have hfa : V5 = f_as V (Int.toNat (kk + 1)) := by rw [f_as_succ _ (by omega), ← i2]; exact hV5
      have e7_V5 := c_n14 hto (fun g hg => (by rw [hfa]; exact f_as_o V _ g hg) : ∀ g, g ≠ 14 → V5 g = V g) 7
      refine z_nm (fun al hal => ?_)
      replace hal : al = c_mo (f_as V (Int.toNat (kk + 1))) ws := by rw [f_as_succ _ (by omega), ← i2]; exact hal
      have halb : 0 ≤ al ∧ al ≤ 6 := by rw [hal, ← hfa]; unfold c_mo; exact c_moN_bd _ _ (by omega) _
      refine lv_istore (lv' := [(5, .int (iZ al)), (4, .int (iZ kk)), (3, .int (iZ le)), (2, .int (iZ bb)), (1, .int (iZ ws)), (0, .ref (a 0))]) hx hb dX7_ask_44 hl (by decide) rfl (fun ls hl => ?_)
      refine lv_iload hx hb dX7_ask_46 (lv_at hl 0 rfl) ?_
      refine lv_iload_n hx hb dX7_ask_48 rfl (lv_at hl 2 rfl) ?_
      refine z_icmp_ge (x := al) (y := le) (tgt := 58) hx hb (by omega) (by omega) dX7_ask_49 (by decide) (fun c6 => ?_) (fun c6 => ?_)
      · refine lv_iinc (v := iZ (kk + 1)) (lv' := [(4, .int (iZ (kk + 1))), (5, .int (iZ al)), (3, .int (iZ le)), (2, .int (iZ bb)), (1, .int (iZ ws)), (0, .ref (a 0))]) hx hb dX7_ask_58 hl (k := 1) rfl (iZ_add _ _) (by decide) rfl (fun ls hl => ?_)
        refine lv_goto (tgt := 25) hx hb dX7_ask_61 (by decide) ?_
        exact ih25 (bb, le, (kk + 1), V5) ⟨(by show (0 ≤ (kk + 1) ∧ (kk + 1) ≤ V (Int.toNat (V 0 3)) 8) ∧ (0 ≤ le ∧ le ≤ 7); omega), (by show V5 = f_as V (Int.toNat (kk + 1)); exact hfa), (by show bb = (c_asN V ws (Int.toNat (kk + 1))).1; rw [c_asN_succ _ _ (by omega), ← i4, ← hal]; first | (refine Eq.trans ?_ (congrArg Prod.fst (if_pos (by omega))).symm; rfl) | (refine Eq.trans ?_ (congrArg Prod.fst (if_neg (by omega))).symm; exact i3)), (by show le = (c_asN V ws (Int.toNat (kk + 1))).2; rw [c_asN_succ _ _ (by omega), ← i4, ← hal]; first | (refine Eq.trans ?_ (congrArg Prod.snd (if_pos (by omega))).symm; rfl) | (refine Eq.trans ?_ (congrArg Prod.snd (if_neg (by omega))).symm; exact i4))⟩ (by show (V (Int.toNat (V 0 3)) 8 - (kk + 1)).toNat < (V (Int.toNat (V 0 3)) 8 - kk).toNat; omega) H locs ⟨hP, hS⟩ ls (lv_sub hl [0, 2, 3, 4, 5] rfl)
      · refine W.eq (g2 := F0 m 52 ls []) rfl ?_
        refine lv_iload hx hb dX7_ask_52 (lv_at hl 0 rfl) ?_
        refine lv_istore_n (lv' := [(3, .int (iZ al)), (5, .int (iZ al)), (4, .int (iZ kk)), (2, .int (iZ bb)), (1, .int (iZ ws)), (0, .ref (a 0))]) hx hb dX7_ask_54 rfl hl (by decide) rfl (fun ls hl => ?_)
        refine lv_iload hx hb dX7_ask_55 (lv_at hl 2 rfl) ?_
        refine lv_istore_n (lv' := [(2, .int (iZ kk)), (3, .int (iZ al)), (5, .int (iZ al)), (4, .int (iZ kk)), (1, .int (iZ ws)), (0, .ref (a 0))]) hx hb dX7_ask_57 rfl hl (by decide) rfl (fun ls hl => ?_)
        refine lv_iinc (v := iZ (kk + 1)) (lv' := [(4, .int (iZ (kk + 1))), (2, .int (iZ kk)), (3, .int (iZ al)), (5, .int (iZ al)), (1, .int (iZ ws)), (0, .ref (a 0))]) hx hb dX7_ask_58 hl (k := 3) rfl (iZ_add _ _) (by decide) rfl (fun ls hl => ?_)
        refine lv_goto (tgt := 25) hx hb dX7_ask_61 (by decide) ?_
        exact ih25 (kk, al, (kk + 1), V5) ⟨(by show (0 ≤ (kk + 1) ∧ (kk + 1) ≤ V (Int.toNat (V 0 3)) 8) ∧ (0 ≤ al ∧ al ≤ 7); omega), (by show V5 = f_as V (Int.toNat (kk + 1)); exact hfa), (by show kk = (c_asN V ws (Int.toNat (kk + 1))).1; rw [c_asN_succ _ _ (by omega), ← i4, ← hal]; first | (refine Eq.trans ?_ (congrArg Prod.fst (if_pos (by omega))).symm; rfl) | (refine Eq.trans ?_ (congrArg Prod.fst (if_neg (by omega))).symm; exact i3)), (by show al = (c_asN V ws (Int.toNat (kk + 1))).2; rw [c_asN_succ _ _ (by omega), ← i4, ← hal]; first | (refine Eq.trans ?_ (congrArg Prod.snd (if_pos (by omega))).symm; rfl) | (refine Eq.trans ?_ (congrArg Prod.snd (if_neg (by omega))).symm; exact i4))⟩ (by show (V (Int.toNat (V 0 3)) 8 - (kk + 1)).toNat < (V (Int.toNat (V 0 3)) 8 - kk).toNat; omega) H locs ⟨hP, hS⟩ ls (lv_sub hl [0, 2, 1, 4, 5] rfl)
  · refine lv_bipush (v := iZ (-9)) hx hb dX7_ask_13 (by decide) ?_
    exact kq_retM hx hb hK hP hS hr rfl (by unfold c_ask; rw [← hws2]; first | exact (if_pos (by omega)).symm | (refine Eq.trans ?_ (if_neg (by omega)).symm; rw [i3]; congr 3; omega)) (by unfold f_ask; rw [← hws2]; first | exact (if_pos (by omega)).symm | (refine Eq.trans ?_ (if_neg (by omega)).symm; rw [i2]; congr 2; omega)) dX7_ask_15 hlocks
