set_option maxHeartbeats 4000000 in
set_option maxRecDepth 100000 in
theorem K_X7_fewestNeeded (l : Launch) (D : va_G) (C : cC) (a b : Nat → Nat) (V : Nat → Nat → Int) (ps : Int) (hI : cI V) (h1 : 0 ≤ ps ∧ ps < 64) (h3 : c_13ok V) : Met l yX7_fewestNeeded wsX7_fewestNeeded ({ frames := 1, cells := 0, slots := 0, locals := 24 }) (va_Pc [.ref (a 0), .int (iZ ps)] (cOk D C a b V)) (vp_Si (fun r => r = iZ (c_fnN (V 13) ps (Int.toNat (V (Int.toNat (V 0 3)) 7))))) 0 0 (fun _ => False) := by
  refine Met.ofW (cc := cX7_fewestNeeded) (maxL := 4) (ret := (some .int)) (by decide) rfl ?_
  intro p e s m args below meth c s₁ B hml hv
  obtain ⟨rfl, hP, hK, hN⟩ := hv
  have hx := B.exec
  have hb := B.bytes
  have hr := B.returns
  have hts := atoms_spec (ws := wsX7_fewestNeeded) B.pre
  have hown : s.vm.findClass RX7 = some m.cls := findClass_of_methodNamed B.named
  have hlocks := B.notSynchronized
  have hin_X7 : ∀ w ∈ wsX70, w ∈ wsX7_fewestNeeded := fun _ w_h => (List.mem_cons_of_mem _ (List.mem_append_left _ (List.mem_append_right _ w_h)))
  have hin_X6 : ∀ w ∈ wsX60, w ∈ wsX7_fewestNeeded := fun _ w_h => (List.mem_cons_of_mem _ (List.mem_append_right _ w_h))
  have hl := lv_entry ([.ref (a 0), .int (iZ ps)]) (n := 4) (Nat.le_of_ble_eq_true rfl)
  rw [lg_entry_eq]
  generalize (lg_sl ([.ref (a 0), .int (iZ ps)]) ++ List.replicate (4 - (lg_sl ([.ref (a 0), .int (iZ ps)])).length) Slot.unset).toArray = ls at hl ⊢
  replace hl : lv_has ls 4 [(0, .ref (a 0)), (1, .int (iZ ps))] := hl
  have hS : va_S (cA a) s.heap s.heap [] := va_S.rf
  obtain ⟨hto, hto4, hne, htx, hT, hM, hpa, hpi, hki, hsz, hsg, hby⟩ := id hI
  have hnt := hT.now
  have hnm := hM.now
  refine lv_sipush (v := iZ 1000) hx hb dX7_fewestNeeded_0 (by decide) ?_
  refine lv_istore_n (lv' := [(2, .int (iZ 1000)), (0, .ref (a 0)), (1, .int (iZ ps))]) hx hb dX7_fewestNeeded_3 rfl hl (by decide) rfl (fun ls hl => ?_)
  refine W.eq (g2 := F0 m 4 ls []) rfl ?_
  refine lv_iconst (v := iZ 0) hx hb dX7_fewestNeeded_4 (by decide) ?_
  refine lv_istore_n (lv' := [(3, .int (iZ 0)), (2, .int (iZ 1000)), (0, .ref (a 0)), (1, .int (iZ ps))]) hx hb dX7_fewestNeeded_5 rfl hl (by decide) rfl (fun ls hl => ?_)
  replace hl : lv_has ls 4 [(3, .int (iZ (0 : Int))), (2, .int (iZ (1000 : Int))), (0, .ref (a 0)), (1, .int (iZ ps))] := lv_sub hl [0, 1, 2, 3] rfl
  revert ls
  refine z_loop (σ := Int × Int) (fun x9 => ((0 ≤ x9.2 ∧ x9.2 ≤ V (Int.toNat (V 0 3)) 7) ∧ (0 ≤ x9.1 ∧ x9.1 ≤ 1000)) ∧ (x9.1 = c_fnN (V 13) ps (Int.toNat x9.2))) (fun x9 => [(3, .int (iZ (x9.2))), (2, .int (iZ (x9.1))), (0, .ref (a 0)), (1, .int (iZ ps))]) 4 (fun x9 => (V (Int.toNat (V 0 3)) 7 - x9.2).toNat) ((1000 : Int), (0 : Int)) ⟨(by show (0 ≤ (0 : Int) ∧ (0 : Int) ≤ V (Int.toNat (V 0 3)) 7) ∧ (0 ≤ (1000 : Int) ∧ (1000 : Int) ≤ 1000); omega), (by show (1000 : Int) = c_fnN (V 13) ps (Int.toNat (0 : Int)); rfl)⟩ ?_
  rintro ⟨fw, kk⟩ hI9 ih6 ls hl
  obtain ⟨i1, i2⟩ := hI9
  replace i1 : (0 ≤ kk ∧ kk ≤ V (Int.toNat (V 0 3)) 7) ∧ (0 ≤ fw ∧ fw ≤ 1000) := i1
  replace i2 : fw = c_fnN (V 13) ps (Int.toNat kk) := i2
  replace hl : lv_has ls 4 [(3, .int (iZ kk)), (2, .int (iZ fw)), (0, .ref (a 0)), (1, .int (iZ ps))] := hl
  have h39 : kk < V (Int.toNat (V 0 3)) 7 → 0 ≤ V 13 (Int.toNat kk) ∧ V 13 (Int.toNat kk) ≤ 1000 := fun h9 => h3 _ (by omega)
  refine lv_iload_n hx hb dX7_fewestNeeded_6 rfl (lv_at hl 0 rfl) ?_
  refine lv_aload_n hx hb dX7_fewestNeeded_7 rfl (lv_at hl 2 rfl) ?_
  refine kq_get (i := 0) hx hb hts hin_X7 hown hK hP (by decide) (cE_0 rfl) rfl 3 (by decide) (hts (.fieldLink RX7 29 "WordFletchers" "told" "LWordFletchers$Told;") (List.mem_cons_of_mem _ (List.mem_append_left _ (List.mem_append_left _ (List.mem_of_getElem? (i := 0) rfl))))) rfl dX7_fewestNeeded_8 ?_
  refine kq_get (i := (Int.toNat (V 0 3))) hx hb hts hin_X6 hown hK hP (isTo.l0 (by assumption)) (cE_15 (isTo.s0 (by assumption))) rfl 7 (by decide) (hts (.fieldLink RX7 298 "WordFletchers$Told" "people" "I") (List.mem_cons_of_mem _ (List.mem_append_left _ (List.mem_append_left _ (List.mem_of_getElem? (i := 1) rfl))))) rfl dX7_fewestNeeded_11 ?_
  refine z_icmp_ge (x := kk) (y := (V (Int.toNat (V 0 3)) 7)) (tgt := 42) hx hb (by omega) (by omega) dX7_fewestNeeded_14 (by decide) (fun c1 => ?_) (fun c1 => ?_)
  · refine lv_iload_n hx hb dX7_fewestNeeded_42 rfl (lv_at hl 1 rfl) ?_
    exact mq_ret hx hb hr rfl (by have q : kk = V (Int.toNat (V 0 3)) 7 := (by omega); rw [i2, q]) dX7_fewestNeeded_43 hlocks rfl
  · refine W.eq (g2 := F0 m 17 ls []) rfl ?_
    refine lv_iload_n hx hb dX7_fewestNeeded_17 rfl (lv_at hl 3 rfl) ?_
    refine lv_iload_n hx hb dX7_fewestNeeded_18 rfl (lv_at hl 0 rfl) ?_
    refine kq_cs (As := [.int (iZ ps), .int (iZ kk)]) (rest := []) ⟨hx, hb, hml, hown, hts⟩ (K_X7_isIn l ps kk (by omega) (by omega)) (va_cwS 2 hts gX7_fewestNeeded_X7_isIn rfl rfl rfl (by decide +kernel) ⟨Nat.le_of_ble_eq_true rfl, Nat.le_of_ble_eq_true rfl⟩) rfl rfl hl.1 (Nat.le_of_ble_eq_true rfl) ⟨Nat.le_of_ble_eq_true rfl, Nat.le_of_ble_eq_true rfl⟩ dX7_fewestNeeded_19 ?_
    refine z_ifb_eq (P := (ps / zp kk % 2 = 1)) (tgt := 36) hx hb dX7_fewestNeeded_22 (by decide) (fun c3 => ?_) (fun c3 => ?_)
    · refine lv_iinc (v := iZ (kk + 1)) (lv' := [(3, .int (iZ (kk + 1))), (2, .int (iZ fw)), (0, .ref (a 0)), (1, .int (iZ ps))]) hx hb dX7_fewestNeeded_36 hl (k := 0) rfl (iZ_add _ _) (by decide) rfl (fun ls hl => ?_)
      refine lv_goto (tgt := 6) hx hb dX7_fewestNeeded_39 (by decide) ?_
      exact ih6 (fw, (kk + 1)) ⟨(by show (0 ≤ (kk + 1) ∧ (kk + 1) ≤ V (Int.toNat (V 0 3)) 7) ∧ (0 ≤ fw ∧ fw ≤ 1000); omega), (by show fw = c_fnN (V 13) ps (Int.toNat (kk + 1)); rw [c_fnN_succ _ _ (by omega), ← i2]; first | exact (if_pos (by assumption)).symm | exact (if_neg (by assumption)).symm)⟩ (by show (V (Int.toNat (V 0 3)) 7 - (kk + 1)).toNat < (V (Int.toNat (V 0 3)) 7 - kk).toNat; omega) ls (lv_sub hl [0, 1, 2, 3] rfl)
    · refine lv_iload_n hx hb dX7_fewestNeeded_25 rfl (lv_at hl 1 rfl) ?_
      refine lv_aload_n hx hb dX7_fewestNeeded_26 rfl (lv_at hl 2 rfl) ?_
      refine kq_get (i := 0) hx hb hts hin_X7 hown hK hP (by decide) (cE_0 rfl) rfl 10 (by decide) (hts (.fieldLink RX7 70 "WordFletchers" "shotsNeeded" "[I") (List.mem_cons_of_mem _ (List.mem_append_left _ (List.mem_append_left _ (List.mem_of_getElem? (i := 2) rfl))))) rfl dX7_fewestNeeded_27 ?_
      refine lv_iload_n hx hb dX7_fewestNeeded_30 rfl (lv_at hl 0 rfl) ?_
      refine kq_iald (i := 13) hx hb hK hP (by decide) (n := 6) (cE_13 rfl) (by decide) (Int.toNat kk) rfl (by omega) dX7_fewestNeeded_31 ?_
      refine kq_min (x := fw) (y := (V 13 (Int.toNat kk))) hx hb (hml.trans hl.1.symm) hown (hts (.methodLink RX7 180 Lib.Math.min.name) (List.mem_cons_of_mem _ (List.mem_append_left _ (List.mem_append_left _ (List.mem_of_getElem? (i := 3) rfl))))) (hts (.static Lib.Math.min.name) (List.mem_cons_of_mem _ (List.mem_append_left _ (List.mem_append_left _ (List.mem_of_getElem? (i := 4) rfl))))) (hts (.initialized "java/lang/Math") (List.mem_cons_of_mem _ (List.mem_append_left _ (List.mem_append_left _ (List.mem_of_getElem? (i := 5) rfl))))) (hts (.code Lib.Math.min.name Lib.Math.min.code 2 (some .int)) (List.mem_cons_of_mem _ (List.mem_append_left _ (List.mem_append_left _ (List.mem_of_getElem? (i := 6) rfl))))) (Nat.le_of_ble_eq_true rfl) (Nat.le_of_ble_eq_true rfl) (Nat.le_of_ble_eq_true rfl) (Nat.le_of_ble_eq_true rfl) (by omega) (by omega) dX7_fewestNeeded_32 ?_
      refine W.eq (g2 := F0 m 35 ls [.int (iZ (if (V 13 (Int.toNat kk)) < fw then (V 13 (Int.toNat kk)) else fw))]) rfl ?_
      refine lv_istore_n (lv' := [(2, .int (iZ (if (V 13 (Int.toNat kk)) < fw then (V 13 (Int.toNat kk)) else fw))), (3, .int (iZ kk)), (0, .ref (a 0)), (1, .int (iZ ps))]) hx hb dX7_fewestNeeded_35 rfl hl (by decide) rfl (fun ls hl => ?_)
      refine lv_iinc (v := iZ (kk + 1)) (lv' := [(3, .int (iZ (kk + 1))), (2, .int (iZ (if (V 13 (Int.toNat kk)) < fw then (V 13 (Int.toNat kk)) else fw))), (0, .ref (a 0)), (1, .int (iZ ps))]) hx hb dX7_fewestNeeded_36 hl (k := 1) rfl (iZ_add _ _) (by decide) rfl (fun ls hl => ?_)
      refine lv_goto (tgt := 6) hx hb dX7_fewestNeeded_39 (by decide) ?_
      exact ih6 ((if (V 13 (Int.toNat kk)) < fw then (V 13 (Int.toNat kk)) else fw), (kk + 1)) ⟨(by show (0 ≤ (kk + 1) ∧ (kk + 1) ≤ V (Int.toNat (V 0 3)) 7) ∧ (0 ≤ (if (V 13 (Int.toNat kk)) < fw then (V 13 (Int.toNat kk)) else fw) ∧ (if (V 13 (Int.toNat kk)) < fw then (V 13 (Int.toNat kk)) else fw) ≤ 1000); omega), (by show (if (V 13 (Int.toNat kk)) < fw then (V 13 (Int.toNat kk)) else fw) = c_fnN (V 13) ps (Int.toNat (kk + 1)); rw [c_fnN_succ _ _ (by omega), ← i2]; first | exact (if_pos (by assumption)).symm | exact (if_neg (by assumption)).symm)⟩ (by show (V (Int.toNat (V 0 3)) 7 - (kk + 1)).toNat < (V (Int.toNat (V 0 3)) 7 - kk).toNat; omega) ls (lv_sub hl [0, 1, 2, 3] rfl)
set_option maxHeartbeats 4000000 in
set_option maxRecDepth 100000 in
theorem K_X7_whoCanHear (l : Launch) (D : va_G) (C : cC) (a b : Nat → Nat) (V : Nat → Nat → Int) (pe : Int) (sy : Int) (hI : cI V) (h1 : 0 ≤ pe ∧ pe < V (Int.toNat (V 0 3)) 7) (h2 : 0 ≤ sy ∧ sy < V (Int.toNat (V 0 3)) 8) : Met l yX7_whoCanHear wsX7_whoCanHear ({ frames := 5, cells := 0, slots := 0, locals := 109 }) (va_Pc [.ref (a 0), .int (iZ pe), .int (iZ sy)] (cOk D C a b V)) (vp_Si (fun r => r = iZ (c_who V pe sy))) 0 0 (fun _ => False) := by
  refine Met.ofW (cc := cX7_whoCanHear) (maxL := 8) (ret := (some .int)) (by decide) rfl ?_
  intro p e s m args below meth c s₁ B hml hv
  obtain ⟨rfl, hP, hK, hN⟩ := hv
  have hx := B.exec
  have hb := B.bytes
  have hr := B.returns
  have hts := atoms_spec (ws := wsX7_whoCanHear) B.pre
  have hown : s.vm.findClass RX7 = some m.cls := findClass_of_methodNamed B.named
  have hlocks := B.notSynchronized
  have hin_X7 : ∀ w ∈ wsX70, w ∈ wsX7_whoCanHear := fun _ w_h => (List.mem_cons_of_mem _ (List.mem_append_left _ (List.mem_append_left _ (List.mem_append_right _ w_h))))
  have hin_X2 : ∀ w ∈ wsX20, w ∈ wsX7_whoCanHear := fun _ w_h => (List.mem_cons_of_mem _ (List.mem_append_left _ (List.mem_append_right _ w_h)))
  have hin_X6 : ∀ w ∈ wsX60, w ∈ wsX7_whoCanHear := fun _ w_h => (List.mem_cons_of_mem _ (List.mem_append_right _ w_h))
  have hl := lv_entry ([.ref (a 0), .int (iZ pe), .int (iZ sy)]) (n := 8) (Nat.le_of_ble_eq_true rfl)
  rw [lg_entry_eq]
  generalize (lg_sl ([.ref (a 0), .int (iZ pe), .int (iZ sy)]) ++ List.replicate (8 - (lg_sl ([.ref (a 0), .int (iZ pe), .int (iZ sy)])).length) Slot.unset).toArray = ls at hl ⊢
  replace hl : lv_has ls 8 [(0, .ref (a 0)), (1, .int (iZ pe)), (2, .int (iZ sy))] := hl
  have hS : va_S (cA a) s.heap s.heap [] := va_S.rf
  obtain ⟨hto, hto4, hne, htx, hT, hM, hpa, hpi, hki, hsz, hsg, hby⟩ := id hI
  have hnt := hT.now
  have hnm := hM.now
  refine lv_iconst (v := iZ 0) hx hb dX7_whoCanHear_0 (by decide) ?_
  refine lv_istore_n (lv' := [(3, .int (iZ 0)), (0, .ref (a 0)), (1, .int (iZ pe)), (2, .int (iZ sy))]) hx hb dX7_whoCanHear_1 rfl hl (by decide) rfl (fun ls hl => ?_)
  refine va_gets hx hb hN.2.2.2.2.1 hS hown (hts (.fieldLink RX7 307 "WordFletchers" "SHOTS_BY_KIND" "[I") (List.mem_cons_of_mem _ (List.mem_append_left _ (List.mem_append_left _ (List.mem_append_left _ (List.mem_append_left _ (List.mem_of_getElem? (i := 0) rfl))))))) (fun _ h9 => h9) dX7_whoCanHear_2 ?_
  refine lv_astore (lv' := [(4, .ref (b 1)), (3, .int (iZ 0)), (0, .ref (a 0)), (1, .int (iZ pe)), (2, .int (iZ sy))]) hx hb dX7_whoCanHear_5 hl (by decide) rfl (fun ls hl => ?_)
  refine lv_aload hx hb dX7_whoCanHear_7 (lv_at hl 0 rfl) ?_
  refine kq_slen (d := 1) (n := 26) (f := cKin) hx hb hN.2.2.2.2.2.2.2.1 (hN.2.2.2.2.2.2.2.2.2.1 1 (by decide)) hS dX7_whoCanHear_9 ?_
  refine lv_istore (lv' := [(5, .int (iZ 26)), (4, .ref (b 1)), (3, .int (iZ 0)), (0, .ref (a 0)), (1, .int (iZ pe)), (2, .int (iZ sy))]) hx hb dX7_whoCanHear_10 hl (by decide) rfl (fun ls hl => ?_)
  refine lv_iconst (v := iZ 0) hx hb dX7_whoCanHear_12 (by decide) ?_
  refine lv_istore (lv' := [(6, .int (iZ 0)), (5, .int (iZ 26)), (4, .ref (b 1)), (3, .int (iZ 0)), (0, .ref (a 0)), (1, .int (iZ pe)), (2, .int (iZ sy))]) hx hb dX7_whoCanHear_13 hl (by decide) rfl (fun ls hl => ?_)
  replace hl : lv_has ls 8 [(6, .int (iZ (0 : Int))), (5, .int (iZ 26)), (4, .ref (b 1)), (3, .int (iZ (0 : Int))), (0, .ref (a 0)), (1, .int (iZ pe)), (2, .int (iZ sy))] := lv_sub hl [0, 1, 2, 3, 4, 5, 6] rfl
  revert ls
  refine z_loop (σ := Int × Int) (fun x9 => (0 ≤ x9.2 ∧ x9.2 ≤ 26) ∧ (x9.1 = c_whN V pe sy (Int.toNat x9.2))) (fun x9 => [(6, .int (iZ (x9.2))), (5, .int (iZ 26)), (4, .ref (b 1)), (3, .int (iZ (x9.1))), (0, .ref (a 0)), (1, .int (iZ pe)), (2, .int (iZ sy))]) 8 (fun x9 => (26 - x9.2).toNat) ((0 : Int), (0 : Int)) ⟨(by show 0 ≤ (0 : Int) ∧ (0 : Int) ≤ 26; omega), (by show (0 : Int) = c_whN V pe sy (Int.toNat (0 : Int)); rfl)⟩ ?_
  rintro ⟨st, kk⟩ hI9 ih15 ls hl
  obtain ⟨i1, i2⟩ := hI9
  replace i1 : 0 ≤ kk ∧ kk ≤ 26 := i1
  replace i2 : st = c_whN V pe sy (Int.toNat kk) := i2
  replace hl : lv_has ls 8 [(6, .int (iZ kk)), (5, .int (iZ 26)), (4, .ref (b 1)), (3, .int (iZ st)), (0, .ref (a 0)), (1, .int (iZ pe)), (2, .int (iZ sy))] := hl
  have hwb := c_whN_bd hnt.1 pe sy (Int.toNat kk)
  have hkn := cKin_ok (k := kk)
  refine W.eq (g2 := F0 m 15 ls []) rfl ?_
  refine lv_iload hx hb dX7_whoCanHear_15 (lv_at hl 0 rfl) ?_
  refine lv_iload hx hb dX7_whoCanHear_17 (lv_at hl 1 rfl) ?_
  refine z_icmp_ge (x := kk) (y := 26) (tgt := 54) hx hb (by omega) (by omega) dX7_whoCanHear_19 (by decide) (fun c1 => ?_) (fun c1 => ?_)
  · refine lv_iload_n hx hb dX7_whoCanHear_54 rfl (lv_at hl 3 rfl) ?_
    exact mq_ret hx hb hr rfl (by have q : kk = 26 := (by omega); rw [i2, q]; rfl) dX7_whoCanHear_55 hlocks rfl
  · refine lv_aload hx hb dX7_whoCanHear_22 (lv_at hl 2 rfl) ?_
    refine W.eq (g2 := F0 m 24 ls [.ref (b 1)]) rfl ?_
    refine lv_iload hx hb dX7_whoCanHear_24 (lv_at hl 0 rfl) ?_
    refine kq_sald (d := 1) (n := 26) (f := cKin) hx hb hN.2.2.2.2.2.2.2.1 (hN.2.2.2.2.2.2.2.2.2.1 1 (by decide)) hS (by decide) (Int.toNat kk) rfl (by omega) dX7_whoCanHear_26 ?_
    have hkn9 := hkn ⟨by omega, by omega⟩
    refine lv_istore (lv' := [(7, .int (iZ (cKin (Int.toNat kk)))), (6, .int (iZ kk)), (5, .int (iZ 26)), (4, .ref (b 1)), (3, .int (iZ st)), (0, .ref (a 0)), (1, .int (iZ pe)), (2, .int (iZ sy))]) hx hb dX7_whoCanHear_27 hl (by decide) rfl (fun ls hl => ?_)
    refine lv_iload_n hx hb dX7_whoCanHear_29 rfl (lv_at hl 4 rfl) ?_
    refine lv_aload_n hx hb dX7_whoCanHear_30 rfl (lv_at hl 5 rfl) ?_
    refine kq_get (i := 0) hx hb hts hin_X7 hown hK hP (by decide) (cE_0 rfl) rfl 3 (by decide) (hts (.fieldLink RX7 29 "WordFletchers" "told" "LWordFletchers$Told;") (List.mem_cons_of_mem _ (List.mem_append_left _ (List.mem_append_left _ (List.mem_append_left _ (List.mem_append_left _ (List.mem_of_getElem? (i := 1) rfl))))))) rfl dX7_whoCanHear_31 ?_
    refine lv_iload_n hx hb dX7_whoCanHear_34 rfl (lv_at hl 6 rfl) ?_
    refine lv_aload_n hx hb dX7_whoCanHear_35 rfl (lv_at hl 5 rfl) ?_
    refine lv_iload_n hx hb dX7_whoCanHear_36 rfl (lv_at hl 6 rfl) ?_
    refine lv_iload_n hx hb dX7_whoCanHear_37 rfl (lv_at hl 7 rfl) ?_
    refine lv_iload hx hb dX7_whoCanHear_38 (lv_at hl 0 rfl) ?_
    refine kq_ci (i := 0) (As := [.int (iZ pe), .int (iZ sy), .int (iZ (cKin (Int.toNat kk)))]) (rest := [.int (iZ pe), .ref (a (Int.toNat (V 0 3))), .int (iZ st)]) ⟨hx, hb, hml, hown, hts⟩ hK hP hN hS (by decide) (cE_0 rfl) rfl (K_X7_landingNow l D C a b V pe sy (cKin (Int.toNat kk)) hI (by omega) (by omega) (by omega) (by omega)) (cwV 3 hts gX7_whoCanHear_X7_landingNow rfl rfl rfl (by decide +kernel) ⟨Nat.le_of_ble_eq_true rfl, Nat.le_of_ble_eq_true rfl⟩) rfl rfl hl.1 (Nat.le_of_ble_eq_true rfl) ⟨Nat.le_of_ble_eq_true rfl, Nat.le_of_ble_eq_true rfl⟩ dX7_whoCanHear_40 ?_
    have hcl := c_la_bd V pe sy (cKin (Int.toNat kk)) (c_wind V 0)
    have hco := c_la_or V pe sy (cKin (Int.toNat kk)) (c_wind V 0)
    refine W.eq (g2 := F0 m 43 ls [.int (iZ (c_la V pe sy (cKin (Int.toNat kk)) (c_wind V 0))), .int (iZ pe), .ref (a (Int.toNat (V 0 3))), .int (iZ st)]) rfl ?_
    refine kq_ci (i := (Int.toNat (V 0 3))) (As := [.int (iZ pe), .int (iZ (c_la V pe sy (cKin (Int.toNat kk)) (c_wind V 0)))]) (rest := [.int (iZ st)]) ⟨hx, hb, hml, hown, hts⟩ hK hP hN hS (isTo.l0 (by assumption)) (cE_15 (isTo.s0 (by assumption))) rfl (K_X6_hearers l D C a b V (Int.toNat (V 0 3)) (by assumption) pe (c_la V pe sy (cKin (Int.toNat kk)) (c_wind V 0)) (by assumption) (by omega) (by omega)) (cwV 2 hts gX7_whoCanHear_X6_hearers rfl rfl rfl (by decide +kernel) ⟨Nat.le_of_ble_eq_true rfl, Nat.le_of_ble_eq_true rfl⟩) rfl rfl hl.1 (Nat.le_of_ble_eq_true rfl) ⟨Nat.le_of_ble_eq_true rfl, Nat.le_of_ble_eq_true rfl⟩ dX7_whoCanHear_43 ?_
    have hhe9 := s_heN_bd (V ((Int.toNat (V 0 3)) + 1)) (V ((Int.toNat (V 0 3)) + 2)) (c_la V pe sy (cKin (Int.toNat kk)) (c_wind V 0)) pe (Int.toNat (V (Int.toNat (V 0 3)) 7)) 6 (by omega)
    refine z_ior hx hb (by omega) (by omega) dX7_whoCanHear_46 ?_
    refine lv_istore_n (lv' := [(3, .int (iZ (zor st (s_heN (V ((Int.toNat (V 0 3)) + 1)) (V ((Int.toNat (V 0 3)) + 2)) (c_la V pe sy (cKin (Int.toNat kk)) (c_wind V 0)) pe (Int.toNat (V (Int.toNat (V 0 3)) 7)))))), (7, .int (iZ (cKin (Int.toNat kk)))), (6, .int (iZ kk)), (5, .int (iZ 26)), (4, .ref (b 1)), (0, .ref (a 0)), (1, .int (iZ pe)), (2, .int (iZ sy))]) hx hb dX7_whoCanHear_47 rfl hl (by decide) rfl (fun ls hl => ?_)
    refine lv_iinc (v := iZ (kk + 1)) (lv' := [(6, .int (iZ (kk + 1))), (3, .int (iZ (zor st (s_heN (V ((Int.toNat (V 0 3)) + 1)) (V ((Int.toNat (V 0 3)) + 2)) (c_la V pe sy (cKin (Int.toNat kk)) (c_wind V 0)) pe (Int.toNat (V (Int.toNat (V 0 3)) 7)))))), (7, .int (iZ (cKin (Int.toNat kk)))), (5, .int (iZ 26)), (4, .ref (b 1)), (0, .ref (a 0)), (1, .int (iZ pe)), (2, .int (iZ sy))]) hx hb dX7_whoCanHear_48 hl (k := 2) rfl (iZ_add _ _) (by decide) rfl (fun ls hl => ?_)
    refine lv_goto (tgt := 15) hx hb dX7_whoCanHear_51 (by decide) ?_
    exact ih15 ((zor st (s_heN (V ((Int.toNat (V 0 3)) + 1)) (V ((Int.toNat (V 0 3)) + 2)) (c_la V pe sy (cKin (Int.toNat kk)) (c_wind V 0)) pe (Int.toNat (V (Int.toNat (V 0 3)) 7)))), (kk + 1)) ⟨(by show 0 ≤ (kk + 1) ∧ (kk + 1) ≤ 26; omega), (by show (zor st (s_heN (V ((Int.toNat (V 0 3)) + 1)) (V ((Int.toNat (V 0 3)) + 2)) (c_la V pe sy (cKin (Int.toNat kk)) (c_wind V 0)) pe (Int.toNat (V (Int.toNat (V 0 3)) 7)))) = c_whN V pe sy (Int.toNat (kk + 1)); rw [c_whN_succ _ _ _ (by omega), ← i2]; rfl)⟩ (by show (26 - (kk + 1)).toNat < (26 - kk).toNat; omega) ls (lv_sub hl [0, 3, 4, 1, 5, 6, 7] rfl)
set_option maxHeartbeats 20000000 in
set_option maxRecDepth 100000 in
theorem K_X7_countShotsNeeded (l : Launch) (D : va_G) (C : cC) (a b : Nat → Nat) (V : Nat → Nat → Int) (sy : Int) (to : Int) (hI : cI V) (h1 : 0 ≤ sy ∧ sy < V (Int.toNat (V 0 3)) 8) (h2 : 0 ≤ to ∧ to < V (Int.toNat (V 0 3)) 7) (hDD : va_D (fun _ => True) (cW C a V)) : Met l yX7_countShotsNeeded wsX7_countShotsNeeded ({ frames := 6, cells := 0, slots := 0, locals := 136 }) (va_Pc [.ref (a 0), .int (iZ sy), .int (iZ to)] (cOk D C a b V)) (va_Qv (fun (_ : Unit) => True) (fun _ t => cPo D C a (f_cs V sy to) t) (cA a)) 0 0 (cA a) := by
  refine Met.ofW (cc := cX7_countShotsNeeded) (maxL := 5) (ret := none) (by decide) rfl ?_
  intro p e s m args below meth c s₁ B hml hv
  obtain ⟨rfl, hP, hK, hN⟩ := hv
  have hx := B.exec
  have hb := B.bytes
  have hr := B.returns
  have hts := atoms_spec (ws := wsX7_countShotsNeeded) B.pre
  have hown : s.vm.findClass RX7 = some m.cls := findClass_of_methodNamed B.named
  have hlocks := B.notSynchronized
  have hin_X7 : ∀ w ∈ wsX70, w ∈ wsX7_countShotsNeeded := fun _ w_h => (List.mem_cons_of_mem _ (List.mem_append_left _ (List.mem_append_left _ (List.mem_append_right _ w_h))))
  have hin_X6 : ∀ w ∈ wsX60, w ∈ wsX7_countShotsNeeded := fun _ w_h => (List.mem_cons_of_mem _ (List.mem_append_left _ (List.mem_append_right _ w_h)))
  have hin_X2 : ∀ w ∈ wsX20, w ∈ wsX7_countShotsNeeded := fun _ w_h => (List.mem_cons_of_mem _ (List.mem_append_right _ w_h))
  have hl := lv_entry ([.ref (a 0), .int (iZ sy), .int (iZ to)]) (n := 5) (Nat.le_of_ble_eq_true rfl)
  rw [lg_entry_eq]
  generalize (lg_sl ([.ref (a 0), .int (iZ sy), .int (iZ to)]) ++ List.replicate (5 - (lg_sl ([.ref (a 0), .int (iZ sy), .int (iZ to)])).length) Slot.unset).toArray = ls at hl ⊢
  replace hl : lv_has ls 5 [(0, .ref (a 0)), (1, .int (iZ sy)), (2, .int (iZ to))] := hl
  have hD : va_D (cA a) (cW C a V) := cD_own hDD
  generalize hHe : s.heap = H at hP ⊢
  have hS : va_S (cA a) s.heap H [] := by rw [hHe]; exact va_S.rf
  generalize hlo : ([] : List Loc) = locs at hS ⊢
  clear hHe hlo
  obtain ⟨hto, hto4, hne, htx, hT, hM, hpa, hpi, hki, hsz, hsg, hby⟩ := id hI
  have hnt := hT.now
  have hnm := hM.now
  refine lv_iconst (v := iZ 0) hx hb dX7_countShotsNeeded_0 (by decide) ?_
  refine lv_istore_n (lv' := [(3, .int (iZ 0)), (0, .ref (a 0)), (1, .int (iZ sy)), (2, .int (iZ to))]) hx hb dX7_countShotsNeeded_1 rfl hl (by decide) rfl (fun ls hl => ?_)
  replace hl : lv_has ls 5 [(3, .int (iZ (0 : Int))), (0, .ref (a 0)), (1, .int (iZ sy)), (2, .int (iZ to))] := lv_sub hl [0, 1, 2, 3] rfl
  replace hP := And.intro hP hS
  clear hS
  revert ls
  revert hP
  revert H locs
  refine z_loopH (σ := Int × (Nat → Nat → Int)) (fun x9 => (0 ≤ x9.1 ∧ x9.1 ≤ V (Int.toNat (V 0 3)) 7) ∧ (x9.2 = f_c0 V to (Int.toNat x9.1))) (fun x9 H9 locs9 => va_P D vwCl (cW C a (x9.2)) H9 ∧ va_S (cA a) s.heap H9 locs9) (fun x9 => [(3, .int (iZ (x9.1))), (0, .ref (a 0)), (1, .int (iZ sy)), (2, .int (iZ to))]) 5 (fun x9 => (V (Int.toNat (V 0 3)) 7 - x9.1).toNat) ((0 : Int), V) ⟨(by show 0 ≤ (0 : Int) ∧ (0 : Int) ≤ V (Int.toNat (V 0 3)) 7; omega), (by show V = f_c0 V to (Int.toNat (0 : Int)); rfl)⟩ ?_
  rintro ⟨kk, Va⟩ hI9 ih2 H locs hPS ls hl
  have hP : va_P D vwCl (cW C a Va) H := hPS.1
  have hS : va_S (cA a) s.heap H locs := hPS.2
  clear hPS
  have hD : va_D (cA a) (cW C a Va) := cD_re hD
  obtain ⟨i1, i2⟩ := hI9
  replace i1 : 0 ≤ kk ∧ kk ≤ V (Int.toNat (V 0 3)) 7 := i1
  replace i2 : Va = f_c0 V to (Int.toNat kk) := i2
  replace hl : lv_has ls 5 [(3, .int (iZ kk)), (0, .ref (a 0)), (1, .int (iZ sy)), (2, .int (iZ to))] := hl
  have o13_Va : ∀ g, g ≠ 13 → Va g = V g := fun g hg => (by rw [i2]; exact f_c0_o _ _ _ g hg)
  have hI_Va : cI Va := cI_13 hI o13_Va
  have hto_Va : isTo (Int.toNat (Va 0 3)) := hI_Va.1
  have e7_Va := f_cs_n hto o13_Va
  refine lv_iload_n hx hb dX7_countShotsNeeded_2 rfl (lv_at hl 0 rfl) ?_
  refine lv_aload_n hx hb dX7_countShotsNeeded_3 rfl (lv_at hl 1 rfl) ?_
  refine kq_get (i := 0) hx hb hts hin_X7 hown hK hP (by decide) (cE_0 rfl) rfl 3 (by decide) (hts (.fieldLink RX7 29 "WordFletchers" "told" "LWordFletchers$Told;") (List.mem_cons_of_mem _ (List.mem_append_left _ (List.mem_append_left _ (List.mem_append_left _ (List.mem_append_left _ (List.mem_of_getElem? (i := 0) rfl))))))) rfl dX7_countShotsNeeded_4 ?_
  refine kq_get (i := (Int.toNat (Va 0 3))) hx hb hts hin_X6 hown hK hP (isTo.l0 (by assumption)) (cE_15 (isTo.s0 (by assumption))) rfl 7 (by decide) (hts (.fieldLink RX7 298 "WordFletchers$Told" "people" "I") (List.mem_cons_of_mem _ (List.mem_append_left _ (List.mem_append_left _ (List.mem_append_left _ (List.mem_append_left _ (List.mem_of_getElem? (i := 1) rfl))))))) rfl dX7_countShotsNeeded_7 ?_
  refine z_icmp_ge (x := kk) (y := (Va (Int.toNat (Va 0 3)) 7)) (tgt := 37) hx hb (by omega) (by omega) dX7_countShotsNeeded_10 (by decide) (fun c1 => ?_) (fun c1 => ?_)
  · refine W.eq (g2 := F0 m 37 ls []) rfl ?_
    refine lv_iconst (v := iZ 1) hx hb dX7_countShotsNeeded_37 (by decide) ?_
    refine lv_istore_n (lv' := [(3, .int (iZ 1)), (0, .ref (a 0)), (1, .int (iZ sy)), (2, .int (iZ to))]) hx hb dX7_countShotsNeeded_38 rfl hl (by decide) rfl (fun ls hl => ?_)
    replace hl : lv_has ls 5 [(3, .int (iZ (1 : Int))), (0, .ref (a 0)), (1, .int (iZ sy))] := lv_sub hl [0, 1, 2] rfl
    replace hP := And.intro hP hS
    clear hS
    revert ls
    revert hP
    revert H locs
    refine z_loopH (σ := Int × (Nat → Nat → Int)) (fun x9 => (1 ≤ x9.1 ∧ (x9.1 ≤ V (Int.toNat (V 0 3)) 7 ∨ x9.1 = 1)) ∧ (x9.2 = f_c2 V sy (f_c0 V to (Int.toNat (V (Int.toNat (V 0 3)) 7))) (Int.toNat (x9.1 - 1))) ∧ (∀ k : Nat, (k : Int) < V (Int.toNat (V 0 3)) 7 → 0 ≤ x9.2 13 k ∧ x9.2 13 k ≤ 1000)) (fun x9 H9 locs9 => va_P D vwCl (cW C a (x9.2)) H9 ∧ va_S (cA a) s.heap H9 locs9) (fun x9 => [(3, .int (iZ (x9.1))), (0, .ref (a 0)), (1, .int (iZ sy))]) 5 (fun x9 => (V (Int.toNat (V 0 3)) 7 - x9.1).toNat) ((1 : Int), Va) ⟨(by show 1 ≤ (1 : Int) ∧ ((1 : Int) ≤ V (Int.toNat (V 0 3)) 7 ∨ (1 : Int) = 1); omega), (by show Va = f_c2 V sy (f_c0 V to (Int.toNat (V (Int.toNat (V 0 3)) 7))) (Int.toNat ((1 : Int) - 1)); have q : kk = V (Int.toNat (V 0 3)) 7 := (by omega); rw [i2, q]; rfl), (by show ∀ k : Nat, (k : Int) < V (Int.toNat (V 0 3)) 7 → 0 ≤ Va 13 k ∧ Va 13 k ≤ 1000; have q : kk = V (Int.toNat (V 0 3)) 7 := (by omega); rw [i2, q]; exact fun k hk => f_c0_bd V to _ k (by omega))⟩ ?_
    rintro ⟨rr, Vb⟩ hI9 ih39 H locs hPS ls hl
    have hP : va_P D vwCl (cW C a Vb) H := hPS.1
    have hS : va_S (cA a) s.heap H locs := hPS.2
    clear hPS
    have hD : va_D (cA a) (cW C a Vb) := cD_re hD
    obtain ⟨i3, i4, i5⟩ := hI9
    replace i3 : 1 ≤ rr ∧ (rr ≤ V (Int.toNat (V 0 3)) 7 ∨ rr = 1) := i3
    replace i4 : Vb = f_c2 V sy (f_c0 V to (Int.toNat (V (Int.toNat (V 0 3)) 7))) (Int.toNat (rr - 1)) := i4
    replace i5 : ∀ k : Nat, (k : Int) < V (Int.toNat (V 0 3)) 7 → 0 ≤ Vb 13 k ∧ Vb 13 k ≤ 1000 := i5
    replace hl : lv_has ls 5 [(3, .int (iZ rr)), (0, .ref (a 0)), (1, .int (iZ sy))] := hl
    have o13_Vb : ∀ g, g ≠ 13 → Vb g = V g := fun g hg => (by rw [i4, f_c2_o _ _ _ _ g hg]; exact f_c0_o _ _ _ g hg)
    have hI_Vb : cI Vb := cI_13 hI o13_Vb
    have hto_Vb : isTo (Int.toNat (Vb 0 3)) := hI_Vb.1
    have e7_Vb := f_cs_n hto o13_Vb
    refine lv_iload_n hx hb dX7_countShotsNeeded_39 rfl (lv_at hl 0 rfl) ?_
    refine lv_aload_n hx hb dX7_countShotsNeeded_40 rfl (lv_at hl 1 rfl) ?_
    refine kq_get (i := 0) hx hb hts hin_X7 hown hK hP (by decide) (cE_0 rfl) rfl 3 (by decide) (hts (.fieldLink RX7 29 "WordFletchers" "told" "LWordFletchers$Told;") (List.mem_cons_of_mem _ (List.mem_append_left _ (List.mem_append_left _ (List.mem_append_left _ (List.mem_append_left _ (List.mem_of_getElem? (i := 0) rfl))))))) rfl dX7_countShotsNeeded_41 ?_
    refine kq_get (i := (Int.toNat (Vb 0 3))) hx hb hts hin_X6 hown hK hP (isTo.l0 (by assumption)) (cE_15 (isTo.s0 (by assumption))) rfl 7 (by decide) (hts (.fieldLink RX7 298 "WordFletchers$Told" "people" "I") (List.mem_cons_of_mem _ (List.mem_append_left _ (List.mem_append_left _ (List.mem_append_left _ (List.mem_append_left _ (List.mem_of_getElem? (i := 1) rfl))))))) rfl dX7_countShotsNeeded_44 ?_
    refine z_icmp_ge (x := rr) (y := (Vb (Int.toNat (Vb 0 3)) 7)) (tgt := 107) hx hb (by omega) (by omega) dX7_countShotsNeeded_47 (by decide) (fun c6 => ?_) (fun c6 => ?_)
    · exact kq_retV hx hb hK hP hS hr (by unfold f_cs; rw [i4]; congr 1; omega) dX7_countShotsNeeded_107 hlocks
    · refine lv_iconst (v := iZ 0) hx hb dX7_countShotsNeeded_50 (by decide) ?_
      refine lv_istore (lv' := [(4, .int (iZ 0)), (3, .int (iZ rr)), (0, .ref (a 0)), (1, .int (iZ sy))]) hx hb dX7_countShotsNeeded_51 hl (by decide) rfl (fun ls hl => ?_)
      replace hl : lv_has ls 5 [(4, .int (iZ (0 : Int))), (3, .int (iZ rr)), (0, .ref (a 0)), (1, .int (iZ sy))] := lv_sub hl [0, 1, 2, 3] rfl
      replace hP := And.intro hP hS
      clear hS
      revert ls
      revert hP
      revert H locs
      refine z_loopH (σ := Int × (Nat → Nat → Int)) (fun x9 => (0 ≤ x9.1 ∧ x9.1 ≤ V (Int.toNat (V 0 3)) 7) ∧ (x9.2 = f_c1 V sy Vb (Int.toNat x9.1)) ∧ (∀ k : Nat, (k : Int) < V (Int.toNat (V 0 3)) 7 → 0 ≤ x9.2 13 k ∧ x9.2 13 k ≤ 1000)) (fun x9 H9 locs9 => va_P D vwCl (cW C a (x9.2)) H9 ∧ va_S (cA a) s.heap H9 locs9) (fun x9 => [(4, .int (iZ (x9.1))), (3, .int (iZ rr)), (0, .ref (a 0)), (1, .int (iZ sy))]) 5 (fun x9 => (V (Int.toNat (V 0 3)) 7 - x9.1).toNat) ((0 : Int), Vb) ⟨(by show 0 ≤ (0 : Int) ∧ (0 : Int) ≤ V (Int.toNat (V 0 3)) 7; omega), (by show Vb = f_c1 V sy Vb (Int.toNat (0 : Int)); rfl), (by show ∀ k : Nat, (k : Int) < V (Int.toNat (V 0 3)) 7 → 0 ≤ Vb 13 k ∧ Vb 13 k ≤ 1000; exact i5)⟩ ?_
      rintro ⟨jj, Vc⟩ hI9 ih53 H locs hPS ls hl
      have hP : va_P D vwCl (cW C a Vc) H := hPS.1
      have hS : va_S (cA a) s.heap H locs := hPS.2
      clear hPS
      have hD : va_D (cA a) (cW C a Vc) := cD_re hD
      obtain ⟨i6, i7, i8⟩ := hI9
      replace i6 : 0 ≤ jj ∧ jj ≤ V (Int.toNat (V 0 3)) 7 := i6
      replace i7 : Vc = f_c1 V sy Vb (Int.toNat jj) := i7
      replace i8 : ∀ k : Nat, (k : Int) < V (Int.toNat (V 0 3)) 7 → 0 ≤ Vc 13 k ∧ Vc 13 k ≤ 1000 := i8
      replace hl : lv_has ls 5 [(4, .int (iZ jj)), (3, .int (iZ rr)), (0, .ref (a 0)), (1, .int (iZ sy))] := hl
      have o13_Vc : ∀ g, g ≠ 13 → Vc g = V g := fun g hg => (by rw [i7, f_c1_o _ _ _ _ g hg]; exact o13_Vb g hg)
      have hI_Vc : cI Vc := cI_13 hI o13_Vc
      have hto_Vc : isTo (Int.toNat (Vc 0 3)) := hI_Vc.1
      have e7_Vc := f_cs_n hto o13_Vc
      have ok_Vc : c_13ok Vc := fun k hk => i8 k (by omega)
      have ewh := c_who_13 hto o13_Vc jj sy
      refine lv_iload hx hb dX7_countShotsNeeded_53 (lv_at hl 0 rfl) ?_
      refine lv_aload_n hx hb dX7_countShotsNeeded_55 rfl (lv_at hl 2 rfl) ?_
      refine kq_get (i := 0) hx hb hts hin_X7 hown hK hP (by decide) (cE_0 rfl) rfl 3 (by decide) (hts (.fieldLink RX7 29 "WordFletchers" "told" "LWordFletchers$Told;") (List.mem_cons_of_mem _ (List.mem_append_left _ (List.mem_append_left _ (List.mem_append_left _ (List.mem_append_left _ (List.mem_of_getElem? (i := 0) rfl))))))) rfl dX7_countShotsNeeded_56 ?_
      refine W.eq (g2 := F0 m 59 ls [.ref (a (Int.toNat (Vc 0 3))), .int (iZ jj)]) rfl ?_
      refine kq_get (i := (Int.toNat (Vc 0 3))) hx hb hts hin_X6 hown hK hP (isTo.l0 (by assumption)) (cE_15 (isTo.s0 (by assumption))) rfl 7 (by decide) (hts (.fieldLink RX7 298 "WordFletchers$Told" "people" "I") (List.mem_cons_of_mem _ (List.mem_append_left _ (List.mem_append_left _ (List.mem_append_left _ (List.mem_append_left _ (List.mem_of_getElem? (i := 1) rfl))))))) rfl dX7_countShotsNeeded_59 ?_
      refine z_icmp_ge (x := jj) (y := (Vc (Int.toNat (Vc 0 3)) 7)) (tgt := 101) hx hb (by omega) (by omega) dX7_countShotsNeeded_62 (by decide) (fun c10 => ?_) (fun c10 => ?_)
      · refine lv_iinc (v := iZ (rr + 1)) (lv' := [(3, .int (iZ (rr + 1))), (4, .int (iZ jj)), (0, .ref (a 0)), (1, .int (iZ sy))]) hx hb dX7_countShotsNeeded_101 hl (k := 1) rfl (iZ_add _ _) (by decide) rfl (fun ls hl => ?_)
        refine lv_goto (tgt := 39) hx hb dX7_countShotsNeeded_104 (by decide) ?_
        exact ih39 ((rr + 1), Vc) ⟨(by show 1 ≤ (rr + 1) ∧ ((rr + 1) ≤ V (Int.toNat (V 0 3)) 7 ∨ (rr + 1) = 1); omega), (by show Vc = f_c2 V sy (f_c0 V to (Int.toNat (V (Int.toNat (V 0 3)) 7))) (Int.toNat ((rr + 1) - 1)); have q : jj = V (Int.toNat (V 0 3)) 7 := (by omega); rw [f_c2_succ _ _ _ (by omega), ← i4, i7, q]), (by show ∀ k : Nat, (k : Int) < V (Int.toNat (V 0 3)) 7 → 0 ≤ Vc 13 k ∧ Vc 13 k ≤ 1000; assumption)⟩ (by show (V (Int.toNat (V 0 3)) 7 - (rr + 1)).toNat < (V (Int.toNat (V 0 3)) 7 - rr).toNat; omega) H locs ⟨hP, hS⟩ ls (lv_sub hl [0, 2, 3] rfl)
      · refine lv_aload_n hx hb dX7_countShotsNeeded_65 rfl (lv_at hl 2 rfl) ?_
        refine W.eq (g2 := F0 m 66 ls [.ref (a 0)]) rfl ?_
        refine kq_get (i := 0) hx hb hts hin_X7 hown hK hP (by decide) (cE_0 rfl) rfl 10 (by decide) (hts (.fieldLink RX7 70 "WordFletchers" "shotsNeeded" "[I") (List.mem_cons_of_mem _ (List.mem_append_left _ (List.mem_append_left _ (List.mem_append_left _ (List.mem_append_left _ (List.mem_of_getElem? (i := 2) rfl))))))) rfl dX7_countShotsNeeded_66 ?_
        refine lv_iload hx hb dX7_countShotsNeeded_69 (lv_at hl 0 rfl) ?_
        refine lv_aload_n hx hb dX7_countShotsNeeded_71 rfl (lv_at hl 2 rfl) ?_
        refine kq_get (i := 0) hx hb hts hin_X7 hown hK hP (by decide) (cE_0 rfl) rfl 10 (by decide) (hts (.fieldLink RX7 70 "WordFletchers" "shotsNeeded" "[I") (List.mem_cons_of_mem _ (List.mem_append_left _ (List.mem_append_left _ (List.mem_append_left _ (List.mem_append_left _ (List.mem_of_getElem? (i := 2) rfl))))))) rfl dX7_countShotsNeeded_72 ?_
        refine lv_iload hx hb dX7_countShotsNeeded_75 (lv_at hl 0 rfl) ?_
        refine kq_iald (i := 13) hx hb hK hP (by decide) (n := 6) (cE_13 rfl) (by decide) (Int.toNat jj) rfl (by omega) dX7_countShotsNeeded_77 ?_
        have h89 := i8 (Int.toNat jj) (by omega)
        refine lv_iconst (v := iZ 1) hx hb dX7_countShotsNeeded_78 (by decide) ?_
        refine lv_aload_n hx hb dX7_countShotsNeeded_79 rfl (lv_at hl 2 rfl) ?_
        refine lv_aload_n hx hb dX7_countShotsNeeded_80 rfl (lv_at hl 2 rfl) ?_
        refine lv_iload hx hb dX7_countShotsNeeded_81 (lv_at hl 0 rfl) ?_
        refine lv_iload_n hx hb dX7_countShotsNeeded_83 rfl (lv_at hl 3 rfl) ?_
        refine kq_ci (i := 0) (As := [.int (iZ jj), .int (iZ sy)]) (rest := [.ref (a 0), .int (iZ 1), .int (iZ (Vc 13 (Int.toNat jj))), .int (iZ jj), .ref (a 13)]) ⟨hx, hb, hml, hown, hts⟩ hK hP hN hS (by decide) (cE_0 rfl) rfl (K_X7_whoCanHear l D C a b Vc jj sy hI_Vc ⟨by omega, by omega⟩ (by rw [o13_Vc 0 (by decide), o13_Vc _ (by unfold isTo at hto; omega)]; exact h1)) (cwV 2 hts gX7_countShotsNeeded_X7_whoCanHear rfl rfl rfl (by decide +kernel) ⟨Nat.le_of_ble_eq_true rfl, Nat.le_of_ble_eq_true rfl⟩) rfl rfl hl.1 (Nat.le_of_ble_eq_true rfl) ⟨Nat.le_of_ble_eq_true rfl, Nat.le_of_ble_eq_true rfl⟩ dX7_countShotsNeeded_84 ?_
        have hwc := c_who_bd Vc jj sy (by omega)
        refine W.eq (g2 := F0 m 87 ls [.int (iZ (c_who Vc jj sy)), .ref (a 0), .int (iZ 1), .int (iZ (Vc 13 (Int.toNat jj))), .int (iZ jj), .ref (a 13)]) rfl ?_
        refine kq_ci (i := 0) (As := [.int (iZ (c_who Vc jj sy))]) (rest := [.int (iZ 1), .int (iZ (Vc 13 (Int.toNat jj))), .int (iZ jj), .ref (a 13)]) ⟨hx, hb, hml, hown, hts⟩ hK hP hN hS (by decide) (cE_0 rfl) rfl (K_X7_fewestNeeded l D C a b Vc (c_who Vc jj sy) hI_Vc (by omega) ok_Vc) (cwV 1 hts gX7_countShotsNeeded_X7_fewestNeeded rfl rfl rfl (by decide +kernel) ⟨Nat.le_of_ble_eq_true rfl, Nat.le_of_ble_eq_true rfl⟩) rfl rfl hl.1 (Nat.le_of_ble_eq_true rfl) ⟨Nat.le_of_ble_eq_true rfl, Nat.le_of_ble_eq_true rfl⟩ dX7_countShotsNeeded_87 ?_
        have hfb := c_fn_bd (by assumption : c_13ok Vc) (c_who Vc jj sy)
        refine z_iadd hx hb dX7_countShotsNeeded_90 ?_
        refine kq_min (x := (Vc 13 (Int.toNat jj))) (y := (1 + c_fnN (Vc 13) (c_who Vc jj sy) (Int.toNat (Vc (Int.toNat (Vc 0 3)) 7)))) hx hb (hml.trans hl.1.symm) hown (hts (.methodLink RX7 180 Lib.Math.min.name) (List.mem_cons_of_mem _ (List.mem_append_left _ (List.mem_append_left _ (List.mem_append_left _ (List.mem_append_left _ (List.mem_of_getElem? (i := 3) rfl))))))) (hts (.static Lib.Math.min.name) (List.mem_cons_of_mem _ (List.mem_append_left _ (List.mem_append_left _ (List.mem_append_left _ (List.mem_append_left _ (List.mem_of_getElem? (i := 4) rfl))))))) (hts (.initialized "java/lang/Math") (List.mem_cons_of_mem _ (List.mem_append_left _ (List.mem_append_left _ (List.mem_append_left _ (List.mem_append_left _ (List.mem_of_getElem? (i := 5) rfl))))))) (hts (.code Lib.Math.min.name Lib.Math.min.code 2 (some .int)) (List.mem_cons_of_mem _ (List.mem_append_left _ (List.mem_append_left _ (List.mem_append_left _ (List.mem_append_left _ (List.mem_of_getElem? (i := 6) rfl))))))) (Nat.le_of_ble_eq_true rfl) (Nat.le_of_ble_eq_true rfl) (Nat.le_of_ble_eq_true rfl) (Nat.le_of_ble_eq_true rfl) (by omega) (by omega) dX7_countShotsNeeded_91 ?_
        refine kq_iast (i := 13) hx hb hK hP hD hS (by decide) (n := 6) (cE_13 rfl) (by decide) (Int.toNat jj) rfl (by omega) dX7_countShotsNeeded_94 (fun H locs hP hD hS => ?_)
        obtain ⟨V12, hV12⟩ : ∃ z : Nat → Nat → Int, z = (mU Vc 13 (Int.toNat jj) (if (1 + c_fnN (Vc 13) (c_who Vc jj sy) (Int.toNat (Vc (Int.toNat (Vc 0 3)) 7))) < (Vc 13 (Int.toNat jj)) then (1 + c_fnN (Vc 13) (c_who Vc jj sy) (Int.toNat (Vc (Int.toNat (Vc 0 3)) 7))) else (Vc 13 (Int.toNat jj)))) := ⟨_, rfl⟩
        rw [← hV12] at hP hD
        refine lv_iinc (v := iZ (jj + 1)) (lv' := [(4, .int (iZ (jj + 1))), (3, .int (iZ rr)), (0, .ref (a 0)), (1, .int (iZ sy))]) hx hb dX7_countShotsNeeded_95 hl (k := 0) rfl (iZ_add _ _) (by decide) rfl (fun ls hl => ?_)
        refine lv_goto (tgt := 53) hx hb dX7_countShotsNeeded_98 (by decide) ?_
        exact ih53 ((jj + 1), V12) ⟨(by show 0 ≤ (jj + 1) ∧ (jj + 1) ≤ V (Int.toNat (V 0 3)) 7; omega), (by show V12 = f_c1 V sy Vb (Int.toNat (jj + 1)); rw [f_c1_succ _ _ _ (by omega), ← i7]; unfold c_up; rw [← ewh, ← e7_Vc]; subst_vars; rfl), (by show ∀ k : Nat, (k : Int) < V (Int.toNat (V 0 3)) 7 → 0 ≤ V12 13 k ∧ V12 13 k ≤ 1000; subst_vars; exact mU13_bd i8 _ (by omega))⟩ (by show (V (Int.toNat (V 0 3)) 7 - (jj + 1)).toNat < (V (Int.toNat (V 0 3)) 7 - jj).toNat; omega) H locs ⟨hP, hS⟩ ls (lv_sub hl [0, 1, 2, 3] rfl)
  · refine lv_aload_n hx hb dX7_countShotsNeeded_13 rfl (lv_at hl 1 rfl) ?_
    refine kq_get (i := 0) hx hb hts hin_X7 hown hK hP (by decide) (cE_0 rfl) rfl 10 (by decide) (hts (.fieldLink RX7 70 "WordFletchers" "shotsNeeded" "[I") (List.mem_cons_of_mem _ (List.mem_append_left _ (List.mem_append_left _ (List.mem_append_left _ (List.mem_append_left _ (List.mem_of_getElem? (i := 2) rfl))))))) rfl dX7_countShotsNeeded_14 ?_
    refine lv_iload_n hx hb dX7_countShotsNeeded_17 rfl (lv_at hl 0 rfl) ?_
    refine lv_iload_n hx hb dX7_countShotsNeeded_18 rfl (lv_at hl 0 rfl) ?_
    refine lv_iload_n hx hb dX7_countShotsNeeded_19 rfl (lv_at hl 3 rfl) ?_
    have K15 : ∀ (v14 : Int), (v14 = (if kk = to then 0 else 1000)) → ∀ ls : Array Slot, lv_has ls 5 [(3, .int (iZ kk)), (0, .ref (a 0)), (1, .int (iZ sy)), (2, .int (iZ to))] → W p l e ((headSpec wsX7_countShotsNeeded ({ frames := 6, cells := 0, slots := 0, locals := 136 })).room) s m (([.ref (a 0), .int (iZ sy), .int (iZ to)] : List Value).toArray) below meth c H locs 0 0 (MQ below (va_Qv (fun (_ : Unit) => True) (fun _ t => cPo D C a (f_cs V sy to) t) (cA a)) (([.ref (a 0), .int (iZ sy), .int (iZ to)] : List Value).toArray) s 0 0 (cA a)) (F0 m 30 ls [.int (iZ v14), .int (iZ kk), .ref (a 13)]) := by
      intro v14 hv14 ls hl
      refine kq_iast (i := 13) hx hb hK hP hD hS (by decide) (n := 6) (cE_13 rfl) (by decide) (Int.toNat kk) rfl (by omega) dX7_countShotsNeeded_30 (fun H locs hP hD hS => ?_)
      obtain ⟨V16, hV16⟩ : ∃ z : Nat → Nat → Int, z = (mU Va 13 (Int.toNat kk) v14) := ⟨_, rfl⟩
      rw [← hV16] at hP hD
      refine lv_iinc (v := iZ (kk + 1)) (lv' := [(3, .int (iZ (kk + 1))), (0, .ref (a 0)), (1, .int (iZ sy)), (2, .int (iZ to))]) hx hb dX7_countShotsNeeded_31 hl (k := 0) rfl (iZ_add _ _) (by decide) rfl (fun ls hl => ?_)
      refine lv_goto (tgt := 2) hx hb dX7_countShotsNeeded_34 (by decide) ?_
      exact ih2 ((kk + 1), V16) ⟨(by show 0 ≤ (kk + 1) ∧ (kk + 1) ≤ V (Int.toNat (V 0 3)) 7; omega), (by show V16 = f_c0 V to (Int.toNat (kk + 1)); rw [f_c0_succ _ _ (by omega), ← i2]; subst_vars; rfl)⟩ (by show (V (Int.toNat (V 0 3)) 7 - (kk + 1)).toNat < (V (Int.toNat (V 0 3)) 7 - kk).toNat; omega) H locs ⟨hP, hS⟩ ls (lv_sub hl [0, 1, 2, 3] rfl)
    refine z_icmp_ne (x := kk) (y := to) (tgt := 27) hx hb (by omega) (by omega) dX7_countShotsNeeded_20 (by decide) (fun c13 => ?_) (fun c13 => ?_)
    · refine W.eq (g2 := F0 m 27 ls [.int (iZ kk), .ref (a 13)]) rfl ?_
      refine lv_sipush (v := iZ 1000) hx hb dX7_countShotsNeeded_27 (by decide) ?_
      exact K15 1000 (by first | rfl | (rw [if_neg c13]; done) | omega | (subst_vars; first | rfl | (rw [if_neg c13]; done) | omega)) ls (lv_sub hl [0, 1, 2, 3] rfl)
    · refine lv_iconst (v := iZ 0) hx hb dX7_countShotsNeeded_23 (by decide) ?_
      refine lv_goto (tgt := 30) hx hb dX7_countShotsNeeded_24 (by decide) ?_
      exact K15 0 (by first | rfl | (rw [if_pos c13]; done) | omega | (subst_vars; first | rfl | (rw [if_pos c13]; done) | omega)) ls (lv_sub hl [0, 1, 2, 3] rfl)
set_option maxHeartbeats 20000000 in
set_option maxRecDepth 100000 in
theorem K_X7_firstOfRelay (l : Launch) (D : va_G) (C : cC) (a b : Nat → Nat) (V : Nat → Nat → Int) (sy : Int) (lf : Int) (wh : Int) (hI : cI V) (h1 : 0 ≤ sy ∧ sy < V (Int.toNat (V 0 3)) 8) (h2 : -1000 ≤ lf ∧ lf ≤ 1000) (h3 : c_13ok V) (h4 : -2147483648 ≤ wh ∧ wh < 2147483648) : Met l yX7_firstOfRelay wsX7_firstOfRelay ({ frames := 5, cells := 0, slots := 0, locals := 109 }) (va_Pc [.ref (a 0), .int (iZ sy), .int (iZ lf), .int (iZ wh)] (cOk D C a b V)) (vp_Si (fun r => r = iZ (c_fos V sy lf wh))) 0 0 (fun _ => False) := by
  refine Met.ofW (cc := cX7_firstOfRelay) (maxL := 9) (ret := (some .int)) (by decide) rfl ?_
  intro p e s m args below meth c s₁ B hml hv
  obtain ⟨rfl, hP, hK, hN⟩ := hv
  have hx := B.exec
  have hb := B.bytes
  have hr := B.returns
  have hts := atoms_spec (ws := wsX7_firstOfRelay) B.pre
  have hown : s.vm.findClass RX7 = some m.cls := findClass_of_methodNamed B.named
  have hlocks := B.notSynchronized
  have hin_X7 : ∀ w ∈ wsX70, w ∈ wsX7_firstOfRelay := fun _ w_h => (List.mem_cons_of_mem _ (List.mem_append_left _ (List.mem_append_left _ (List.mem_append_right _ w_h))))
  have hin_X6 : ∀ w ∈ wsX60, w ∈ wsX7_firstOfRelay := fun _ w_h => (List.mem_cons_of_mem _ (List.mem_append_left _ (List.mem_append_right _ w_h)))
  have hin_X2 : ∀ w ∈ wsX20, w ∈ wsX7_firstOfRelay := fun _ w_h => (List.mem_cons_of_mem _ (List.mem_append_right _ w_h))
  have hl := lv_entry ([.ref (a 0), .int (iZ sy), .int (iZ lf), .int (iZ wh)]) (n := 9) (Nat.le_of_ble_eq_true rfl)
  rw [lg_entry_eq]
  generalize (lg_sl ([.ref (a 0), .int (iZ sy), .int (iZ lf), .int (iZ wh)]) ++ List.replicate (9 - (lg_sl ([.ref (a 0), .int (iZ sy), .int (iZ lf), .int (iZ wh)])).length) Slot.unset).toArray = ls at hl ⊢
  replace hl : lv_has ls 9 [(0, .ref (a 0)), (1, .int (iZ sy)), (2, .int (iZ lf)), (3, .int (iZ wh))] := hl
  have hS : va_S (cA a) s.heap s.heap [] := va_S.rf
  obtain ⟨hto, hto4, hne, htx, hT, hM, hpa, hpi, hki, hsz, hsg, hby⟩ := id hI
  have hnt := hT.now
  have hnm := hM.now
  refine lv_iconst (v := iZ 0) hx hb dX7_firstOfRelay_0 (by decide) ?_
  refine lv_istore (lv' := [(4, .int (iZ 0)), (0, .ref (a 0)), (1, .int (iZ sy)), (2, .int (iZ lf)), (3, .int (iZ wh))]) hx hb dX7_firstOfRelay_1 hl (by decide) rfl (fun ls hl => ?_)
  replace hl : lv_has ls 9 [(4, .int (iZ (0 : Int))), (0, .ref (a 0)), (1, .int (iZ sy)), (2, .int (iZ lf)), (3, .int (iZ wh))] := lv_sub hl [0, 1, 2, 3, 4] rfl
  revert ls
  refine z_loop (σ := Int) (fun x9 => (0 ≤ x9 ∧ x9 ≤ V (Int.toNat (V 0 3)) 7) ∧ (c_fp V sy lf = zfind (fun q => decide (V 41 (Int.toNat q) / zp sy % 2 = 1 ∧ ¬ c_fs V sy lf q = -9)) (Int.toNat (V (Int.toNat (V 0 3)) 7 - x9)) x9)) (fun x9 => [(4, .int (iZ x9)), (0, .ref (a 0)), (1, .int (iZ sy)), (2, .int (iZ lf)), (3, .int (iZ wh))]) 9 (fun x9 => (V (Int.toNat (V 0 3)) 7 - x9).toNat) (0 : Int) ⟨(by show 0 ≤ (0 : Int) ∧ (0 : Int) ≤ V (Int.toNat (V 0 3)) 7; omega), (by show c_fp V sy lf = zfind (fun q => decide (V 41 (Int.toNat q) / zp sy % 2 = 1 ∧ ¬ c_fs V sy lf q = -9)) (Int.toNat (V (Int.toNat (V 0 3)) 7 - (0 : Int))) (0 : Int); rfl)⟩ ?_
  rintro kk hI9 ih3 ls hl
  obtain ⟨i1, i2⟩ := hI9
  replace i1 : 0 ≤ kk ∧ kk ≤ V (Int.toNat (V 0 3)) 7 := i1
  replace i2 : c_fp V sy lf = zfind (fun q => decide (V 41 (Int.toNat q) / zp sy % 2 = 1 ∧ ¬ c_fs V sy lf q = -9)) (Int.toNat (V (Int.toNat (V 0 3)) 7 - kk)) kk := i2
  replace hl : lv_has ls 9 [(4, .int (iZ kk)), (0, .ref (a 0)), (1, .int (iZ sy)), (2, .int (iZ lf)), (3, .int (iZ wh))] := hl
  refine lv_iload hx hb dX7_firstOfRelay_3 (lv_at hl 0 rfl) ?_
  refine lv_aload_n hx hb dX7_firstOfRelay_5 rfl (lv_at hl 1 rfl) ?_
  refine kq_get (i := 0) hx hb hts hin_X7 hown hK hP (by decide) (cE_0 rfl) rfl 3 (by decide) (hts (.fieldLink RX7 29 "WordFletchers" "told" "LWordFletchers$Told;") (List.mem_cons_of_mem _ (List.mem_append_left _ (List.mem_append_left _ (List.mem_append_left _ (List.mem_append_left _ (List.mem_of_getElem? (i := 0) rfl))))))) rfl dX7_firstOfRelay_6 ?_
  refine kq_get (i := (Int.toNat (V 0 3))) hx hb hts hin_X6 hown hK hP (isTo.l0 (by assumption)) (cE_15 (isTo.s0 (by assumption))) rfl 7 (by decide) (hts (.fieldLink RX7 298 "WordFletchers$Told" "people" "I") (List.mem_cons_of_mem _ (List.mem_append_left _ (List.mem_append_left _ (List.mem_append_left _ (List.mem_append_left _ (List.mem_of_getElem? (i := 1) rfl))))))) rfl dX7_firstOfRelay_9 ?_
  refine W.eq (g2 := F0 m 12 ls [.int (iZ (V (Int.toNat (V 0 3)) 7)), .int (iZ kk)]) rfl ?_
  refine z_icmp_ge (x := kk) (y := (V (Int.toNat (V 0 3)) 7)) (tgt := 109) hx hb (by omega) (by omega) dX7_firstOfRelay_12 (by decide) (fun c1 => ?_) (fun c1 => ?_)
  · refine lv_bipush (v := iZ (-9)) hx hb dX7_firstOfRelay_109 (by decide) ?_
    exact mq_ret hx hb hr rfl (by first | (refine Eq.trans ?_ (c_fos_at i2 ⟨by omega, by omega⟩ (by assumption) i4 ⟨by omega, by omega⟩ (by assumption)).symm; first | exact (if_pos (by omega)).symm | exact (if_neg (by omega)).symm) | (unfold c_fos; rw [if_pos (by rw [i2, show Int.toNat (V (Int.toNat (V 0 3)) 7 - kk) = 0 by omega]; rfl)])) dX7_firstOfRelay_111 hlocks rfl
  · refine lv_aload_n hx hb dX7_firstOfRelay_15 rfl (lv_at hl 1 rfl) ?_
    refine kq_get (i := 0) hx hb hts hin_X7 hown hK hP (by decide) (cE_0 rfl) rfl 5 (by decide) (hts (.fieldLink RX7 39 "WordFletchers" "moment" "LWordFletchers$Moment;") (List.mem_cons_of_mem _ (List.mem_append_left _ (List.mem_append_left _ (List.mem_append_left _ (List.mem_append_left _ (List.mem_of_getElem? (i := 2) rfl))))))) rfl dX7_firstOfRelay_16 ?_
    refine lv_iload hx hb dX7_firstOfRelay_19 (lv_at hl 0 rfl) ?_
    refine lv_iload_n hx hb dX7_firstOfRelay_21 rfl (lv_at hl 2 rfl) ?_
    refine kq_ci (i := 39) (As := [.int (iZ kk), .int (iZ sy)]) (rest := []) ⟨hx, hb, hml, hown, hts⟩ hK hP hN hS (isMo.l0 isMo_39) (cE_26 (isMo.s0 isMo_39)) rfl (K_X2_isKnown l D C a b V 39 isMo_39 kk sy (by assumption) (by omega) (by omega)) (cwV 2 hts gX7_firstOfRelay_X2_isKnown rfl rfl rfl (by decide +kernel) ⟨Nat.le_of_ble_eq_true rfl, Nat.le_of_ble_eq_true rfl⟩) rfl rfl hl.1 (Nat.le_of_ble_eq_true rfl) ⟨Nat.le_of_ble_eq_true rfl, Nat.le_of_ble_eq_true rfl⟩ dX7_firstOfRelay_22 ?_
    refine z_ifb_ne (P := (V 41 (Int.toNat kk) / zp sy % 2 = 1)) (tgt := 31) hx hb dX7_firstOfRelay_25 (by decide) (fun c2 => ?_) (fun c2 => ?_)
    · refine va_gets hx hb hN.2.2.2.2.1 hS hown (hts (.fieldLink RX7 307 "WordFletchers" "SHOTS_BY_KIND" "[I") (List.mem_cons_of_mem _ (List.mem_append_left _ (List.mem_append_left _ (List.mem_append_left _ (List.mem_append_left _ (List.mem_of_getElem? (i := 3) rfl))))))) (fun _ h9 => h9) dX7_firstOfRelay_31 ?_
      refine lv_astore (lv' := [(5, .ref (b 1)), (4, .int (iZ kk)), (0, .ref (a 0)), (1, .int (iZ sy)), (2, .int (iZ lf)), (3, .int (iZ wh))]) hx hb dX7_firstOfRelay_34 hl (by decide) rfl (fun ls hl => ?_)
      refine lv_aload hx hb dX7_firstOfRelay_36 (lv_at hl 0 rfl) ?_
      refine W.eq (g2 := F0 m 38 ls [.ref (b 1)]) rfl ?_
      refine kq_slen (d := 1) (n := 26) (f := cKin) hx hb hN.2.2.2.2.2.2.2.1 (hN.2.2.2.2.2.2.2.2.2.1 1 (by decide)) hS dX7_firstOfRelay_38 ?_
      refine lv_istore (lv' := [(6, .int (iZ 26)), (5, .ref (b 1)), (4, .int (iZ kk)), (0, .ref (a 0)), (1, .int (iZ sy)), (2, .int (iZ lf)), (3, .int (iZ wh))]) hx hb dX7_firstOfRelay_39 hl (by decide) rfl (fun ls hl => ?_)
      refine lv_iconst (v := iZ 0) hx hb dX7_firstOfRelay_41 (by decide) ?_
      refine lv_istore (lv' := [(7, .int (iZ 0)), (6, .int (iZ 26)), (5, .ref (b 1)), (4, .int (iZ kk)), (0, .ref (a 0)), (1, .int (iZ sy)), (2, .int (iZ lf)), (3, .int (iZ wh))]) hx hb dX7_firstOfRelay_42 hl (by decide) rfl (fun ls hl => ?_)
      replace hl : lv_has ls 9 [(7, .int (iZ (0 : Int))), (6, .int (iZ 26)), (5, .ref (b 1)), (4, .int (iZ kk)), (0, .ref (a 0)), (1, .int (iZ sy)), (2, .int (iZ lf)), (3, .int (iZ wh))] := lv_sub hl [0, 1, 2, 3, 4, 5, 6, 7] rfl
      revert ls
      refine z_loop (σ := Int) (fun x9 => (0 ≤ x9 ∧ x9 ≤ 26) ∧ (c_fs V sy lf kk = zfind (fun q => decide (c_fnN (V 13) (c_heN V kk (c_la V kk sy (cKin (Int.toNat q)) (c_wind V 0))) (Int.toNat (V (Int.toNat (V 0 3)) 7)) = lf)) (Int.toNat (26 - x9)) x9)) (fun x9 => [(7, .int (iZ x9)), (6, .int (iZ 26)), (5, .ref (b 1)), (4, .int (iZ kk)), (0, .ref (a 0)), (1, .int (iZ sy)), (2, .int (iZ lf)), (3, .int (iZ wh))]) 9 (fun x9 => (26 - x9).toNat) (0 : Int) ⟨(by show 0 ≤ (0 : Int) ∧ (0 : Int) ≤ 26; omega), (by show c_fs V sy lf kk = zfind (fun q => decide (c_fnN (V 13) (c_heN V kk (c_la V kk sy (cKin (Int.toNat q)) (c_wind V 0))) (Int.toNat (V (Int.toNat (V 0 3)) 7)) = lf)) (Int.toNat (26 - (0 : Int))) (0 : Int); rfl)⟩ ?_
      rintro qq hI9 ih44 ls hl
      obtain ⟨i3, i4⟩ := hI9
      replace i3 : 0 ≤ qq ∧ qq ≤ 26 := i3
      replace i4 : c_fs V sy lf kk = zfind (fun q => decide (c_fnN (V 13) (c_heN V kk (c_la V kk sy (cKin (Int.toNat q)) (c_wind V 0))) (Int.toNat (V (Int.toNat (V 0 3)) 7)) = lf)) (Int.toNat (26 - qq)) qq := i4
      replace hl : lv_has ls 9 [(7, .int (iZ qq)), (6, .int (iZ 26)), (5, .ref (b 1)), (4, .int (iZ kk)), (0, .ref (a 0)), (1, .int (iZ sy)), (2, .int (iZ lf)), (3, .int (iZ wh))] := hl
      have hkn := cKin_ok (k := qq)
      refine lv_iload hx hb dX7_firstOfRelay_44 (lv_at hl 0 rfl) ?_
      refine lv_iload hx hb dX7_firstOfRelay_46 (lv_at hl 1 rfl) ?_
      refine z_icmp_ge (x := qq) (y := 26) (tgt := 103) hx hb (by omega) (by omega) dX7_firstOfRelay_48 (by decide) (fun c3 => ?_) (fun c3 => ?_)
      · refine lv_iinc (v := iZ (kk + 1)) (lv' := [(4, .int (iZ (kk + 1))), (7, .int (iZ qq)), (6, .int (iZ 26)), (5, .ref (b 1)), (0, .ref (a 0)), (1, .int (iZ sy)), (2, .int (iZ lf)), (3, .int (iZ wh))]) hx hb dX7_firstOfRelay_103 hl (k := 3) rfl (iZ_add _ _) (by decide) rfl (fun ls hl => ?_)
        refine lv_goto (tgt := 3) hx hb dX7_firstOfRelay_106 (by decide) ?_
        exact ih3 (kk + 1) ⟨(by show 0 ≤ (kk + 1) ∧ (kk + 1) ≤ V (Int.toNat (V 0 3)) 7; omega), (by show c_fp V sy lf = zfind (fun q => decide (V 41 (Int.toNat q) / zp sy % 2 = 1 ∧ ¬ c_fs V sy lf q = -9)) (Int.toNat (V (Int.toNat (V 0 3)) 7 - (kk + 1))) (kk + 1); rw [i2, zfind_step _ _ _ (by omega)]; first | exact if_neg (fun h9 => absurd (of_decide_eq_true h9).1 (by assumption)) | exact if_neg (fun h9 => (of_decide_eq_true h9).2 (c_fs_no i4 (by omega))))⟩ (by show (V (Int.toNat (V 0 3)) 7 - (kk + 1)).toNat < (V (Int.toNat (V 0 3)) 7 - kk).toNat; omega) ls (lv_sub hl [0, 4, 5, 6, 7] rfl)
      · refine lv_aload hx hb dX7_firstOfRelay_51 (lv_at hl 2 rfl) ?_
        refine lv_iload hx hb dX7_firstOfRelay_53 (lv_at hl 0 rfl) ?_
        refine kq_sald (d := 1) (n := 26) (f := cKin) hx hb hN.2.2.2.2.2.2.2.1 (hN.2.2.2.2.2.2.2.2.2.1 1 (by decide)) hS (by decide) (Int.toNat qq) rfl (by omega) dX7_firstOfRelay_55 ?_
        have hkn9 := hkn ⟨by omega, by omega⟩
        refine W.eq (g2 := F0 m 56 ls [.int (iZ (cKin (Int.toNat qq)))]) rfl ?_
        refine lv_istore (lv' := [(8, .int (iZ (cKin (Int.toNat qq)))), (7, .int (iZ qq)), (6, .int (iZ 26)), (5, .ref (b 1)), (4, .int (iZ kk)), (0, .ref (a 0)), (1, .int (iZ sy)), (2, .int (iZ lf)), (3, .int (iZ wh))]) hx hb dX7_firstOfRelay_56 hl (by decide) rfl (fun ls hl => ?_)
        refine lv_aload_n hx hb dX7_firstOfRelay_58 rfl (lv_at hl 5 rfl) ?_
        refine lv_aload_n hx hb dX7_firstOfRelay_59 rfl (lv_at hl 5 rfl) ?_
        refine kq_get (i := 0) hx hb hts hin_X7 hown hK hP (by decide) (cE_0 rfl) rfl 3 (by decide) (hts (.fieldLink RX7 29 "WordFletchers" "told" "LWordFletchers$Told;") (List.mem_cons_of_mem _ (List.mem_append_left _ (List.mem_append_left _ (List.mem_append_left _ (List.mem_append_left _ (List.mem_of_getElem? (i := 0) rfl))))))) rfl dX7_firstOfRelay_60 ?_
        refine lv_iload hx hb dX7_firstOfRelay_63 (lv_at hl 4 rfl) ?_
        refine lv_aload_n hx hb dX7_firstOfRelay_65 rfl (lv_at hl 5 rfl) ?_
        refine lv_iload hx hb dX7_firstOfRelay_66 (lv_at hl 4 rfl) ?_
        refine lv_iload_n hx hb dX7_firstOfRelay_68 rfl (lv_at hl 6 rfl) ?_
        refine lv_iload hx hb dX7_firstOfRelay_69 (lv_at hl 0 rfl) ?_
        refine kq_ci (i := 0) (As := [.int (iZ kk), .int (iZ sy), .int (iZ (cKin (Int.toNat qq)))]) (rest := [.int (iZ kk), .ref (a (Int.toNat (V 0 3))), .ref (a 0)]) ⟨hx, hb, hml, hown, hts⟩ hK hP hN hS (by decide) (cE_0 rfl) rfl (K_X7_landingNow l D C a b V kk sy (cKin (Int.toNat qq)) hI (by omega) (by omega) (by omega) (by omega)) (cwV 3 hts gX7_firstOfRelay_X7_landingNow rfl rfl rfl (by decide +kernel) ⟨Nat.le_of_ble_eq_true rfl, Nat.le_of_ble_eq_true rfl⟩) rfl rfl hl.1 (Nat.le_of_ble_eq_true rfl) ⟨Nat.le_of_ble_eq_true rfl, Nat.le_of_ble_eq_true rfl⟩ dX7_firstOfRelay_71 ?_
        have hcl := c_la_bd V kk sy (cKin (Int.toNat qq)) (c_wind V 0)
        have hco := c_la_or V kk sy (cKin (Int.toNat qq)) (c_wind V 0)
        refine kq_ci (i := (Int.toNat (V 0 3))) (As := [.int (iZ kk), .int (iZ (c_la V kk sy (cKin (Int.toNat qq)) (c_wind V 0)))]) (rest := [.ref (a 0)]) ⟨hx, hb, hml, hown, hts⟩ hK hP hN hS (isTo.l0 (by assumption)) (cE_15 (isTo.s0 (by assumption))) rfl (K_X6_hearers l D C a b V (Int.toNat (V 0 3)) (by assumption) kk (c_la V kk sy (cKin (Int.toNat qq)) (c_wind V 0)) (by assumption) (by omega) (by omega)) (cwV 2 hts gX7_firstOfRelay_X6_hearers rfl rfl rfl (by decide +kernel) ⟨Nat.le_of_ble_eq_true rfl, Nat.le_of_ble_eq_true rfl⟩) rfl rfl hl.1 (Nat.le_of_ble_eq_true rfl) ⟨Nat.le_of_ble_eq_true rfl, Nat.le_of_ble_eq_true rfl⟩ dX7_firstOfRelay_74 ?_
        have hhe9 := s_heN_bd (V ((Int.toNat (V 0 3)) + 1)) (V ((Int.toNat (V 0 3)) + 2)) (c_la V kk sy (cKin (Int.toNat qq)) (c_wind V 0)) kk (Int.toNat (V (Int.toNat (V 0 3)) 7)) 6 (by omega)
        refine kq_ci (i := 0) (As := [.int (iZ (s_heN (V ((Int.toNat (V 0 3)) + 1)) (V ((Int.toNat (V 0 3)) + 2)) (c_la V kk sy (cKin (Int.toNat qq)) (c_wind V 0)) kk (Int.toNat (V (Int.toNat (V 0 3)) 7))))]) (rest := []) ⟨hx, hb, hml, hown, hts⟩ hK hP hN hS (by decide) (cE_0 rfl) rfl (K_X7_fewestNeeded l D C a b V (s_heN (V ((Int.toNat (V 0 3)) + 1)) (V ((Int.toNat (V 0 3)) + 2)) (c_la V kk sy (cKin (Int.toNat qq)) (c_wind V 0)) kk (Int.toNat (V (Int.toNat (V 0 3)) 7))) hI (by omega) (by assumption)) (cwV 1 hts gX7_firstOfRelay_X7_fewestNeeded rfl rfl rfl (by decide +kernel) ⟨Nat.le_of_ble_eq_true rfl, Nat.le_of_ble_eq_true rfl⟩) rfl rfl hl.1 (Nat.le_of_ble_eq_true rfl) ⟨Nat.le_of_ble_eq_true rfl, Nat.le_of_ble_eq_true rfl⟩ dX7_firstOfRelay_77 ?_
        have hfb := c_fn_bd (by assumption : c_13ok V) (s_heN (V ((Int.toNat (V 0 3)) + 1)) (V ((Int.toNat (V 0 3)) + 2)) (c_la V kk sy (cKin (Int.toNat qq)) (c_wind V 0)) kk (Int.toNat (V (Int.toNat (V 0 3)) 7)))
        refine W.eq (g2 := F0 m 80 ls [.int (iZ (c_fnN (V 13) (s_heN (V ((Int.toNat (V 0 3)) + 1)) (V ((Int.toNat (V 0 3)) + 2)) (c_la V kk sy (cKin (Int.toNat qq)) (c_wind V 0)) kk (Int.toNat (V (Int.toNat (V 0 3)) 7))) (Int.toNat (V (Int.toNat (V 0 3)) 7))))]) rfl ?_
        refine lv_iload_n hx hb dX7_firstOfRelay_80 rfl (lv_at hl 7 rfl) ?_
        refine z_icmp_ne (x := c_fnN (V 13) (s_heN (V ((Int.toNat (V 0 3)) + 1)) (V ((Int.toNat (V 0 3)) + 2)) (c_la V kk sy (cKin (Int.toNat qq)) (c_wind V 0)) kk (Int.toNat (V (Int.toNat (V 0 3)) 7))) (Int.toNat (V (Int.toNat (V 0 3)) 7))) (y := lf) (tgt := 97) hx hb (by omega) (by omega) dX7_firstOfRelay_81 (by decide) (fun c4 => ?_) (fun c4 => ?_)
        · refine lv_iinc (v := iZ (qq + 1)) (lv' := [(7, .int (iZ (qq + 1))), (8, .int (iZ (cKin (Int.toNat qq)))), (6, .int (iZ 26)), (5, .ref (b 1)), (4, .int (iZ kk)), (0, .ref (a 0)), (1, .int (iZ sy)), (2, .int (iZ lf)), (3, .int (iZ wh))]) hx hb dX7_firstOfRelay_97 hl (k := 1) rfl (iZ_add _ _) (by decide) rfl (fun ls hl => ?_)
          refine lv_goto (tgt := 44) hx hb dX7_firstOfRelay_100 (by decide) ?_
          exact ih44 (qq + 1) ⟨(by show 0 ≤ (qq + 1) ∧ (qq + 1) ≤ 26; omega), (by show c_fs V sy lf kk = zfind (fun q => decide (c_fnN (V 13) (c_heN V kk (c_la V kk sy (cKin (Int.toNat q)) (c_wind V 0))) (Int.toNat (V (Int.toNat (V 0 3)) 7)) = lf)) (Int.toNat (26 - (qq + 1))) (qq + 1); rw [i4, zfind_step _ 26 _ (by omega)]; exact if_neg (fun h9 => absurd (of_decide_eq_true h9) (by assumption)))⟩ (by show (26 - (qq + 1)).toNat < (26 - qq).toNat; omega) ls (lv_sub hl [0, 2, 3, 4, 5, 6, 7, 8] rfl)
        · refine lv_iload_n hx hb dX7_firstOfRelay_84 rfl (lv_at hl 8 rfl) ?_
          refine lv_iconst (v := iZ 1) hx hb dX7_firstOfRelay_85 (by decide) ?_
          refine z_icmp_ne (x := wh) (y := 1) (tgt := 94) hx hb (by omega) (by omega) dX7_firstOfRelay_86 (by decide) (fun c5 => ?_) (fun c5 => ?_)
          · refine lv_iload hx hb dX7_firstOfRelay_94 (lv_at hl 0 rfl) ?_
            exact mq_ret hx hb hr rfl (by first | (refine Eq.trans ?_ (c_fos_at i2 ⟨by omega, by omega⟩ (by assumption) i4 ⟨by omega, by omega⟩ (by assumption)).symm; first | exact (if_pos (by omega)).symm | exact (if_neg (by omega)).symm) | (unfold c_fos; rw [if_pos (by rw [i2, show Int.toNat (V (Int.toNat (V 0 3)) 7 - kk) = 0 by omega]; rfl)])) dX7_firstOfRelay_96 hlocks rfl
          · refine lv_iload hx hb dX7_firstOfRelay_89 (lv_at hl 4 rfl) ?_
            refine lv_goto (tgt := 96) hx hb dX7_firstOfRelay_91 (by decide) ?_
            exact mq_ret hx hb hr rfl (by first | (refine Eq.trans ?_ (c_fos_at i2 ⟨by omega, by omega⟩ (by assumption) i4 ⟨by omega, by omega⟩ (by assumption)).symm; first | exact (if_pos (by omega)).symm | exact (if_neg (by omega)).symm) | (unfold c_fos; rw [if_pos (by rw [i2, show Int.toNat (V (Int.toNat (V 0 3)) 7 - kk) = 0 by omega]; rfl)])) dX7_firstOfRelay_96 hlocks rfl
    · refine W.eq (g2 := F0 m 28 ls []) rfl ?_
      refine lv_goto (tgt := 103) hx hb dX7_firstOfRelay_28 (by decide) ?_
      refine lv_iinc (v := iZ (kk + 1)) (lv' := [(4, .int (iZ (kk + 1))), (0, .ref (a 0)), (1, .int (iZ sy)), (2, .int (iZ lf)), (3, .int (iZ wh))]) hx hb dX7_firstOfRelay_103 hl (k := 0) rfl (iZ_add _ _) (by decide) rfl (fun ls hl => ?_)
      refine lv_goto (tgt := 3) hx hb dX7_firstOfRelay_106 (by decide) ?_
      exact ih3 (kk + 1) ⟨(by show 0 ≤ (kk + 1) ∧ (kk + 1) ≤ V (Int.toNat (V 0 3)) 7; omega), (by show c_fp V sy lf = zfind (fun q => decide (V 41 (Int.toNat q) / zp sy % 2 = 1 ∧ ¬ c_fs V sy lf q = -9)) (Int.toNat (V (Int.toNat (V 0 3)) 7 - (kk + 1))) (kk + 1); rw [i2, zfind_step _ _ _ (by omega)]; first | exact if_neg (fun h9 => absurd (of_decide_eq_true h9).1 (by assumption)) | exact if_neg (fun h9 => (of_decide_eq_true h9).2 (c_fs_no i4 (by omega))))⟩ (by show (V (Int.toNat (V 0 3)) 7 - (kk + 1)).toNat < (V (Int.toNat (V 0 3)) 7 - kk).toNat; omega) ls (lv_sub hl [0, 1, 2, 3, 4] rfl)
set_option maxHeartbeats 20000000 in
set_option maxRecDepth 100000 in
theorem K_X7_relay (l : Launch) (D : va_G) (C : cC) (a b : Nat → Nat) (V : Nat → Nat → Int) (sy : Int) (to : Int) (wh : Int) (hI : cI V) (h0 : -2147483648 ≤ sy ∧ sy < 2147483648) (h1 : -2147483648 ≤ to ∧ to < 2147483648) (h2 : -2147483648 ≤ wh ∧ wh < 2147483648) (hDD : va_D (fun _ => True) (cW C a V)) : Met l yX7_relay wsX7_relay ({ frames := 7, cells := 0, slots := 0, locals := 160 }) (va_Pc [.ref (a 0), .int (iZ sy), .int (iZ to), .int (iZ wh)] (cOk D C a b V)) (va_Qi (fun r (_ : Unit) => r = iZ (c_relay V sy to wh)) (fun _ t => cPo D C a (if c_rok V sy to wh then f_cs V sy to else V) t) (cA a)) 0 0 (cA a) := by
  refine Met.ofW (cc := cX7_relay) (maxL := 5) (ret := (some .int)) (by decide) rfl ?_
  intro p e s m args below meth c s₁ B hml hv
  obtain ⟨rfl, hP, hK, hN⟩ := hv
  have hx := B.exec
  have hb := B.bytes
  have hr := B.returns
  have hts := atoms_spec (ws := wsX7_relay) B.pre
  have hown : s.vm.findClass RX7 = some m.cls := findClass_of_methodNamed B.named
  have hlocks := B.notSynchronized
  have hin_X7 : ∀ w ∈ wsX70, w ∈ wsX7_relay := fun _ w_h => (List.mem_cons_of_mem _ (List.mem_append_left _ (List.mem_append_left _ (List.mem_append_right _ w_h))))
  have hin_X6 : ∀ w ∈ wsX60, w ∈ wsX7_relay := fun _ w_h => (List.mem_cons_of_mem _ (List.mem_append_left _ (List.mem_append_right _ w_h)))
  have hin_X2 : ∀ w ∈ wsX20, w ∈ wsX7_relay := fun _ w_h => (List.mem_cons_of_mem _ (List.mem_append_right _ w_h))
  have hl := lv_entry ([.ref (a 0), .int (iZ sy), .int (iZ to), .int (iZ wh)]) (n := 5) (Nat.le_of_ble_eq_true rfl)
  rw [lg_entry_eq]
  generalize (lg_sl ([.ref (a 0), .int (iZ sy), .int (iZ to), .int (iZ wh)]) ++ List.replicate (5 - (lg_sl ([.ref (a 0), .int (iZ sy), .int (iZ to), .int (iZ wh)])).length) Slot.unset).toArray = ls at hl ⊢
  replace hl : lv_has ls 5 [(0, .ref (a 0)), (1, .int (iZ sy)), (2, .int (iZ to)), (3, .int (iZ wh))] := hl
  have hD : va_D (cA a) (cW C a V) := cD_own hDD
  generalize hHe : s.heap = H at hP ⊢
  have hS : va_S (cA a) s.heap H [] := by rw [hHe]; exact va_S.rf
  generalize hlo : ([] : List Loc) = locs at hS ⊢
  clear hHe hlo
  obtain ⟨hto, hto4, hne, htx, hT, hM, hpa, hpi, hki, hsz, hsg, hby⟩ := id hI
  have hnt := hT.now
  have hnm := hM.now
  refine lv_aload_n hx hb dX7_relay_0 rfl (lv_at hl 0 rfl) ?_
  refine kq_get (i := 0) hx hb hts hin_X7 hown hK hP (by decide) (cE_0 rfl) rfl 3 (by decide) (hts (.fieldLink RX7 29 "WordFletchers" "told" "LWordFletchers$Told;") (List.mem_cons_of_mem _ (List.mem_append_left _ (List.mem_append_left _ (List.mem_append_left _ (List.mem_append_left _ (List.mem_of_getElem? (i := 0) rfl))))))) rfl dX7_relay_1 ?_
  refine lv_iload_n hx hb dX7_relay_4 rfl (lv_at hl 1 rfl) ?_
  refine kq_ci (i := (Int.toNat (V 0 3))) (As := [.int (iZ sy)]) (rest := []) ⟨hx, hb, hml, hown, hts⟩ hK hP hN hS (isTo.l0 (by assumption)) (cE_15 (isTo.s0 (by assumption))) rfl (K_X6_hasSaying l D C a b V (Int.toNat (V 0 3)) (by assumption) sy (by omega) (by omega)) (cwV 1 hts gX7_relay_X6_hasSaying rfl rfl rfl (by decide +kernel) ⟨Nat.le_of_ble_eq_true rfl, Nat.le_of_ble_eq_true rfl⟩) rfl rfl hl.1 (Nat.le_of_ble_eq_true rfl) ⟨Nat.le_of_ble_eq_true rfl, Nat.le_of_ble_eq_true rfl⟩ dX7_relay_5 ?_
  refine z_ifb_eq (P := (0 ≤ sy ∧ sy < V (Int.toNat (V 0 3)) 8)) (tgt := 31) hx hb dX7_relay_8 (by decide) (fun c1 => ?_) (fun c1 => ?_)
  · refine lv_iconst (v := iZ (-1)) hx hb dX7_relay_31 (by decide) ?_
    exact kq_retM hx hb hK hP hS hr rfl (by unfold c_relay; first | exact (if_neg (by omega)).symm | (rw [if_pos hok, ← hnd2, ← hr1]; unfold c_rl; subst_vars; first | exact (if_pos (by omega)).symm | (refine Eq.trans ?_ (if_neg (by omega)).symm; first | exact (if_pos (by omega)).symm | (refine Eq.trans ?_ (if_neg (by omega)).symm; first | exact (if_pos (by omega)).symm | exact (if_neg (by omega)).symm)))) (by first | exact (if_neg (by omega)).symm | (refine Eq.trans ?_ (if_pos hok).symm; exact hr1)) dX7_relay_32 hlocks
  · refine lv_aload_n hx hb dX7_relay_11 rfl (lv_at hl 0 rfl) ?_
    refine kq_get (i := 0) hx hb hts hin_X7 hown hK hP (by decide) (cE_0 rfl) rfl 3 (by decide) (hts (.fieldLink RX7 29 "WordFletchers" "told" "LWordFletchers$Told;") (List.mem_cons_of_mem _ (List.mem_append_left _ (List.mem_append_left _ (List.mem_append_left _ (List.mem_append_left _ (List.mem_of_getElem? (i := 0) rfl))))))) rfl dX7_relay_12 ?_
    refine W.eq (g2 := F0 m 15 ls [.ref (a (Int.toNat (V 0 3)))]) rfl ?_
    refine lv_iload_n hx hb dX7_relay_15 rfl (lv_at hl 2 rfl) ?_
    refine kq_ci (i := (Int.toNat (V 0 3))) (As := [.int (iZ to)]) (rest := []) ⟨hx, hb, hml, hown, hts⟩ hK hP hN hS (isTo.l0 (by assumption)) (cE_15 (isTo.s0 (by assumption))) rfl (K_X6_hasOne l D C a b V (Int.toNat (V 0 3)) (by assumption) to (by omega) (by omega)) (cwV 1 hts gX7_relay_X6_hasOne rfl rfl rfl (by decide +kernel) ⟨Nat.le_of_ble_eq_true rfl, Nat.le_of_ble_eq_true rfl⟩) rfl rfl hl.1 (Nat.le_of_ble_eq_true rfl) ⟨Nat.le_of_ble_eq_true rfl, Nat.le_of_ble_eq_true rfl⟩ dX7_relay_16 ?_
    refine z_ifb_eq (P := (0 ≤ to ∧ to < V (Int.toNat (V 0 3)) 7)) (tgt := 31) hx hb dX7_relay_19 (by decide) (fun c2 => ?_) (fun c2 => ?_)
    · refine lv_iconst (v := iZ (-1)) hx hb dX7_relay_31 (by decide) ?_
      exact kq_retM hx hb hK hP hS hr rfl (by unfold c_relay; first | exact (if_neg (by omega)).symm | (rw [if_pos hok, ← hnd2, ← hr1]; unfold c_rl; subst_vars; first | exact (if_pos (by omega)).symm | (refine Eq.trans ?_ (if_neg (by omega)).symm; first | exact (if_pos (by omega)).symm | (refine Eq.trans ?_ (if_neg (by omega)).symm; first | exact (if_pos (by omega)).symm | exact (if_neg (by omega)).symm)))) (by first | exact (if_neg (by omega)).symm | (refine Eq.trans ?_ (if_pos hok).symm; exact hr1)) dX7_relay_32 hlocks
    · refine lv_iload_n hx hb dX7_relay_22 rfl (lv_at hl 3 rfl) ?_
      refine z_if_lt (x := wh) (tgt := 31) hx hb (by omega) dX7_relay_23 (by decide) (fun c3 => ?_) (fun c3 => ?_)
      · refine lv_iconst (v := iZ (-1)) hx hb dX7_relay_31 (by decide) ?_
        exact kq_retM hx hb hK hP hS hr rfl (by unfold c_relay; first | exact (if_neg (by omega)).symm | (rw [if_pos hok, ← hnd2, ← hr1]; unfold c_rl; subst_vars; first | exact (if_pos (by omega)).symm | (refine Eq.trans ?_ (if_neg (by omega)).symm; first | exact (if_pos (by omega)).symm | (refine Eq.trans ?_ (if_neg (by omega)).symm; first | exact (if_pos (by omega)).symm | exact (if_neg (by omega)).symm)))) (by first | exact (if_neg (by omega)).symm | (refine Eq.trans ?_ (if_pos hok).symm; exact hr1)) dX7_relay_32 hlocks
      · refine lv_iload_n hx hb dX7_relay_26 rfl (lv_at hl 3 rfl) ?_
        refine lv_iconst (v := iZ 2) hx hb dX7_relay_27 (by decide) ?_
        refine z_icmp_le (x := wh) (y := 2) (tgt := 33) hx hb (by omega) (by omega) dX7_relay_28 (by decide) (fun c4 => ?_) (fun c4 => ?_)
        · refine W.eq (g2 := F0 m 33 ls []) rfl ?_
          refine lv_aload_n hx hb dX7_relay_33 rfl (lv_at hl 0 rfl) ?_
          refine lv_iload_n hx hb dX7_relay_34 rfl (lv_at hl 1 rfl) ?_
          refine lv_iload_n hx hb dX7_relay_35 rfl (lv_at hl 2 rfl) ?_
          refine kq_cv (i := 0) (As := [.int (iZ sy), .int (iZ to)]) (rest := []) ⟨hx, hb, hml, hown, hts⟩ hK hP hN hD hS (by decide) (cE_0 rfl) rfl (K_X7_countShotsNeeded l D C a b V sy to hI (by omega) (by omega) (hD.weaken (fun _ _ _ _ => trivial))) (cwV 2 hts gX7_relay_X7_countShotsNeeded rfl rfl rfl (by decide +kernel) ⟨Nat.le_of_ble_eq_true rfl, Nat.le_of_ble_eq_true rfl⟩) rfl rfl hl.1 (Nat.le_of_ble_eq_true rfl) ⟨Nat.le_of_ble_eq_true rfl, Nat.le_of_ble_eq_true rfl⟩ dX7_relay_36 (fun H locs hP hD hS => ?_)
          obtain ⟨V5, hV5⟩ : ∃ z : Nat → Nat → Int, z = (f_cs V sy to) := ⟨_, rfl⟩
          rw [← hV5] at hP hD
          have o13 : ∀ g, g ≠ 13 → V5 g = V g := by rw [hV5]; exact f_cs_o V sy to
          have hI_V5 : cI V5 := cI_13 hI o13
          have hM_V5 : moI V5 39 := hI_V5.2.2.2.2.2.1
          have ok_V5 : c_13ok V5 := by rw [hV5]; exact f_cs_bd hI sy to
          have hr1 := hV5
          have e7 := f_cs_n hto o13
          have e8 : V5 (Int.toNat (V5 0 3)) 8 = V (Int.toNat (V 0 3)) 8 := by rw [o13 0 (by decide), o13 _ (by unfold isTo at hto; omega)]
          have hto_V5 := hI_V5.1
          have hok : c_rok V sy to wh := ⟨by omega, by omega, by omega⟩
          refine lv_aload_n hx hb dX7_relay_39 rfl (lv_at hl 0 rfl) ?_
          refine lv_aload_n hx hb dX7_relay_40 rfl (lv_at hl 0 rfl) ?_
          refine kq_get (i := 0) hx hb hts hin_X7 hown hK hP (by decide) (cE_0 rfl) rfl 5 (by decide) (hts (.fieldLink RX7 39 "WordFletchers" "moment" "LWordFletchers$Moment;") (List.mem_cons_of_mem _ (List.mem_append_left _ (List.mem_append_left _ (List.mem_append_left _ (List.mem_append_left _ (List.mem_of_getElem? (i := 1) rfl))))))) rfl dX7_relay_41 ?_
          refine lv_iload_n hx hb dX7_relay_44 rfl (lv_at hl 1 rfl) ?_
          refine kq_ci (i := 39) (As := [.int (iZ sy)]) (rest := [.ref (a 0)]) ⟨hx, hb, hml, hown, hts⟩ hK hP hN hS (isMo.l0 isMo_39) (cE_26 (isMo.s0 isMo_39)) rfl (K_X2_whoKnows l D C a b V5 39 isMo_39 sy (by assumption) (by omega)) (cwV 1 hts gX7_relay_X2_whoKnows rfl rfl rfl (by decide +kernel) ⟨Nat.le_of_ble_eq_true rfl, Nat.le_of_ble_eq_true rfl⟩) rfl rfl hl.1 (Nat.le_of_ble_eq_true rfl) ⟨Nat.le_of_ble_eq_true rfl, Nat.le_of_ble_eq_true rfl⟩ dX7_relay_45 ?_
          have hwk := s_wkN_bd (V5 41) sy
          refine kq_ci (i := 0) (As := [.int (iZ (s_wkN (V5 41) sy 6))]) (rest := []) ⟨hx, hb, hml, hown, hts⟩ hK hP hN hS (by decide) (cE_0 rfl) rfl (K_X7_fewestNeeded l D C a b V5 (s_wkN (V5 41) sy 6) hI_V5 (by omega) (by assumption)) (cwV 1 hts gX7_relay_X7_fewestNeeded rfl rfl rfl (by decide +kernel) ⟨Nat.le_of_ble_eq_true rfl, Nat.le_of_ble_eq_true rfl⟩) rfl rfl hl.1 (Nat.le_of_ble_eq_true rfl) ⟨Nat.le_of_ble_eq_true rfl, Nat.le_of_ble_eq_true rfl⟩ dX7_relay_48 ?_
          have hfb := c_fn_bd (by assumption : c_13ok V5) (s_wkN (V5 41) sy 6)
          refine z_nm (fun nd hnd => ?_)
          have hnd2 : nd = c_rlx (f_cs V sy to) sy := by rw [hnd, hr1]; rfl
          rw [← hnd] at hfb
          refine lv_istore (lv' := [(4, .int (iZ nd)), (0, .ref (a 0)), (1, .int (iZ sy)), (2, .int (iZ to)), (3, .int (iZ wh))]) hx hb dX7_relay_51 hl (by decide) rfl (fun ls hl => ?_)
          refine lv_iload hx hb dX7_relay_53 (lv_at hl 0 rfl) ?_
          refine W.eq (g2 := F0 m 55 ls [.int (iZ nd)]) rfl ?_
          refine lv_sipush (v := iZ 1000) hx hb dX7_relay_55 (by decide) ?_
          refine z_icmp_lt (x := nd) (y := 1000) (tgt := 64) hx hb (by omega) (by omega) dX7_relay_58 (by decide) (fun c6 => ?_) (fun c6 => ?_)
          · refine lv_iload_n hx hb dX7_relay_64 rfl (lv_at hl 4 rfl) ?_
            refine z_if_ne (x := wh) (tgt := 71) hx hb (by omega) dX7_relay_65 (by decide) (fun c7 => ?_) (fun c7 => ?_)
            · refine lv_iload hx hb dX7_relay_71 (lv_at hl 0 rfl) ?_
              refine z_if_ne (x := nd) (tgt := 81) hx hb (by omega) dX7_relay_73 (by decide) (fun c8 => ?_) (fun c8 => ?_)
              · refine lv_aload_n hx hb dX7_relay_81 rfl (lv_at hl 1 rfl) ?_
                refine lv_iload_n hx hb dX7_relay_82 rfl (lv_at hl 2 rfl) ?_
                refine lv_iload hx hb dX7_relay_83 (lv_at hl 0 rfl) ?_
                refine lv_iconst (v := iZ 1) hx hb dX7_relay_85 (by decide) ?_
                refine z_isub hx hb dX7_relay_86 ?_
                refine lv_iload_n hx hb dX7_relay_87 rfl (lv_at hl 4 rfl) ?_
                refine W.eq (g2 := F0 m 88 ls [.int (iZ wh), .int (iZ (nd - 1)), .int (iZ sy), .ref (a 0)]) rfl ?_
                refine kq_ci (i := 0) (As := [.int (iZ sy), .int (iZ (nd - 1)), .int (iZ wh)]) (rest := []) ⟨hx, hb, hml, hown, hts⟩ hK hP hN hS (by decide) (cE_0 rfl) rfl (K_X7_firstOfRelay l D C a b V5 sy (nd - 1) wh hI_V5 (by omega) (by omega) (by assumption) (by omega)) (cwV 3 hts gX7_relay_X7_firstOfRelay rfl rfl rfl (by decide +kernel) ⟨Nat.le_of_ble_eq_true rfl, Nat.le_of_ble_eq_true rfl⟩) rfl rfl hl.1 (Nat.le_of_ble_eq_true rfl) ⟨Nat.le_of_ble_eq_true rfl, Nat.le_of_ble_eq_true rfl⟩ dX7_relay_88 ?_
                exact kq_retM hx hb hK hP hS hr rfl (by unfold c_relay; first | exact (if_neg (by omega)).symm | (rw [if_pos hok, ← hnd2, ← hr1]; unfold c_rl; subst_vars; first | exact (if_pos (by omega)).symm | (refine Eq.trans ?_ (if_neg (by omega)).symm; first | exact (if_pos (by omega)).symm | (refine Eq.trans ?_ (if_neg (by omega)).symm; first | exact (if_pos (by omega)).symm | exact (if_neg (by omega)).symm)))) (by first | exact (if_neg (by omega)).symm | (refine Eq.trans ?_ (if_pos hok).symm; exact hr1)) dX7_relay_91 hlocks
              · refine lv_bipush (v := iZ (-9)) hx hb dX7_relay_76 (by decide) ?_
                refine lv_goto (tgt := 91) hx hb dX7_relay_78 (by decide) ?_
                exact kq_retM hx hb hK hP hS hr rfl (by unfold c_relay; first | exact (if_neg (by omega)).symm | (rw [if_pos hok, ← hnd2, ← hr1]; unfold c_rl; subst_vars; first | exact (if_pos (by omega)).symm | (refine Eq.trans ?_ (if_neg (by omega)).symm; first | exact (if_pos (by omega)).symm | (refine Eq.trans ?_ (if_neg (by omega)).symm; first | exact (if_pos (by omega)).symm | exact (if_neg (by omega)).symm)))) (by first | exact (if_neg (by omega)).symm | (refine Eq.trans ?_ (if_pos hok).symm; exact hr1)) dX7_relay_91 hlocks
            · refine lv_iload hx hb dX7_relay_68 (lv_at hl 0 rfl) ?_
              exact kq_retM hx hb hK hP hS hr rfl (by unfold c_relay; first | exact (if_neg (by omega)).symm | (rw [if_pos hok, ← hnd2, ← hr1]; unfold c_rl; subst_vars; first | exact (if_pos (by omega)).symm | (refine Eq.trans ?_ (if_neg (by omega)).symm; first | exact (if_pos (by omega)).symm | (refine Eq.trans ?_ (if_neg (by omega)).symm; first | exact (if_pos (by omega)).symm | exact (if_neg (by omega)).symm)))) (by first | exact (if_neg (by omega)).symm | (refine Eq.trans ?_ (if_pos hok).symm; exact hr1)) dX7_relay_70 hlocks
          · refine lv_bipush (v := iZ (-9)) hx hb dX7_relay_61 (by decide) ?_
            exact kq_retM hx hb hK hP hS hr rfl (by unfold c_relay; first | exact (if_neg (by omega)).symm | (rw [if_pos hok, ← hnd2, ← hr1]; unfold c_rl; subst_vars; first | exact (if_pos (by omega)).symm | (refine Eq.trans ?_ (if_neg (by omega)).symm; first | exact (if_pos (by omega)).symm | (refine Eq.trans ?_ (if_neg (by omega)).symm; first | exact (if_pos (by omega)).symm | exact (if_neg (by omega)).symm)))) (by first | exact (if_neg (by omega)).symm | (refine Eq.trans ?_ (if_pos hok).symm; exact hr1)) dX7_relay_63 hlocks
        · refine lv_iconst (v := iZ (-1)) hx hb dX7_relay_31 (by decide) ?_
          exact kq_retM hx hb hK hP hS hr rfl (by unfold c_relay; first | exact (if_neg (by omega)).symm | (rw [if_pos hok, ← hnd2, ← hr1]; unfold c_rl; subst_vars; first | exact (if_pos (by omega)).symm | (refine Eq.trans ?_ (if_neg (by omega)).symm; first | exact (if_pos (by omega)).symm | (refine Eq.trans ?_ (if_neg (by omega)).symm; first | exact (if_pos (by omega)).symm | exact (if_neg (by omega)).symm)))) (by first | exact (if_neg (by omega)).symm | (refine Eq.trans ?_ (if_pos hok).symm; exact hr1)) dX7_relay_32 hlocks
