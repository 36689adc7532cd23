set_option maxHeartbeats 4000000 in
set_option maxRecDepth 100000 in
theorem K_X6_flight (l : Launch) (D : va_G) (C : cC) (a b : Nat → Nat) (V : Nat → Nat → Int) (i : Nat) (hi : isTo i) (sy : Int) (fe : Int) (nn : Int) (dm : Int) (hT : toI V i) (h1 : 0 ≤ sy ∧ sy < V i 8) (h2 : 0 ≤ fe ∧ fe ≤ 3) (h3 : 0 ≤ nn ∧ nn ≤ 3) (h4 : 0 ≤ dm ∧ dm ≤ 5) : Met l yX6_flight wsX6_flight ({ frames := 1, cells := 0, slots := 0, locals := 24 }) (va_Pc [.ref (a i), .int (iZ sy), .int (iZ fe), .int (iZ nn), .int (iZ dm)] (cOk D C a b V)) (vp_Si (fun r => r = iZ (s_fly (V (i + 4) (Int.toNat sy)) (V (i + 3) (Int.toNat sy)) dm fe nn))) 0 0 (fun _ => False) := by
  refine Met.ofW (cc := cX6_flight) (maxL := 6) (ret := (some .int)) (by decide) rfl ?_
  intro p e s m args below meth c s₁ B hml hv
  obtain ⟨rfl, hP, hK, hN⟩ := hv
  have hx := B.exec
  have hb := B.bytes
  have hr := B.returns
  have hts := atoms_spec (ws := wsX6_flight) B.pre
  have hown : s.vm.findClass RX6 = some m.cls := findClass_of_methodNamed B.named
  have hlocks := B.notSynchronized
  have hin_X6 : ∀ w ∈ wsX60, w ∈ wsX6_flight := fun _ w_h => (List.mem_cons_of_mem _ (List.mem_append_right _ w_h))
  have hl := lv_entry ([.ref (a i), .int (iZ sy), .int (iZ fe), .int (iZ nn), .int (iZ dm)]) (n := 6) (Nat.le_of_ble_eq_true rfl)
  rw [lg_entry_eq]
  generalize (lg_sl ([.ref (a i), .int (iZ sy), .int (iZ fe), .int (iZ nn), .int (iZ dm)]) ++ List.replicate (6 - (lg_sl ([.ref (a i), .int (iZ sy), .int (iZ fe), .int (iZ nn), .int (iZ dm)])).length) Slot.unset).toArray = ls at hl ⊢
  replace hl : lv_has ls 6 [(0, .ref (a i)), (1, .int (iZ sy)), (2, .int (iZ fe)), (3, .int (iZ nn)), (4, .int (iZ dm))] := hl
  have hS : va_S (cA a) s.heap s.heap [] := va_S.rf
  have hn := hT.now
  have hq2 := hT.sy h1
  have hq3 := s_lift_mul fe h3
  have hq4 := cLif_eq h2
  refine lv_iload_n hx hb dX6_flight_0 rfl (lv_at hl 3 rfl) ?_
  refine z_if_ne (x := nn) (tgt := 11) hx hb (by omega) dX6_flight_1 (by decide) (fun c1 => ?_) (fun c1 => ?_)
  · refine lv_iload_n hx hb dX6_flight_11 rfl (lv_at hl 2 rfl) ?_
    refine lv_iconst (v := iZ 2) hx hb dX6_flight_12 (by decide) ?_
    have K4 : ∀ (v3 : Int), (v3 = (if fe = 2 then 0 else dm)) → ∀ ls : Array Slot, lv_has ls 6 [(0, .ref (a i)), (1, .int (iZ sy)), (2, .int (iZ fe)), (3, .int (iZ nn))] → W p l e ((headSpec wsX6_flight ({ frames := 1, cells := 0, slots := 0, locals := 24 })).room) s m (([.ref (a i), .int (iZ sy), .int (iZ fe), .int (iZ nn), .int (iZ dm)] : List Value).toArray) below meth c s.heap [] 0 0 (MQ below (vp_Si (fun r => r = iZ (s_fly (V (i + 4) (Int.toNat sy)) (V (i + 3) (Int.toNat sy)) dm fe nn))) (([.ref (a i), .int (iZ sy), .int (iZ fe), .int (iZ nn), .int (iZ dm)] : List Value).toArray) s 0 0 (fun _ => False)) (F0 m 22 ls [.int (iZ v3)]) := by
      intro v3 hv3 ls hl
      refine lv_istore (lv' := [(5, .int (iZ v3)), (0, .ref (a i)), (1, .int (iZ sy)), (2, .int (iZ fe)), (3, .int (iZ nn))]) hx hb dX6_flight_22 hl (by decide) rfl (fun ls hl => ?_)
      refine lv_iconst (v := iZ 0) hx hb dX6_flight_24 (by decide) ?_
      refine lv_iload_n hx hb dX6_flight_25 rfl (lv_at hl 4 rfl) ?_
      refine va_getsN (host := RX7) hx hb hN.2.2.2.1 hS hown (va_Nw.use rfl hN.2.1) (fun _ h9 => h9) dX6_flight_26 ?_
      refine lv_iload_n hx hb dX6_flight_29 rfl (lv_at hl 3 rfl) ?_
      refine kq_sald (d := 0) (n := 4) (f := cLif) hx hb hN.2.2.2.2.2.2.1 (hN.2.2.2.2.2.2.2.2.2.1 0 (by decide)) hS (by decide) (Int.toNat fe) rfl (by omega) dX6_flight_30 ?_
      refine z_nm (fun lf hlf => ?_)
      have hlf2 : lf = s_lift fe := by rw [hlf, hq4]
      rw [← hlf2] at hq3
      refine z_imul hx hb dX6_flight_31 ?_
      refine lv_aload_n hx hb dX6_flight_32 rfl (lv_at hl 1 rfl) ?_
      refine kq_get (i := i) hx hb hts hin_X6 hown hK hP (isTo.l0 hi) (cE_15 (isTo.s0 hi)) rfl 3 (by decide) (hts (.fieldLink RX6 21 "WordFletchers$Told" "twist" "[I") (List.mem_cons_of_mem _ (List.mem_append_left _ (List.mem_of_getElem? (i := 0) rfl)))) rfl dX6_flight_33 ?_
      refine W.eq (g2 := F0 m 36 ls [.ref (a (i + 4)), .int (iZ (nn * lf)), .int (iZ 0)]) rfl ?_
      refine lv_iload_n hx hb dX6_flight_36 rfl (lv_at hl 2 rfl) ?_
      refine kq_iald (i := (i + 4)) hx hb hK hP (isTo.l4 hi) (n := 6) (cE_19 (isTo.s4 hi)) (by decide) (Int.toNat sy) rfl (by omega) dX6_flight_37 ?_
      refine z_iadd hx hb dX6_flight_38 ?_
      refine lv_aload_n hx hb dX6_flight_39 rfl (lv_at hl 1 rfl) ?_
      refine kq_get (i := i) hx hb hts hin_X6 hown hK hP (isTo.l0 hi) (cE_15 (isTo.s0 hi)) rfl 2 (by decide) (hts (.fieldLink RX6 18 "WordFletchers$Told" "weight" "[I") (List.mem_cons_of_mem _ (List.mem_append_left _ (List.mem_of_getElem? (i := 1) rfl)))) rfl dX6_flight_40 ?_
      refine lv_iload_n hx hb dX6_flight_43 rfl (lv_at hl 2 rfl) ?_
      refine kq_iald (i := (i + 3)) hx hb hK hP (isTo.l3 hi) (n := 6) (cE_18 (isTo.s3 hi)) (by decide) (Int.toNat sy) rfl (by omega) dX6_flight_44 ?_
      refine z_isub hx hb dX6_flight_45 ?_
      refine lv_iload hx hb dX6_flight_46 (lv_at hl 0 rfl) ?_
      refine z_isub hx hb dX6_flight_48 ?_
      refine kq_max (x := 0) (y := ((((nn * lf) + (V (i + 4) (Int.toNat sy))) - (V (i + 3) (Int.toNat sy))) - v3)) hx hb (hml.trans hl.1.symm) hown (hts (.methodLink RX6 46 Lib.Math.max.name) (List.mem_cons_of_mem _ (List.mem_append_left _ (List.mem_of_getElem? (i := 2) rfl)))) (hts (.static Lib.Math.max.name) (List.mem_cons_of_mem _ (List.mem_append_left _ (List.mem_of_getElem? (i := 3) rfl)))) (hts (.initialized "java/lang/Math") (List.mem_cons_of_mem _ (List.mem_append_left _ (List.mem_of_getElem? (i := 4) rfl)))) (hts (.code Lib.Math.max.name Lib.Math.max.code 2 (some .int)) (List.mem_cons_of_mem _ (List.mem_append_left _ (List.mem_of_getElem? (i := 5) rfl)))) (Nat.le_of_ble_eq_true rfl) (Nat.le_of_ble_eq_true rfl) (Nat.le_of_ble_eq_true rfl) (Nat.le_of_ble_eq_true rfl) (by omega) (by omega) dX6_flight_49 ?_
      exact mq_ret hx hb hr rfl (by unfold s_fly; (first | rw [← hlf2] | skip); first | omega | ((repeat' split) <;> first | rfl | omega)) dX6_flight_52 hlocks rfl
    refine z_icmp_ne (x := fe) (y := 2) (tgt := 20) hx hb (by omega) (by omega) dX6_flight_13 (by decide) (fun c2 => ?_) (fun c2 => ?_)
    · refine W.eq (g2 := F0 m 20 ls []) rfl ?_
      refine lv_iload hx hb dX6_flight_20 (lv_at hl 4 rfl) ?_
      exact K4 dm (by first | rfl | (rw [if_neg c2]; done) | omega | (subst_vars; first | rfl | (rw [if_neg c2]; done) | omega)) ls (lv_sub hl [0, 1, 2, 3] rfl)
    · refine lv_iconst (v := iZ 0) hx hb dX6_flight_16 (by decide) ?_
      refine lv_goto (tgt := 22) hx hb dX6_flight_17 (by decide) ?_
      exact K4 0 (by first | rfl | (rw [if_pos c2]; done) | omega | (subst_vars; first | rfl | (rw [if_pos c2]; done) | omega)) ls (lv_sub hl [0, 1, 2, 3] rfl)
  · refine W.eq (g2 := F0 m 4 ls []) rfl ?_
    refine lv_aload_n hx hb dX6_flight_4 rfl (lv_at hl 0 rfl) ?_
    refine kq_get (i := i) hx hb hts hin_X6 hown hK hP (isTo.l0 hi) (cE_15 (isTo.s0 hi)) rfl 3 (by decide) (hts (.fieldLink RX6 21 "WordFletchers$Told" "twist" "[I") (List.mem_cons_of_mem _ (List.mem_append_left _ (List.mem_of_getElem? (i := 0) rfl)))) rfl dX6_flight_5 ?_
    refine lv_iload_n hx hb dX6_flight_8 rfl (lv_at hl 1 rfl) ?_
    refine kq_iald (i := (i + 4)) hx hb hK hP (isTo.l4 hi) (n := 6) (cE_19 (isTo.s4 hi)) (by decide) (Int.toNat sy) rfl (by omega) dX6_flight_9 ?_
    exact mq_ret hx hb hr rfl (by unfold s_fly; (first | rw [← hlf2] | skip); first | omega | ((repeat' split) <;> first | rfl | omega)) dX6_flight_10 hlocks rfl
set_option maxHeartbeats 4000000 in
set_option maxRecDepth 100000 in
theorem K_X6_landing (l : Launch) (D : va_G) (C : cC) (a b : Nat → Nat) (V : Nat → Nat → Int) (i : Nat) (hi : isTo i) (pe : Int) (sy : Int) (sh : Int) (wi : Int) (dm : Int) (hT : toI V i) (h1 : 0 ≤ pe ∧ pe < V i 7) (h2 : 0 ≤ sy ∧ sy < V i 8) (h3 : 0 ≤ sh ∧ sh / 100 ≤ 3 ∧ sh / 10 % 10 ≤ 3 ∧ sh % 10 ≤ 1) (h5 : -2147483648 ≤ sh ∧ sh < 2147483648) (h6 : -4 ≤ wi ∧ wi ≤ 4) (h7 : 0 ≤ dm ∧ dm ≤ 5) : Met l yX6_landing wsX6_landing ({ frames := 2, cells := 0, slots := 0, locals := 49 }) (va_Pc [.ref (a i), .int (iZ pe), .int (iZ sy), .int (iZ sh), .int (iZ wi), .int (iZ dm)] (cOk D C a b V)) (vp_Si (fun r => r = iZ (s_land (V (i + 1) (Int.toNat pe)) (V (i + 4) (Int.toNat sy)) (V (i + 3) (Int.toNat sy)) dm (sh / 100) (sh / 10 % 10) (sh % 10) wi))) 0 0 (fun _ => False) := by
  refine Met.ofW (cc := cX6_landing) (maxL := 13) (ret := (some .int)) (by decide) rfl ?_
  intro p e s m args below meth c s₁ B hml hv
  obtain ⟨rfl, hP, hK, hN⟩ := hv
  have hx := B.exec
  have hb := B.bytes
  have hr := B.returns
  have hts := atoms_spec (ws := wsX6_landing) B.pre
  have hown : s.vm.findClass RX6 = some m.cls := findClass_of_methodNamed B.named
  have hlocks := B.notSynchronized
  have hin_X6 : ∀ w ∈ wsX60, w ∈ wsX6_landing := fun _ w_h => (List.mem_cons_of_mem _ (List.mem_append_right _ w_h))
  have hl := lv_entry ([.ref (a i), .int (iZ pe), .int (iZ sy), .int (iZ sh), .int (iZ wi), .int (iZ dm)]) (n := 13) (Nat.le_of_ble_eq_true rfl)
  rw [lg_entry_eq]
  generalize (lg_sl ([.ref (a i), .int (iZ pe), .int (iZ sy), .int (iZ sh), .int (iZ wi), .int (iZ dm)]) ++ List.replicate (13 - (lg_sl ([.ref (a i), .int (iZ pe), .int (iZ sy), .int (iZ sh), .int (iZ wi), .int (iZ dm)])).length) Slot.unset).toArray = ls at hl ⊢
  replace hl : lv_has ls 13 [(0, .ref (a i)), (1, .int (iZ pe)), (2, .int (iZ sy)), (3, .int (iZ sh)), (4, .int (iZ wi)), (5, .int (iZ dm))] := hl
  have hS : va_S (cA a) s.heap s.heap [] := va_S.rf
  have hn := hT.now
  have hq1 := hT.pe h1
  have hq2 := hT.sy h2
  have hq5 := s_fly_bd (V (i + 4) (Int.toNat sy)) (V (i + 3) (Int.toNat sy)) dm (sh / 100) (sh / 10 % 10) (by omega) (by omega) (by omega) (by omega)
  refine lv_iload_n hx hb dX6_landing_0 rfl (lv_at hl 3 rfl) ?_
  refine lv_bipush (v := iZ 100) hx hb dX6_landing_1 (by decide) ?_
  refine z_idiv hx hb (by omega) (by omega) dX6_landing_3 ?_
  refine lv_istore (lv' := [(6, .int (iZ (sh / 100))), (0, .ref (a i)), (1, .int (iZ pe)), (2, .int (iZ sy)), (3, .int (iZ sh)), (4, .int (iZ wi)), (5, .int (iZ dm))]) hx hb dX6_landing_4 hl (by decide) rfl (fun ls hl => ?_)
  refine lv_iload_n hx hb dX6_landing_6 rfl (lv_at hl 4 rfl) ?_
  refine lv_bipush (v := iZ 10) hx hb dX6_landing_7 (by decide) ?_
  refine z_idiv hx hb (by omega) (by omega) dX6_landing_9 ?_
  refine W.eq (g2 := F0 m 10 ls [.int (iZ (sh / 10))]) rfl ?_
  refine lv_bipush (v := iZ 10) hx hb dX6_landing_10 (by decide) ?_
  refine z_irem hx hb (by omega) (by omega) dX6_landing_12 ?_
  refine lv_istore (lv' := [(7, .int (iZ ((sh / 10) % 10))), (6, .int (iZ (sh / 100))), (0, .ref (a i)), (1, .int (iZ pe)), (2, .int (iZ sy)), (3, .int (iZ sh)), (4, .int (iZ wi)), (5, .int (iZ dm))]) hx hb dX6_landing_13 hl (by decide) rfl (fun ls hl => ?_)
  refine lv_iload hx hb dX6_landing_15 (lv_at hl 0 rfl) ?_
  have K3 : ∀ (v2 : Int), (v2 = (if ((sh / 10) % 10) = 0 then 1 else 0)) → ∀ ls : Array Slot, lv_has ls 13 [(7, .int (iZ ((sh / 10) % 10))), (6, .int (iZ (sh / 100))), (0, .ref (a i)), (1, .int (iZ pe)), (2, .int (iZ sy)), (3, .int (iZ sh)), (4, .int (iZ wi)), (5, .int (iZ dm))] → W p l e ((headSpec wsX6_landing ({ frames := 2, cells := 0, slots := 0, locals := 49 })).room) s m (([.ref (a i), .int (iZ pe), .int (iZ sy), .int (iZ sh), .int (iZ wi), .int (iZ dm)] : List Value).toArray) below meth c s.heap [] 0 0 (MQ below (vp_Si (fun r => r = iZ (s_land (V (i + 1) (Int.toNat pe)) (V (i + 4) (Int.toNat sy)) (V (i + 3) (Int.toNat sy)) dm (sh / 100) (sh / 10 % 10) (sh % 10) wi))) (([.ref (a i), .int (iZ pe), .int (iZ sy), .int (iZ sh), .int (iZ wi), .int (iZ dm)] : List Value).toArray) s 0 0 (fun _ => False)) (F0 m 25 ls [.int (iZ v2)]) := by
    intro v2 hv2 ls hl
    refine lv_istore (lv' := [(8, .int (iZ v2)), (7, .int (iZ ((sh / 10) % 10))), (6, .int (iZ (sh / 100))), (0, .ref (a i)), (1, .int (iZ pe)), (2, .int (iZ sy)), (3, .int (iZ sh)), (4, .int (iZ wi)), (5, .int (iZ dm))]) hx hb dX6_landing_25 hl (by decide) rfl (fun ls hl => ?_)
    refine lv_iload_n hx hb dX6_landing_27 rfl (lv_at hl 6 rfl) ?_
    refine lv_bipush (v := iZ 10) hx hb dX6_landing_28 (by decide) ?_
    refine z_irem hx hb (by omega) (by omega) dX6_landing_30 ?_
    refine W.eq (g2 := F0 m 31 ls [.int (iZ (sh % 10))]) rfl ?_
    refine lv_iload hx hb dX6_landing_31 (lv_at hl 0 rfl) ?_
    have K6 : ∀ (v5 : Int), (v5 = (if v2 = 0 then 1 else 0)) → ∀ ls : Array Slot, lv_has ls 13 [(8, .int (iZ v2)), (7, .int (iZ ((sh / 10) % 10))), (6, .int (iZ (sh / 100))), (0, .ref (a i)), (1, .int (iZ pe)), (2, .int (iZ sy)), (4, .int (iZ wi)), (5, .int (iZ dm))] → W p l e ((headSpec wsX6_landing ({ frames := 2, cells := 0, slots := 0, locals := 49 })).room) s m (([.ref (a i), .int (iZ pe), .int (iZ sy), .int (iZ sh), .int (iZ wi), .int (iZ dm)] : List Value).toArray) below meth c s.heap [] 0 0 (MQ below (vp_Si (fun r => r = iZ (s_land (V (i + 1) (Int.toNat pe)) (V (i + 4) (Int.toNat sy)) (V (i + 3) (Int.toNat sy)) dm (sh / 100) (sh / 10 % 10) (sh % 10) wi))) (([.ref (a i), .int (iZ pe), .int (iZ sy), .int (iZ sh), .int (iZ wi), .int (iZ dm)] : List Value).toArray) s 0 0 (fun _ => False)) (F0 m 41 ls [.int (iZ v5), .int (iZ (sh % 10))]) := by
      intro v5 hv5 ls hl
      have K9 : ∀ (v8 : Int), (v8 = (if (sh % 10) = v5 then 1 else 0)) → ∀ ls : Array Slot, lv_has ls 13 [(8, .int (iZ v2)), (7, .int (iZ ((sh / 10) % 10))), (6, .int (iZ (sh / 100))), (0, .ref (a i)), (1, .int (iZ pe)), (2, .int (iZ sy)), (4, .int (iZ wi)), (5, .int (iZ dm))] → W p l e ((headSpec wsX6_landing ({ frames := 2, cells := 0, slots := 0, locals := 49 })).room) s m (([.ref (a i), .int (iZ pe), .int (iZ sy), .int (iZ sh), .int (iZ wi), .int (iZ dm)] : List Value).toArray) below meth c s.heap [] 0 0 (MQ below (vp_Si (fun r => r = iZ (s_land (V (i + 1) (Int.toNat pe)) (V (i + 4) (Int.toNat sy)) (V (i + 3) (Int.toNat sy)) dm (sh / 100) (sh / 10 % 10) (sh % 10) wi))) (([.ref (a i), .int (iZ pe), .int (iZ sy), .int (iZ sh), .int (iZ wi), .int (iZ dm)] : List Value).toArray) s 0 0 (fun _ => False)) (F0 m 49 ls [.int (iZ v8)]) := by
        intro v8 hv8 ls hl
        refine lv_istore (lv' := [(9, .int (iZ v8)), (8, .int (iZ v2)), (7, .int (iZ ((sh / 10) % 10))), (6, .int (iZ (sh / 100))), (0, .ref (a i)), (1, .int (iZ pe)), (2, .int (iZ sy)), (4, .int (iZ wi)), (5, .int (iZ dm))]) hx hb dX6_landing_49 hl (by decide) rfl (fun ls hl => ?_)
        refine lv_aload_n hx hb dX6_landing_51 rfl (lv_at hl 4 rfl) ?_
        refine lv_iload_n hx hb dX6_landing_52 rfl (lv_at hl 6 rfl) ?_
        refine W.eq (g2 := F0 m 53 ls [.int (iZ sy), .ref (a i)]) rfl ?_
        refine lv_iload hx hb dX6_landing_53 (lv_at hl 3 rfl) ?_
        refine lv_iload hx hb dX6_landing_55 (lv_at hl 2 rfl) ?_
        refine lv_iload hx hb dX6_landing_57 (lv_at hl 8 rfl) ?_
        refine kq_ci (i := i) (As := [.int (iZ sy), .int (iZ (sh / 100)), .int (iZ ((sh / 10) % 10)), .int (iZ dm)]) (rest := []) ⟨hx, hb, hml, hown, hts⟩ hK hP hN hS (isTo.l0 hi) (cE_15 (isTo.s0 hi)) rfl (K_X6_flight l D C a b V i hi sy (sh / 100) ((sh / 10) % 10) dm (by assumption) (by omega) (by omega) (by omega) (by omega)) (cwV 4 hts gX6_landing_X6_flight rfl rfl rfl (by decide +kernel) ⟨Nat.le_of_ble_eq_true rfl, Nat.le_of_ble_eq_true rfl⟩) rfl rfl hl.1 (Nat.le_of_ble_eq_true rfl) ⟨Nat.le_of_ble_eq_true rfl, Nat.le_of_ble_eq_true rfl⟩ dX6_landing_59 ?_
        have hfl := s_fly_bd (V (i + 4) (Int.toNat sy)) (V (i + 3) (Int.toNat sy)) dm (sh / 100) ((sh / 10) % 10) (by omega) (by omega) (by omega) (by omega)
        refine lv_istore (lv' := [(10, .int (iZ (s_fly (V (i + 4) (Int.toNat sy)) (V (i + 3) (Int.toNat sy)) dm (sh / 100) ((sh / 10) % 10)))), (9, .int (iZ v8)), (8, .int (iZ v2)), (7, .int (iZ ((sh / 10) % 10))), (6, .int (iZ (sh / 100))), (0, .ref (a i)), (1, .int (iZ pe)), (2, .int (iZ sy)), (4, .int (iZ wi)), (5, .int (iZ dm))]) hx hb dX6_landing_62 hl (by decide) rfl (fun ls hl => ?_)
        refine lv_iload hx hb dX6_landing_64 (lv_at hl 0 rfl) ?_
        have K14 : ∀ (v13 : Int), (v13 = (if s_fly (V (i + 4) (Int.toNat sy)) (V (i + 3) (Int.toNat sy)) dm (sh / 100) ((sh / 10) % 10) ≤ 0 then 0 else (if v2 = 0 then (if (sh / 100) = 3 then 0 else 1) else 1))) → ∀ ls : Array Slot, lv_has ls 13 [(10, .int (iZ (s_fly (V (i + 4) (Int.toNat sy)) (V (i + 3) (Int.toNat sy)) dm (sh / 100) ((sh / 10) % 10)))), (9, .int (iZ v8)), (0, .ref (a i)), (1, .int (iZ pe)), (4, .int (iZ wi))] → W p l e ((headSpec wsX6_landing ({ frames := 2, cells := 0, slots := 0, locals := 49 })).room) s m (([.ref (a i), .int (iZ pe), .int (iZ sy), .int (iZ sh), .int (iZ wi), .int (iZ dm)] : List Value).toArray) below meth c s.heap [] 0 0 (MQ below (vp_Si (fun r => r = iZ (s_land (V (i + 1) (Int.toNat pe)) (V (i + 4) (Int.toNat sy)) (V (i + 3) (Int.toNat sy)) dm (sh / 100) (sh / 10 % 10) (sh % 10) wi))) (([.ref (a i), .int (iZ pe), .int (iZ sy), .int (iZ sh), .int (iZ wi), .int (iZ dm)] : List Value).toArray) s 0 0 (fun _ => False)) (F0 m 85 ls [.int (iZ v13)]) := by
          intro v13 hv13 ls hl
          refine lv_istore (lv' := [(11, .int (iZ v13)), (10, .int (iZ (s_fly (V (i + 4) (Int.toNat sy)) (V (i + 3) (Int.toNat sy)) dm (sh / 100) ((sh / 10) % 10)))), (9, .int (iZ v8)), (0, .ref (a i)), (1, .int (iZ pe)), (4, .int (iZ wi))]) hx hb dX6_landing_85 hl (by decide) rfl (fun ls hl => ?_)
          refine lv_aload_n hx hb dX6_landing_87 rfl (lv_at hl 3 rfl) ?_
          refine kq_get (i := i) hx hb hts hin_X6 hown hK hP (isTo.l0 hi) (cE_15 (isTo.s0 hi)) rfl 0 (by decide) (hts (.fieldLink RX6 9 "WordFletchers$Told" "place" "[I") (List.mem_cons_of_mem _ (List.mem_append_left _ (List.mem_of_getElem? (i := 0) rfl)))) rfl dX6_landing_88 ?_
          refine lv_iload_n hx hb dX6_landing_91 rfl (lv_at hl 4 rfl) ?_
          refine kq_iald (i := (i + 1)) hx hb hK hP (isTo.l1 hi) (n := 6) (cE_16 (isTo.s1 hi)) (by decide) (Int.toNat pe) rfl (by omega) dX6_landing_92 ?_
          refine lv_iload hx hb dX6_landing_93 (lv_at hl 2 rfl) ?_
          refine W.eq (g2 := F0 m 95 ls [.int (iZ v8), .int (iZ (V (i + 1) (Int.toNat pe)))]) rfl ?_
          have K17 : ∀ (v16 : Int), (v16 = (if v8 = 0 then (-(s_fly (V (i + 4) (Int.toNat sy)) (V (i + 3) (Int.toNat sy)) dm (sh / 100) ((sh / 10) % 10))) else s_fly (V (i + 4) (Int.toNat sy)) (V (i + 3) (Int.toNat sy)) dm (sh / 100) ((sh / 10) % 10))) → ∀ ls : Array Slot, lv_has ls 13 [(11, .int (iZ v13)), (4, .int (iZ wi))] → W p l e ((headSpec wsX6_landing ({ frames := 2, cells := 0, slots := 0, locals := 49 })).room) s m (([.ref (a i), .int (iZ pe), .int (iZ sy), .int (iZ sh), .int (iZ wi), .int (iZ dm)] : List Value).toArray) below meth c s.heap [] 0 0 (MQ below (vp_Si (fun r => r = iZ (s_land (V (i + 1) (Int.toNat pe)) (V (i + 4) (Int.toNat sy)) (V (i + 3) (Int.toNat sy)) dm (sh / 100) (sh / 10 % 10) (sh % 10) wi))) (([.ref (a i), .int (iZ pe), .int (iZ sy), .int (iZ sh), .int (iZ wi), .int (iZ dm)] : List Value).toArray) s 0 0 (fun _ => False)) (F0 m 106 ls [.int (iZ v16), .int (iZ (V (i + 1) (Int.toNat pe)))]) := by
            intro v16 hv16 ls hl
            refine z_iadd hx hb dX6_landing_106 ?_
            refine lv_iload hx hb dX6_landing_107 (lv_at hl 0 rfl) ?_
            have K20 : ∀ (v19 : Int), (v19 = (if v13 = 0 then 0 else wi)) → ∀ ls : Array Slot, lv_has ls 13 [] → W p l e ((headSpec wsX6_landing ({ frames := 2, cells := 0, slots := 0, locals := 49 })).room) s m (([.ref (a i), .int (iZ pe), .int (iZ sy), .int (iZ sh), .int (iZ wi), .int (iZ dm)] : List Value).toArray) below meth c s.heap [] 0 0 (MQ below (vp_Si (fun r => r = iZ (s_land (V (i + 1) (Int.toNat pe)) (V (i + 4) (Int.toNat sy)) (V (i + 3) (Int.toNat sy)) dm (sh / 100) (sh / 10 % 10) (sh % 10) wi))) (([.ref (a i), .int (iZ pe), .int (iZ sy), .int (iZ sh), .int (iZ wi), .int (iZ dm)] : List Value).toArray) s 0 0 (fun _ => False)) (F0 m 118 ls [.int (iZ v19), .int (iZ ((V (i + 1) (Int.toNat pe)) + v16))]) := by
              intro v19 hv19 ls hl
              refine z_iadd hx hb dX6_landing_118 ?_
              refine W.eq (g2 := F0 m 119 ls [.int (iZ (((V (i + 1) (Int.toNat pe)) + v16) + v19))]) rfl ?_
              refine lv_istore (lv' := [(12, .int (iZ (((V (i + 1) (Int.toNat pe)) + v16) + v19)))]) hx hb dX6_landing_119 hl (by decide) rfl (fun ls hl => ?_)
              refine lv_iload hx hb dX6_landing_121 (lv_at hl 0 rfl) ?_
              have K24 : ∀ (v23 : Int), (v23 = (if (((V (i + 1) (Int.toNat pe)) + v16) + v19) < 0 then (-9) else (if (((V (i + 1) (Int.toNat pe)) + v16) + v19) ≤ 30 then (((V (i + 1) (Int.toNat pe)) + v16) + v19) else (-9)))) → ∀ ls : Array Slot, lv_has ls 13 [] → W p l e ((headSpec wsX6_landing ({ frames := 2, cells := 0, slots := 0, locals := 49 })).room) s m (([.ref (a i), .int (iZ pe), .int (iZ sy), .int (iZ sh), .int (iZ wi), .int (iZ dm)] : List Value).toArray) below meth c s.heap [] 0 0 (MQ below (vp_Si (fun r => r = iZ (s_land (V (i + 1) (Int.toNat pe)) (V (i + 4) (Int.toNat sy)) (V (i + 3) (Int.toNat sy)) dm (sh / 100) (sh / 10 % 10) (sh % 10) wi))) (([.ref (a i), .int (iZ pe), .int (iZ sy), .int (iZ sh), .int (iZ wi), .int (iZ dm)] : List Value).toArray) s 0 0 (fun _ => False)) (F0 m 140 ls [.int (iZ v23)]) := by
                intro v23 hv23 ls hl
                exact mq_ret hx hb hr rfl (by unfold s_land s_to; first | omega | ((repeat' split) <;> first | rfl | omega)) dX6_landing_140 hlocks rfl
              refine z_if_lt (x := (((V (i + 1) (Int.toNat pe)) + v16) + v19)) (tgt := 133) hx hb (by omega) dX6_landing_123 (by decide) (fun c21 => ?_) (fun c21 => ?_)
              · refine lv_bipush (v := iZ (-9)) hx hb dX6_landing_133 (by decide) ?_
                refine lv_goto (tgt := 140) hx hb dX6_landing_135 (by decide) ?_
                exact K24 (-9) (by first | rfl | (rw [if_pos c21]; done) | omega | (subst_vars; first | rfl | (rw [if_pos c21]; done) | omega)) ls (lv_sub hl [] rfl)
              · refine lv_iload hx hb dX6_landing_126 (lv_at hl 0 rfl) ?_
                refine lv_bipush (v := iZ 30) hx hb dX6_landing_128 (by decide) ?_
                refine z_icmp_le (x := (((V (i + 1) (Int.toNat pe)) + v16) + v19)) (y := 30) (tgt := 138) hx hb (by omega) (by omega) dX6_landing_130 (by decide) (fun c22 => ?_) (fun c22 => ?_)
                · refine lv_iload hx hb dX6_landing_138 (lv_at hl 0 rfl) ?_
                  exact K24 (((V (i + 1) (Int.toNat pe)) + v16) + v19) (by first | rfl | (rw [if_neg c21, if_pos c22]; done) | omega | (subst_vars; first | rfl | (rw [if_neg c21, if_pos c22]; done) | omega)) ls (lv_sub hl [] rfl)
                · refine lv_bipush (v := iZ (-9)) hx hb dX6_landing_133 (by decide) ?_
                  refine lv_goto (tgt := 140) hx hb dX6_landing_135 (by decide) ?_
                  exact K24 (-9) (by first | rfl | (rw [if_neg c21, if_neg c22]; done) | omega | (subst_vars; first | rfl | (rw [if_neg c21, if_neg c22]; done) | omega)) ls (lv_sub hl [] rfl)
            refine z_if_eq (x := v13) (tgt := 117) hx hb (by omega) dX6_landing_109 (by decide) (fun c18 => ?_) (fun c18 => ?_)
            · refine lv_iconst (v := iZ 0) hx hb dX6_landing_117 (by decide) ?_
              exact K20 0 (by first | rfl | (rw [if_pos c18]; done) | omega | (subst_vars; first | rfl | (rw [if_pos c18]; done) | omega)) ls (lv_sub hl [] rfl)
            · refine lv_iload hx hb dX6_landing_112 (lv_at hl 1 rfl) ?_
              refine lv_goto (tgt := 118) hx hb dX6_landing_114 (by decide) ?_
              exact K20 wi (by first | rfl | (rw [if_neg c18]; done) | omega | (subst_vars; first | rfl | (rw [if_neg c18]; done) | omega)) ls (lv_sub hl [] rfl)
          refine z_if_eq (x := v8) (tgt := 103) hx hb (by omega) dX6_landing_95 (by decide) (fun c15 => ?_) (fun c15 => ?_)
          · refine lv_iload hx hb dX6_landing_103 (lv_at hl 1 rfl) ?_
            refine z_ineg hx hb dX6_landing_105 ?_
            exact K17 (-(s_fly (V (i + 4) (Int.toNat sy)) (V (i + 3) (Int.toNat sy)) dm (sh / 100) ((sh / 10) % 10))) (by first | rfl | (rw [if_pos c15]; done) | omega | (subst_vars; first | rfl | (rw [if_pos c15]; done) | omega)) ls (lv_sub hl [0, 5] rfl)
          · refine lv_iload hx hb dX6_landing_98 (lv_at hl 1 rfl) ?_
            refine lv_goto (tgt := 106) hx hb dX6_landing_100 (by decide) ?_
            exact K17 (s_fly (V (i + 4) (Int.toNat sy)) (V (i + 3) (Int.toNat sy)) dm (sh / 100) ((sh / 10) % 10)) (by first | rfl | (rw [if_neg c15]; done) | omega | (subst_vars; first | rfl | (rw [if_neg c15]; done) | omega)) ls (lv_sub hl [0, 5] rfl)
        refine z_if_le (x := s_fly (V (i + 4) (Int.toNat sy)) (V (i + 3) (Int.toNat sy)) dm (sh / 100) ((sh / 10) % 10)) (tgt := 84) hx hb (by omega) dX6_landing_66 (by decide) (fun c10 => ?_) (fun c10 => ?_)
        · refine lv_iconst (v := iZ 0) hx hb dX6_landing_84 (by decide) ?_
          exact K14 0 (by first | rfl | (rw [if_pos c10]; done) | omega | (subst_vars; first | rfl | (rw [if_pos c10]; done) | omega)) ls (lv_sub hl [0, 1, 5, 6, 8] rfl)
        · refine lv_iload hx hb dX6_landing_69 (lv_at hl 2 rfl) ?_
          refine z_if_ne (x := v2) (tgt := 80) hx hb (by omega) dX6_landing_71 (by decide) (fun c11 => ?_) (fun c11 => ?_)
          · refine lv_iconst (v := iZ 1) hx hb dX6_landing_80 (by decide) ?_
            refine lv_goto (tgt := 85) hx hb dX6_landing_81 (by decide) ?_
            exact K14 1 (by first | rfl | (rw [if_neg c10, if_neg c11]; done) | omega | (subst_vars; first | rfl | (rw [if_neg c10, if_neg c11]; done) | omega)) ls (lv_sub hl [0, 1, 5, 6, 8] rfl)
          · refine W.eq (g2 := F0 m 74 ls []) rfl ?_
            refine lv_iload hx hb dX6_landing_74 (lv_at hl 4 rfl) ?_
            refine lv_iconst (v := iZ 3) hx hb dX6_landing_76 (by decide) ?_
            refine z_icmp_eq (x := (sh / 100)) (y := 3) (tgt := 84) hx hb (by omega) (by omega) dX6_landing_77 (by decide) (fun c12 => ?_) (fun c12 => ?_)
            · refine lv_iconst (v := iZ 0) hx hb dX6_landing_84 (by decide) ?_
              exact K14 0 (by first | rfl | (rw [if_neg c10, if_pos c11, if_pos c12]; done) | omega | (subst_vars; first | rfl | (rw [if_neg c10, if_pos c11, if_pos c12]; done) | omega)) ls (lv_sub hl [0, 1, 5, 6, 8] rfl)
            · refine lv_iconst (v := iZ 1) hx hb dX6_landing_80 (by decide) ?_
              refine lv_goto (tgt := 85) hx hb dX6_landing_81 (by decide) ?_
              exact K14 1 (by first | rfl | (rw [if_neg c10, if_pos c11, if_neg c12]; done) | omega | (subst_vars; first | rfl | (rw [if_neg c10, if_pos c11, if_neg c12]; done) | omega)) ls (lv_sub hl [0, 1, 5, 6, 8] rfl)
      refine z_icmp_ne (x := (sh % 10)) (y := v5) (tgt := 48) hx hb (by omega) (by omega) dX6_landing_41 (by decide) (fun c7 => ?_) (fun c7 => ?_)
      · refine lv_iconst (v := iZ 0) hx hb dX6_landing_48 (by decide) ?_
        exact K9 0 (by first | rfl | (rw [if_neg c7]; done) | omega | (subst_vars; first | rfl | (rw [if_neg c7]; done) | omega)) ls (lv_sub hl [0, 1, 2, 3, 4, 5, 6, 7] rfl)
      · refine lv_iconst (v := iZ 1) hx hb dX6_landing_44 (by decide) ?_
        refine lv_goto (tgt := 49) hx hb dX6_landing_45 (by decide) ?_
        exact K9 1 (by first | rfl | (rw [if_pos c7]; done) | omega | (subst_vars; first | rfl | (rw [if_pos c7]; done) | omega)) ls (lv_sub hl [0, 1, 2, 3, 4, 5, 6, 7] rfl)
    refine z_if_eq (x := v2) (tgt := 40) hx hb (by omega) dX6_landing_33 (by decide) (fun c4 => ?_) (fun c4 => ?_)
    · refine lv_iconst (v := iZ 1) hx hb dX6_landing_40 (by decide) ?_
      exact K6 1 (by first | rfl | (rw [if_pos c4]; done) | omega | (subst_vars; first | rfl | (rw [if_pos c4]; done) | omega)) ls (lv_sub hl [0, 1, 2, 3, 4, 5, 7, 8] rfl)
    · refine lv_iconst (v := iZ 0) hx hb dX6_landing_36 (by decide) ?_
      refine lv_goto (tgt := 41) hx hb dX6_landing_37 (by decide) ?_
      exact K6 0 (by first | rfl | (rw [if_neg c4]; done) | omega | (subst_vars; first | rfl | (rw [if_neg c4]; done) | omega)) ls (lv_sub hl [0, 1, 2, 3, 4, 5, 7, 8] rfl)
  refine z_if_ne (x := ((sh / 10) % 10)) (tgt := 24) hx hb (by omega) dX6_landing_17 (by decide) (fun c1 => ?_) (fun c1 => ?_)
  · refine lv_iconst (v := iZ 0) hx hb dX6_landing_24 (by decide) ?_
    exact K3 0 (by first | rfl | (rw [if_neg c1]; done) | omega | (subst_vars; first | rfl | (rw [if_neg c1]; done) | omega)) ls (lv_sub hl [0, 1, 2, 3, 4, 5, 6, 7] rfl)
  · refine lv_iconst (v := iZ 1) hx hb dX6_landing_20 (by decide) ?_
    refine lv_goto (tgt := 25) hx hb dX6_landing_21 (by decide) ?_
    exact K3 1 (by first | rfl | (rw [if_pos c1]; done) | omega | (subst_vars; first | rfl | (rw [if_pos c1]; done) | omega)) ls (lv_sub hl [0, 1, 2, 3, 4, 5, 6, 7] rfl)
set_option maxHeartbeats 4000000 in
set_option maxRecDepth 100000 in
theorem K_X6_hears (l : Launch) (D : va_G) (C : cC) (a b : Nat → Nat) (V : Nat → Nat → Int) (i : Nat) (hi : isTo i) (pe : Int) (sp : Int) (hT : toI V i) (h1 : 0 ≤ pe ∧ pe < V i 7) (h2 : -9 ≤ sp ∧ sp ≤ 30) : Met l yX6_hears wsX6_hears ({ frames := 1, cells := 0, slots := 0, locals := 24 }) (va_Pc [.ref (a i), .int (iZ pe), .int (iZ sp)] (cOk D C a b V)) (vp_Si (fun r => r = iZ (if (s_hear (V (i + 1) (Int.toNat pe)) (V (i + 2) (Int.toNat pe)) sp) then 1 else 0))) 0 0 (fun _ => False) := by
  refine Met.ofW (cc := cX6_hears) (maxL := 3) (ret := (some .boolean)) (by decide) rfl ?_
  intro p e s m args below meth c s₁ B hml hv
  obtain ⟨rfl, hP, hK, hN⟩ := hv
  have hx := B.exec
  have hb := B.bytes
  have hr := B.returns
  have hts := atoms_spec (ws := wsX6_hears) B.pre
  have hown : s.vm.findClass RX6 = some m.cls := findClass_of_methodNamed B.named
  have hlocks := B.notSynchronized
  have hin_X6 : ∀ w ∈ wsX60, w ∈ wsX6_hears := fun _ w_h => (List.mem_cons_of_mem _ (List.mem_append_right _ w_h))
  have hl := lv_entry ([.ref (a i), .int (iZ pe), .int (iZ sp)]) (n := 3) (Nat.le_of_ble_eq_true rfl)
  rw [lg_entry_eq]
  generalize (lg_sl ([.ref (a i), .int (iZ pe), .int (iZ sp)]) ++ List.replicate (3 - (lg_sl ([.ref (a i), .int (iZ pe), .int (iZ sp)])).length) Slot.unset).toArray = ls at hl ⊢
  replace hl : lv_has ls 3 [(0, .ref (a i)), (1, .int (iZ pe)), (2, .int (iZ sp))] := hl
  have hS : va_S (cA a) s.heap s.heap [] := va_S.rf
  have hn := hT.now
  have hq1 := hT.pe h1
  refine W.eq (g2 := F0 m 0 ls []) rfl ?_
  refine lv_iload_n hx hb dX6_hears_0 rfl (lv_at hl 2 rfl) ?_
  refine lv_bipush (v := iZ (-9)) hx hb dX6_hears_1 (by decide) ?_
  have K4 : ∀ (v3 : Int), (v3 = (if sp = (-9) then 0 else (if (V (i + 2) (Int.toNat pe)) < (if 0 ≤ ((V (i + 1) (Int.toNat pe)) - sp) then ((V (i + 1) (Int.toNat pe)) - sp) else 0 - ((V (i + 1) (Int.toNat pe)) - sp)) then 0 else 1))) → ∀ ls : Array Slot, lv_has ls 3 [] → W p l e ((headSpec wsX6_hears ({ frames := 1, cells := 0, slots := 0, locals := 24 })).room) s m (([.ref (a i), .int (iZ pe), .int (iZ sp)] : List Value).toArray) below meth c s.heap [] 0 0 (MQ below (vp_Si (fun r => r = iZ (if (s_hear (V (i + 1) (Int.toNat pe)) (V (i + 2) (Int.toNat pe)) sp) then 1 else 0))) (([.ref (a i), .int (iZ pe), .int (iZ sp)] : List Value).toArray) s 0 0 (fun _ => False)) (F0 m 31 ls [.int (iZ v3)]) := by
    intro v3 hv3 ls hl
    exact mq_ret hx hb hr (z_nbool (by first | omega | (split <;> omega))) (by first | omega | rfl | ((repeat' split) <;> first | rfl | omega) | (subst_vars; first | rfl | omega | ((repeat' split) <;> first | rfl | omega))) dX6_hears_31 hlocks rfl
  refine z_icmp_eq (x := sp) (y := (-9)) (tgt := 30) hx hb (by omega) (by omega) dX6_hears_3 (by decide) (fun c1 => ?_) (fun c1 => ?_)
  · refine lv_iconst (v := iZ 0) hx hb dX6_hears_30 (by decide) ?_
    exact K4 0 (by first | rfl | (rw [if_pos c1]; done) | omega | (subst_vars; first | rfl | (rw [if_pos c1]; done) | omega)) ls (lv_sub hl [] rfl)
  · refine lv_aload_n hx hb dX6_hears_6 rfl (lv_at hl 0 rfl) ?_
    refine kq_get (i := i) hx hb hts hin_X6 hown hK hP (isTo.l0 hi) (cE_15 (isTo.s0 hi)) rfl 0 (by decide) (hts (.fieldLink RX6 9 "WordFletchers$Told" "place" "[I") (List.mem_cons_of_mem _ (List.mem_append_left _ (List.mem_of_getElem? (i := 0) rfl)))) rfl dX6_hears_7 ?_
    refine lv_iload_n hx hb dX6_hears_10 rfl (lv_at hl 1 rfl) ?_
    refine kq_iald (i := (i + 1)) hx hb hK hP (isTo.l1 hi) (n := 6) (cE_16 (isTo.s1 hi)) (by decide) (Int.toNat pe) rfl (by omega) dX6_hears_11 ?_
    refine lv_iload_n hx hb dX6_hears_12 rfl (lv_at hl 2 rfl) ?_
    refine z_isub hx hb dX6_hears_13 ?_
    refine kq_abs (x := ((V (i + 1) (Int.toNat pe)) - sp)) hx hb (hml.trans hl.1.symm) hown (hts (.methodLink RX6 70 Lib.Math.abs.name) (List.mem_cons_of_mem _ (List.mem_append_left _ (List.mem_of_getElem? (i := 1) rfl)))) (hts (.static Lib.Math.abs.name) (List.mem_cons_of_mem _ (List.mem_append_left _ (List.mem_of_getElem? (i := 2) rfl)))) (hts (.initialized "java/lang/Math") (List.mem_cons_of_mem _ (List.mem_append_left _ (List.mem_of_getElem? (i := 3) rfl)))) (hts (.code Lib.Math.abs.name Lib.Math.abs.code 1 (some .int)) (List.mem_cons_of_mem _ (List.mem_append_left _ (List.mem_of_getElem? (i := 4) rfl)))) (Nat.le_of_ble_eq_true rfl) (Nat.le_of_ble_eq_true rfl) (Nat.le_of_ble_eq_true rfl) (Nat.le_of_ble_eq_true rfl) (by omega) dX6_hears_14 ?_
    refine lv_aload_n hx hb dX6_hears_17 rfl (lv_at hl 0 rfl) ?_
    refine W.eq (g2 := F0 m 18 ls [.ref (a i), .int (iZ (if 0 ≤ ((V (i + 1) (Int.toNat pe)) - sp) then ((V (i + 1) (Int.toNat pe)) - sp) else 0 - ((V (i + 1) (Int.toNat pe)) - sp)))]) rfl ?_
    refine kq_get (i := i) hx hb hts hin_X6 hown hK hP (isTo.l0 hi) (cE_15 (isTo.s0 hi)) rfl 1 (by decide) (hts (.fieldLink RX6 15 "WordFletchers$Told" "ear" "[I") (List.mem_cons_of_mem _ (List.mem_append_left _ (List.mem_of_getElem? (i := 5) rfl)))) rfl dX6_hears_18 ?_
    refine lv_iload_n hx hb dX6_hears_21 rfl (lv_at hl 1 rfl) ?_
    refine kq_iald (i := (i + 2)) hx hb hK hP (isTo.l2 hi) (n := 6) (cE_17 (isTo.s2 hi)) (by decide) (Int.toNat pe) rfl (by omega) dX6_hears_22 ?_
    refine z_icmp_gt (x := (if 0 ≤ ((V (i + 1) (Int.toNat pe)) - sp) then ((V (i + 1) (Int.toNat pe)) - sp) else 0 - ((V (i + 1) (Int.toNat pe)) - sp))) (y := (V (i + 2) (Int.toNat pe))) (tgt := 30) hx hb (by omega) (by omega) dX6_hears_23 (by decide) (fun c2 => ?_) (fun c2 => ?_)
    · refine lv_iconst (v := iZ 0) hx hb dX6_hears_30 (by decide) ?_
      exact K4 0 (by first | rfl | (rw [if_neg c1, if_pos c2]; done) | omega | (subst_vars; first | rfl | (rw [if_neg c1, if_pos c2]; done) | omega)) ls (lv_sub hl [] rfl)
    · refine lv_iconst (v := iZ 1) hx hb dX6_hears_26 (by decide) ?_
      refine lv_goto (tgt := 31) hx hb dX6_hears_27 (by decide) ?_
      exact K4 1 (by first | rfl | (rw [if_neg c1, if_neg c2]; done) | omega | (subst_vars; first | rfl | (rw [if_neg c1, if_neg c2]; done) | omega)) ls (lv_sub hl [] rfl)
set_option maxHeartbeats 4000000 in
set_option maxRecDepth 100000 in
theorem K_X6_hearers (l : Launch) (D : va_G) (C : cC) (a b : Nat → Nat) (V : Nat → Nat → Int) (i : Nat) (hi : isTo i) (but : Int) (sp : Int) (hT : toI V i) (h1 : -9 ≤ sp ∧ sp ≤ 30) (h2 : -2147483648 ≤ but ∧ but < 2147483648) : Met l yX6_hearers wsX6_hearers ({ frames := 2, cells := 0, slots := 0, locals := 46 }) (va_Pc [.ref (a i), .int (iZ but), .int (iZ sp)] (cOk D C a b V)) (vp_Si (fun r => r = iZ (s_heN (V (i + 1)) (V (i + 2)) sp but (Int.toNat (V i 7))))) 0 0 (fun _ => False) := by
  refine Met.ofW (cc := cX6_hearers) (maxL := 5) (ret := (some .int)) (by decide) rfl ?_
  intro p e s m args below meth c s₁ B hml hv
  obtain ⟨rfl, hP, hK, hN⟩ := hv
  have hx := B.exec
  have hb := B.bytes
  have hr := B.returns
  have hts := atoms_spec (ws := wsX6_hearers) B.pre
  have hown : s.vm.findClass RX6 = some m.cls := findClass_of_methodNamed B.named
  have hlocks := B.notSynchronized
  have hin_X6 : ∀ w ∈ wsX60, w ∈ wsX6_hearers := fun _ w_h => (List.mem_cons_of_mem _ (List.mem_append_right _ w_h))
  have hl := lv_entry ([.ref (a i), .int (iZ but), .int (iZ sp)]) (n := 5) (Nat.le_of_ble_eq_true rfl)
  rw [lg_entry_eq]
  generalize (lg_sl ([.ref (a i), .int (iZ but), .int (iZ sp)]) ++ List.replicate (5 - (lg_sl ([.ref (a i), .int (iZ but), .int (iZ sp)])).length) Slot.unset).toArray = ls at hl ⊢
  replace hl : lv_has ls 5 [(0, .ref (a i)), (1, .int (iZ but)), (2, .int (iZ sp))] := hl
  have hS : va_S (cA a) s.heap s.heap [] := va_S.rf
  have hn := hT.now
  refine lv_iconst (v := iZ 0) hx hb dX6_hearers_0 (by decide) ?_
  refine lv_istore_n (lv' := [(3, .int (iZ 0)), (0, .ref (a i)), (1, .int (iZ but)), (2, .int (iZ sp))]) hx hb dX6_hearers_1 rfl hl (by decide) rfl (fun ls hl => ?_)
  refine lv_iconst (v := iZ 0) hx hb dX6_hearers_2 (by decide) ?_
  refine lv_istore (lv' := [(4, .int (iZ 0)), (3, .int (iZ 0)), (0, .ref (a i)), (1, .int (iZ but)), (2, .int (iZ sp))]) hx hb dX6_hearers_3 hl (by decide) rfl (fun ls hl => ?_)
  replace hl : lv_has ls 5 [(4, .int (iZ (0 : Int))), (3, .int (iZ (0 : Int))), (0, .ref (a i)), (1, .int (iZ but)), (2, .int (iZ sp))] := lv_sub hl [0, 1, 2, 3, 4] rfl
  revert ls
  refine z_loop (σ := Int × Int) (fun x9 => (0 ≤ x9.2 ∧ x9.2 ≤ V i 7) ∧ (x9.1 = s_heN (V (i + 1)) (V (i + 2)) sp but (Int.toNat x9.2))) (fun x9 => [(4, .int (iZ (x9.2))), (3, .int (iZ (x9.1))), (0, .ref (a i)), (1, .int (iZ but)), (2, .int (iZ sp))]) 5 (fun x9 => (V i 7 - x9.2).toNat) ((0 : Int), (0 : Int)) ⟨(by show 0 ≤ (0 : Int) ∧ (0 : Int) ≤ V i 7; omega), (by show (0 : Int) = s_heN (V (i + 1)) (V (i + 2)) sp but (Int.toNat (0 : Int)); rfl)⟩ ?_
  rintro ⟨st, kk⟩ hI9 ih5 ls hl
  obtain ⟨i1, i2⟩ := hI9
  replace i1 : 0 ≤ kk ∧ kk ≤ V i 7 := i1
  replace i2 : st = s_heN (V (i + 1)) (V (i + 2)) sp but (Int.toNat kk) := i2
  replace hl : lv_has ls 5 [(4, .int (iZ kk)), (3, .int (iZ st)), (0, .ref (a i)), (1, .int (iZ but)), (2, .int (iZ sp))] := hl
  have hbd := s_heN_bd (V (i + 1)) (V (i + 2)) sp but (Int.toNat kk) 6 (by omega)
  have hzp := zp_nn kk
  refine W.eq (g2 := F0 m 5 ls []) rfl ?_
  refine lv_iload hx hb dX6_hearers_5 (lv_at hl 0 rfl) ?_
  refine lv_aload_n hx hb dX6_hearers_7 rfl (lv_at hl 2 rfl) ?_
  refine kq_get (i := i) hx hb hts hin_X6 hown hK hP (isTo.l0 hi) (cE_15 (isTo.s0 hi)) rfl 7 (by decide) (hts (.fieldLink RX6 36 "WordFletchers$Told" "people" "I") (List.mem_cons_of_mem _ (List.mem_append_left _ (List.mem_of_getElem? (i := 0) rfl)))) rfl dX6_hearers_8 ?_
  refine z_icmp_ge (x := kk) (y := (V i 7)) (tgt := 43) hx hb (by omega) (by omega) dX6_hearers_11 (by decide) (fun c1 => ?_) (fun c1 => ?_)
  · refine W.eq (g2 := F0 m 43 ls []) rfl ?_
    refine lv_iload_n hx hb dX6_hearers_43 rfl (lv_at hl 1 rfl) ?_
    exact mq_ret hx hb hr rfl (by have q : kk = V i 7 := (by omega); rw [i2, q]) dX6_hearers_44 hlocks rfl
  · refine lv_iload hx hb dX6_hearers_14 (lv_at hl 0 rfl) ?_
    refine lv_iload_n hx hb dX6_hearers_16 rfl (lv_at hl 3 rfl) ?_
    refine z_icmp_eq (x := kk) (y := but) (tgt := 37) hx hb (by omega) (by omega) dX6_hearers_17 (by decide) (fun c4 => ?_) (fun c4 => ?_)
    · refine lv_iinc (v := iZ (kk + 1)) (lv' := [(4, .int (iZ (kk + 1))), (3, .int (iZ st)), (0, .ref (a i)), (1, .int (iZ but)), (2, .int (iZ sp))]) hx hb dX6_hearers_37 hl (k := 0) rfl (iZ_add _ _) (by decide) rfl (fun ls hl => ?_)
      refine lv_goto (tgt := 5) hx hb dX6_hearers_40 (by decide) ?_
      exact ih5 (st, (kk + 1)) ⟨(by show 0 ≤ (kk + 1) ∧ (kk + 1) ≤ V i 7; omega), (by show st = s_heN (V (i + 1)) (V (i + 2)) sp but (Int.toNat (kk + 1)); rw [s_heN_succ _ _ _ _ (by omega), ← i2]; first | (rw [if_pos (by omega)]; done) | (rw [if_neg (by omega), zor_0 (by omega)]))⟩ (by show (V i 7 - (kk + 1)).toNat < (V i 7 - kk).toNat; omega) ls (lv_sub hl [0, 1, 2, 3, 4] rfl)
    · refine lv_aload_n hx hb dX6_hearers_20 rfl (lv_at hl 2 rfl) ?_
      refine lv_iload hx hb dX6_hearers_21 (lv_at hl 0 rfl) ?_
      refine lv_iload_n hx hb dX6_hearers_23 rfl (lv_at hl 4 rfl) ?_
      refine kq_ci (i := i) (As := [.int (iZ kk), .int (iZ sp)]) (rest := []) ⟨hx, hb, hml, hown, hts⟩ hK hP hN hS (isTo.l0 hi) (cE_15 (isTo.s0 hi)) rfl (K_X6_hears l D C a b V i hi kk sp (by assumption) (by omega) (by omega)) (cwV 2 hts gX6_hearers_X6_hears rfl rfl rfl (by decide +kernel) ⟨Nat.le_of_ble_eq_true rfl, Nat.le_of_ble_eq_true rfl⟩) rfl rfl hl.1 (Nat.le_of_ble_eq_true rfl) ⟨Nat.le_of_ble_eq_true rfl, Nat.le_of_ble_eq_true rfl⟩ dX6_hearers_24 ?_
      refine z_ifb_eq (P := (s_hear (V (i + 1) (Int.toNat kk)) (V (i + 2) (Int.toNat kk)) sp)) (tgt := 37) hx hb dX6_hearers_27 (by decide) (fun c5 => ?_) (fun c5 => ?_)
      · refine W.eq (g2 := F0 m 37 ls []) rfl ?_
        refine lv_iinc (v := iZ (kk + 1)) (lv' := [(4, .int (iZ (kk + 1))), (3, .int (iZ st)), (0, .ref (a i)), (1, .int (iZ but)), (2, .int (iZ sp))]) hx hb dX6_hearers_37 hl (k := 0) rfl (iZ_add _ _) (by decide) rfl (fun ls hl => ?_)
        refine lv_goto (tgt := 5) hx hb dX6_hearers_40 (by decide) ?_
        exact ih5 (st, (kk + 1)) ⟨(by show 0 ≤ (kk + 1) ∧ (kk + 1) ≤ V i 7; omega), (by show st = s_heN (V (i + 1)) (V (i + 2)) sp but (Int.toNat (kk + 1)); rw [s_heN_succ _ _ _ _ (by omega), ← i2]; first | (rw [if_pos (by omega)]; done) | (rw [if_neg (by omega), zor_0 (by omega)]))⟩ (by show (V i 7 - (kk + 1)).toNat < (V i 7 - kk).toNat; omega) ls (lv_sub hl [0, 1, 2, 3, 4] rfl)
      · refine lv_iload_n hx hb dX6_hearers_30 rfl (lv_at hl 1 rfl) ?_
        refine lv_iconst (v := iZ 1) hx hb dX6_hearers_31 (by decide) ?_
        refine lv_iload hx hb dX6_hearers_32 (lv_at hl 0 rfl) ?_
        refine z_ishl1 hx hb (by omega) dX6_hearers_34 ?_
        refine z_ior hx hb (by omega) (by omega) dX6_hearers_35 ?_
        refine lv_istore_n (lv' := [(3, .int (iZ (zor st (zp kk)))), (4, .int (iZ kk)), (0, .ref (a i)), (1, .int (iZ but)), (2, .int (iZ sp))]) hx hb dX6_hearers_36 rfl hl (by decide) rfl (fun ls hl => ?_)
        refine lv_iinc (v := iZ (kk + 1)) (lv' := [(4, .int (iZ (kk + 1))), (3, .int (iZ (zor st (zp kk)))), (0, .ref (a i)), (1, .int (iZ but)), (2, .int (iZ sp))]) hx hb dX6_hearers_37 hl (k := 1) rfl (iZ_add _ _) (by decide) rfl (fun ls hl => ?_)
        refine lv_goto (tgt := 5) hx hb dX6_hearers_40 (by decide) ?_
        exact ih5 ((zor st (zp kk)), (kk + 1)) ⟨(by show 0 ≤ (kk + 1) ∧ (kk + 1) ≤ V i 7; omega), (by show (zor st (zp kk)) = s_heN (V (i + 1)) (V (i + 2)) sp but (Int.toNat (kk + 1)); rw [s_heN_succ _ _ _ _ (by omega), ← i2]; first | (rw [if_pos (by omega)]; done) | (rw [if_neg (by omega), zor_0 (by omega)]))⟩ (by show (V i 7 - (kk + 1)).toNat < (V i 7 - kk).toNat; omega) ls (lv_sub hl [0, 1, 2, 3, 4] rfl)
set_option maxHeartbeats 4000000 in
set_option maxRecDepth 100000 in
theorem K_X6_landings (l : Launch) (D : va_G) (C : cC) (a b : Nat → Nat) (V : Nat → Nat → Int) (i : Nat) (hi : isTo i) (pe : Int) (sy : Int) (wi : Int) (dm : Int) (hT : toI V i) (h1 : 0 ≤ pe ∧ pe < V i 7) (h2 : 0 ≤ sy ∧ sy < V i 8) (h6 : -4 ≤ wi ∧ wi ≤ 4) (h7 : 0 ≤ dm ∧ dm ≤ 5) : Met l yX6_landings wsX6_landings ({ frames := 3, cells := 0, slots := 0, locals := 81 }) (va_Pc [.ref (a i), .int (iZ pe), .int (iZ sy), .int (iZ wi), .int (iZ dm)] (cOk D C a b V)) (vp_Si (fun r => r = iZ (s_lgN (fun sh => s_land (V (i + 1) (Int.toNat pe)) (V (i + 4) (Int.toNat sy)) (V (i + 3) (Int.toNat sy)) dm (sh / 100) (sh / 10 % 10) (sh % 10) wi) 26))) 0 0 (fun _ => False) := by
  refine Met.ofW (cc := cX6_landings) (maxL := 11) (ret := (some .int)) (by decide) rfl ?_
  intro p e s m args below meth c s₁ B hml hv
  obtain ⟨rfl, hP, hK, hN⟩ := hv
  have hx := B.exec
  have hb := B.bytes
  have hr := B.returns
  have hts := atoms_spec (ws := wsX6_landings) B.pre
  have hown : s.vm.findClass RX6 = some m.cls := findClass_of_methodNamed B.named
  have hlocks := B.notSynchronized
  have hin_X6 : ∀ w ∈ wsX60, w ∈ wsX6_landings := fun _ w_h => (List.mem_cons_of_mem _ (List.mem_append_right _ w_h))
  have hl := lv_entry ([.ref (a i), .int (iZ pe), .int (iZ sy), .int (iZ wi), .int (iZ dm)]) (n := 11) (Nat.le_of_ble_eq_true rfl)
  rw [lg_entry_eq]
  generalize (lg_sl ([.ref (a i), .int (iZ pe), .int (iZ sy), .int (iZ wi), .int (iZ dm)]) ++ List.replicate (11 - (lg_sl ([.ref (a i), .int (iZ pe), .int (iZ sy), .int (iZ wi), .int (iZ dm)])).length) Slot.unset).toArray = ls at hl ⊢
  replace hl : lv_has ls 11 [(0, .ref (a i)), (1, .int (iZ pe)), (2, .int (iZ sy)), (3, .int (iZ wi)), (4, .int (iZ dm))] := hl
  have hS : va_S (cA a) s.heap s.heap [] := va_S.rf
  have hn := hT.now
  refine lv_iconst (v := iZ 0) hx hb dX6_landings_0 (by decide) ?_
  refine lv_istore (lv' := [(5, .int (iZ 0)), (0, .ref (a i)), (1, .int (iZ pe)), (2, .int (iZ sy)), (3, .int (iZ wi)), (4, .int (iZ dm))]) hx hb dX6_landings_1 hl (by decide) rfl (fun ls hl => ?_)
  refine W.eq (g2 := F0 m 3 ls []) rfl ?_
  refine va_getsN (host := RX7) hx hb hN.2.2.2.2.1 hS hown (va_Nw.use rfl hN.2.2.1) (fun _ h9 => h9) dX6_landings_3 ?_
  refine lv_astore (lv' := [(6, .ref (b 1)), (5, .int (iZ 0)), (0, .ref (a i)), (1, .int (iZ pe)), (2, .int (iZ sy)), (3, .int (iZ wi)), (4, .int (iZ dm))]) hx hb dX6_landings_6 hl (by decide) rfl (fun ls hl => ?_)
  refine lv_aload hx hb dX6_landings_8 (lv_at hl 0 rfl) ?_
  refine kq_slen (d := 1) (n := 26) (f := cKin) hx hb hN.2.2.2.2.2.2.2.1 (hN.2.2.2.2.2.2.2.2.2.1 1 (by decide)) hS dX6_landings_10 ?_
  refine lv_istore (lv' := [(7, .int (iZ 26)), (6, .ref (b 1)), (5, .int (iZ 0)), (0, .ref (a i)), (1, .int (iZ pe)), (2, .int (iZ sy)), (3, .int (iZ wi)), (4, .int (iZ dm))]) hx hb dX6_landings_11 hl (by decide) rfl (fun ls hl => ?_)
  refine lv_iconst (v := iZ 0) hx hb dX6_landings_13 (by decide) ?_
  refine lv_istore (lv' := [(8, .int (iZ 0)), (7, .int (iZ 26)), (6, .ref (b 1)), (5, .int (iZ 0)), (0, .ref (a i)), (1, .int (iZ pe)), (2, .int (iZ sy)), (3, .int (iZ wi)), (4, .int (iZ dm))]) hx hb dX6_landings_14 hl (by decide) rfl (fun ls hl => ?_)
  replace hl : lv_has ls 11 [(8, .int (iZ (0 : Int))), (7, .int (iZ 26)), (6, .ref (b 1)), (5, .int (iZ (0 : Int))), (0, .ref (a i)), (1, .int (iZ pe)), (2, .int (iZ sy)), (3, .int (iZ wi)), (4, .int (iZ dm))] := lv_sub hl [0, 1, 2, 3, 4, 5, 6, 7, 8] rfl
  revert ls
  refine z_loop (σ := Int × Int) (fun x9 => (0 ≤ x9.2 ∧ x9.2 ≤ 26) ∧ (x9.1 = s_lgN (fun sh => s_land (V (i + 1) (Int.toNat pe)) (V (i + 4) (Int.toNat sy)) (V (i + 3) (Int.toNat sy)) dm (sh / 100) (sh / 10 % 10) (sh % 10) wi) (Int.toNat x9.2))) (fun x9 => [(8, .int (iZ (x9.2))), (7, .int (iZ 26)), (6, .ref (b 1)), (5, .int (iZ (x9.1))), (0, .ref (a i)), (1, .int (iZ pe)), (2, .int (iZ sy)), (3, .int (iZ wi)), (4, .int (iZ dm))]) 11 (fun x9 => (26 - x9.2).toNat) ((0 : Int), (0 : Int)) ⟨(by show 0 ≤ (0 : Int) ∧ (0 : Int) ≤ 26; omega), (by show (0 : Int) = s_lgN (fun sh => s_land (V (i + 1) (Int.toNat pe)) (V (i + 4) (Int.toNat sy)) (V (i + 3) (Int.toNat sy)) dm (sh / 100) (sh / 10 % 10) (sh % 10) wi) (Int.toNat (0 : Int)); rfl)⟩ ?_
  rintro ⟨st, kk⟩ hI9 ih16 ls hl
  obtain ⟨i1, i2⟩ := hI9
  replace i1 : 0 ≤ kk ∧ kk ≤ 26 := i1
  replace i2 : st = s_lgN (fun sh => s_land (V (i + 1) (Int.toNat pe)) (V (i + 4) (Int.toNat sy)) (V (i + 3) (Int.toNat sy)) dm (sh / 100) (sh / 10 % 10) (sh % 10) wi) (Int.toNat kk) := i2
  replace hl : lv_has ls 11 [(8, .int (iZ kk)), (7, .int (iZ 26)), (6, .ref (b 1)), (5, .int (iZ st)), (0, .ref (a i)), (1, .int (iZ pe)), (2, .int (iZ sy)), (3, .int (iZ wi)), (4, .int (iZ dm))] := hl
  have hbd := s_lgN_nn (fun sh => s_land (V (i + 1) (Int.toNat pe)) (V (i + 4) (Int.toNat sy)) (V (i + 3) (Int.toNat sy)) dm (sh / 100) (sh / 10 % 10) (sh % 10) wi) (Int.toNat kk)
  have hkin := cKin_ok (k := kk)
  refine lv_iload hx hb dX6_landings_16 (lv_at hl 0 rfl) ?_
  refine lv_iload hx hb dX6_landings_18 (lv_at hl 1 rfl) ?_
  refine z_icmp_ge (x := kk) (y := 26) (tgt := 65) hx hb (by omega) (by omega) dX6_landings_20 (by decide) (fun c1 => ?_) (fun c1 => ?_)
  · refine lv_iload hx hb dX6_landings_65 (lv_at hl 3 rfl) ?_
    refine W.eq (g2 := F0 m 67 ls [.int (iZ st)]) rfl ?_
    exact mq_ret hx hb hr rfl (by have q : kk = 26 := (by omega); rw [i2, q]; rfl) dX6_landings_67 hlocks rfl
  · refine lv_aload hx hb dX6_landings_23 (lv_at hl 2 rfl) ?_
    refine lv_iload hx hb dX6_landings_25 (lv_at hl 0 rfl) ?_
    refine kq_sald (d := 1) (n := 26) (f := cKin) hx hb hN.2.2.2.2.2.2.2.1 (hN.2.2.2.2.2.2.2.2.2.1 1 (by decide)) hS (by decide) (Int.toNat kk) rfl (by omega) dX6_landings_27 ?_
    have hkn9 := hkin ⟨by omega, by omega⟩
    refine lv_istore (lv' := [(9, .int (iZ (cKin (Int.toNat kk)))), (8, .int (iZ kk)), (7, .int (iZ 26)), (6, .ref (b 1)), (5, .int (iZ st)), (0, .ref (a i)), (1, .int (iZ pe)), (2, .int (iZ sy)), (3, .int (iZ wi)), (4, .int (iZ dm))]) hx hb dX6_landings_28 hl (by decide) rfl (fun ls hl => ?_)
    refine lv_aload_n hx hb dX6_landings_30 rfl (lv_at hl 5 rfl) ?_
    refine lv_iload_n hx hb dX6_landings_31 rfl (lv_at hl 6 rfl) ?_
    refine lv_iload_n hx hb dX6_landings_32 rfl (lv_at hl 7 rfl) ?_
    refine lv_iload hx hb dX6_landings_33 (lv_at hl 0 rfl) ?_
    refine lv_iload_n hx hb dX6_landings_35 rfl (lv_at hl 8 rfl) ?_
    refine lv_iload hx hb dX6_landings_36 (lv_at hl 9 rfl) ?_
    refine kq_ci (i := i) (As := [.int (iZ pe), .int (iZ sy), .int (iZ (cKin (Int.toNat kk))), .int (iZ wi), .int (iZ dm)]) (rest := []) ⟨hx, hb, hml, hown, hts⟩ hK hP hN hS (isTo.l0 hi) (cE_15 (isTo.s0 hi)) rfl (K_X6_landing l D C a b V i hi pe sy (cKin (Int.toNat kk)) wi dm (by assumption) (by omega) (by omega) (by omega) (by omega) (by omega) (by omega)) (cwV 5 hts gX6_landings_X6_landing rfl rfl rfl (by decide +kernel) ⟨Nat.le_of_ble_eq_true rfl, Nat.le_of_ble_eq_true rfl⟩) rfl rfl hl.1 (Nat.le_of_ble_eq_true rfl) ⟨Nat.le_of_ble_eq_true rfl, Nat.le_of_ble_eq_true rfl⟩ dX6_landings_38 ?_
    have hld := s_land_bd (V (i + 1) (Int.toNat pe)) (V (i + 4) (Int.toNat sy)) (V (i + 3) (Int.toNat sy)) dm ((cKin (Int.toNat kk)) / 100) ((cKin (Int.toNat kk)) / 10 % 10) ((cKin (Int.toNat kk)) % 10) wi
    refine z_nm (fun la hla => ?_)
    have hla2 : la = -9 ∨ 0 ≤ la := by rw [hla]; exact s_land_or _ _ _ _ _ _ _ _
    rw [← hla] at hld
    have hzp := zp_nn la
    refine W.eq (g2 := F0 m 41 ls [.int (iZ la)]) rfl ?_
    refine lv_istore (lv' := [(10, .int (iZ la)), (9, .int (iZ (cKin (Int.toNat kk)))), (8, .int (iZ kk)), (7, .int (iZ 26)), (6, .ref (b 1)), (5, .int (iZ st)), (0, .ref (a i)), (1, .int (iZ pe)), (2, .int (iZ sy)), (3, .int (iZ wi)), (4, .int (iZ dm))]) hx hb dX6_landings_41 hl (by decide) rfl (fun ls hl => ?_)
    refine lv_iload hx hb dX6_landings_43 (lv_at hl 0 rfl) ?_
    refine lv_bipush (v := iZ (-9)) hx hb dX6_landings_45 (by decide) ?_
    refine z_icmp_eq (x := la) (y := (-9)) (tgt := 59) hx hb (by omega) (by omega) dX6_landings_47 (by decide) (fun c3 => ?_) (fun c3 => ?_)
    · refine lv_iinc (v := iZ (kk + 1)) (lv' := [(8, .int (iZ (kk + 1))), (10, .int (iZ la)), (9, .int (iZ (cKin (Int.toNat kk)))), (7, .int (iZ 26)), (6, .ref (b 1)), (5, .int (iZ st)), (0, .ref (a i)), (1, .int (iZ pe)), (2, .int (iZ sy)), (3, .int (iZ wi)), (4, .int (iZ dm))]) hx hb dX6_landings_59 hl (k := 2) rfl (iZ_add _ _) (by decide) rfl (fun ls hl => ?_)
      refine lv_goto (tgt := 16) hx hb dX6_landings_62 (by decide) ?_
      exact ih16 (st, (kk + 1)) ⟨(by show 0 ≤ (kk + 1) ∧ (kk + 1) ≤ 26; omega), (by show st = s_lgN (fun sh => s_land (V (i + 1) (Int.toNat pe)) (V (i + 4) (Int.toNat sy)) (V (i + 3) (Int.toNat sy)) dm (sh / 100) (sh / 10 % 10) (sh % 10) wi) (Int.toNat (kk + 1)); rw [s_lgN_succ _ i1.1, ← i2]; rw [← hla]; first | (rw [if_pos (by omega)]; done) | (rw [if_neg (by omega)]; done))⟩ (by show (26 - (kk + 1)).toNat < (26 - kk).toNat; omega) ls (lv_sub hl [0, 3, 4, 5, 6, 7, 8, 9, 10] rfl)
    · refine lv_iload hx hb dX6_landings_50 (lv_at hl 5 rfl) ?_
      refine lv_iconst (v := iZ 1) hx hb dX6_landings_52 (by decide) ?_
      refine lv_iload hx hb dX6_landings_53 (lv_at hl 0 rfl) ?_
      refine z_ishl1 hx hb (by omega) dX6_landings_55 ?_
      refine z_ior hx hb (by omega) (by omega) dX6_landings_56 ?_
      refine lv_istore (lv' := [(5, .int (iZ (zor st (zp la)))), (10, .int (iZ la)), (9, .int (iZ (cKin (Int.toNat kk)))), (8, .int (iZ kk)), (7, .int (iZ 26)), (6, .ref (b 1)), (0, .ref (a i)), (1, .int (iZ pe)), (2, .int (iZ sy)), (3, .int (iZ wi)), (4, .int (iZ dm))]) hx hb dX6_landings_57 hl (by decide) rfl (fun ls hl => ?_)
      refine W.eq (g2 := F0 m 59 ls []) rfl ?_
      refine lv_iinc (v := iZ (kk + 1)) (lv' := [(8, .int (iZ (kk + 1))), (5, .int (iZ (zor st (zp la)))), (10, .int (iZ la)), (9, .int (iZ (cKin (Int.toNat kk)))), (7, .int (iZ 26)), (6, .ref (b 1)), (0, .ref (a i)), (1, .int (iZ pe)), (2, .int (iZ sy)), (3, .int (iZ wi)), (4, .int (iZ dm))]) hx hb dX6_landings_59 hl (k := 3) rfl (iZ_add _ _) (by decide) rfl (fun ls hl => ?_)
      refine lv_goto (tgt := 16) hx hb dX6_landings_62 (by decide) ?_
      exact ih16 ((zor st (zp la)), (kk + 1)) ⟨(by show 0 ≤ (kk + 1) ∧ (kk + 1) ≤ 26; omega), (by show (zor st (zp la)) = s_lgN (fun sh => s_land (V (i + 1) (Int.toNat pe)) (V (i + 4) (Int.toNat sy)) (V (i + 3) (Int.toNat sy)) dm (sh / 100) (sh / 10 % 10) (sh % 10) wi) (Int.toNat (kk + 1)); rw [s_lgN_succ _ i1.1, ← i2]; rw [← hla]; first | (rw [if_pos (by omega)]; done) | (rw [if_neg (by omega)]; done))⟩ (by show (26 - (kk + 1)).toNat < (26 - kk).toNat; omega) ls (lv_sub hl [0, 4, 5, 1, 6, 7, 8, 9, 10] rfl)
