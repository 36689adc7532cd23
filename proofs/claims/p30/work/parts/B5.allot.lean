set_option maxHeartbeats 4000000 in
set_option maxRecDepth 100000 in
theorem K_X6_isSetOfSayings (l : Launch) (D : va_G) (C : cC) (a b : Nat → Nat) (V : Nat → Nat → Int) (i : Nat) (hi : isTo i) (st : Int) (hT : toI V i) (h1 : -2147483648 ≤ st ∧ st < 2147483648) : Met l yX6_isSetOfSayings wsX6_isSetOfSayings ({ frames := 0, cells := 0, slots := 0, locals := 0 }) (va_Pc [.ref (a i), .int (iZ st)] (cOk D C a b V)) (vp_Si (fun r => r = iZ (if (0 < st ∧ st < zp (V i 8)) then 1 else 0))) 0 0 (fun _ => False) := by
  refine Met.ofW (cc := cX6_isSetOfSayings) (maxL := 2) (ret := (some .boolean)) (by decide) rfl ?_
  intro p e s m args below meth c s₁ B hml hv
  obtain ⟨rfl, hP, hK, hN⟩ := hv
  have hx := B.exec
  have hb := B.bytes
  have hr := B.returns
  have hts := atoms_spec (ws := wsX6_isSetOfSayings) B.pre
  have hown : s.vm.findClass RX6 = some m.cls := findClass_of_methodNamed B.named
  have hlocks := B.notSynchronized
  have hin_X6 : ∀ w ∈ wsX60, w ∈ wsX6_isSetOfSayings := fun _ w_h => (List.mem_cons_of_mem _ (List.mem_append_right _ w_h))
  have hl := lv_entry ([.ref (a i), .int (iZ st)]) (n := 2) (Nat.le_of_ble_eq_true rfl)
  rw [lg_entry_eq]
  generalize (lg_sl ([.ref (a i), .int (iZ st)]) ++ List.replicate (2 - (lg_sl ([.ref (a i), .int (iZ st)])).length) Slot.unset).toArray = ls at hl ⊢
  replace hl : lv_has ls 2 [(0, .ref (a i)), (1, .int (iZ st))] := hl
  have hS : va_S (cA a) s.heap s.heap [] := va_S.rf
  have hn := hT.now
  have hz6 := zp_le64 (k := V i 8) (by omega)
  have hzn := zp_nn (V i 8)
  refine lv_iload_n hx hb dX6_isSetOfSayings_0 rfl (lv_at hl 1 rfl) ?_
  have K4 : ∀ (v3 : Int), (v3 = (if st ≤ 0 then 0 else (if (zp (V i 8)) ≤ st then 0 else 1))) → ∀ ls : Array Slot, lv_has ls 2 [] → W p l e ((headSpec wsX6_isSetOfSayings ({ frames := 0, cells := 0, slots := 0, locals := 0 })).room) s m (([.ref (a i), .int (iZ st)] : List Value).toArray) below meth c s.heap [] 0 0 (MQ below (vp_Si (fun r => r = iZ (if (0 < st ∧ st < zp (V i 8)) then 1 else 0))) (([.ref (a i), .int (iZ st)] : List Value).toArray) s 0 0 (fun _ => False)) (F0 m 19 ls [.int (iZ v3)]) := by
    intro v3 hv3 ls hl
    exact mq_ret hx hb hr (z_nbool (by first | omega | (split <;> omega))) (by first | omega | rfl | ((repeat' split) <;> first | rfl | omega) | (subst_vars; first | rfl | omega | ((repeat' split) <;> first | rfl | omega))) dX6_isSetOfSayings_19 hlocks rfl
  refine z_if_le (x := st) (tgt := 18) hx hb (by omega) dX6_isSetOfSayings_1 (by decide) (fun c1 => ?_) (fun c1 => ?_)
  · refine lv_iconst (v := iZ 0) hx hb dX6_isSetOfSayings_18 (by decide) ?_
    exact K4 0 (by first | rfl | (rw [if_pos c1]; done) | omega | (subst_vars; first | rfl | (rw [if_pos c1]; done) | omega)) ls (lv_sub hl [] rfl)
  · refine lv_iload_n hx hb dX6_isSetOfSayings_4 rfl (lv_at hl 1 rfl) ?_
    refine lv_iconst (v := iZ 1) hx hb dX6_isSetOfSayings_5 (by decide) ?_
    refine lv_aload_n hx hb dX6_isSetOfSayings_6 rfl (lv_at hl 0 rfl) ?_
    refine kq_get (i := i) hx hb hts hin_X6 hown hK hP (isTo.l0 hi) (cE_15 (isTo.s0 hi)) rfl 8 (by decide) (hts (.fieldLink RX6 40 "WordFletchers$Told" "sayings" "I") (List.mem_cons_of_mem _ (List.mem_append_left _ (List.mem_of_getElem? (i := 0) rfl)))) rfl dX6_isSetOfSayings_7 ?_
    refine W.eq (g2 := F0 m 10 ls [.int (iZ (V i 8)), .int (iZ 1), .int (iZ st)]) rfl ?_
    refine z_ishl1 hx hb (by omega) dX6_isSetOfSayings_10 ?_
    refine z_icmp_ge (x := st) (y := (zp (V i 8))) (tgt := 18) hx hb (by omega) (by omega) dX6_isSetOfSayings_11 (by decide) (fun c2 => ?_) (fun c2 => ?_)
    · refine lv_iconst (v := iZ 0) hx hb dX6_isSetOfSayings_18 (by decide) ?_
      exact K4 0 (by first | rfl | (rw [if_neg c1, if_pos c2]; done) | omega | (subst_vars; first | rfl | (rw [if_neg c1, if_pos c2]; done) | omega)) ls (lv_sub hl [] rfl)
    · refine lv_iconst (v := iZ 1) hx hb dX6_isSetOfSayings_14 (by decide) ?_
      refine lv_goto (tgt := 19) hx hb dX6_isSetOfSayings_15 (by decide) ?_
      exact K4 1 (by first | rfl | (rw [if_neg c1, if_neg c2]; done) | omega | (subst_vars; first | rfl | (rw [if_neg c1, if_neg c2]; done) | omega)) ls (lv_sub hl [] rfl)
set_option maxHeartbeats 20000000 in
set_option maxRecDepth 100000 in
theorem K_X7_fewestToBeHeard (l : Launch) (D : va_G) (C : cC) (a b : Nat → Nat) (V : Nat → Nat → Int) (sy : Int) (kd : Int) (hI : cI V) (h1 : 0 ≤ sy ∧ sy < V (Int.toNat (V 0 3)) 8) (h2 : 0 ≤ kd ∧ kd ≤ 3) : Met l yX7_fewestToBeHeard wsX7_fewestToBeHeard ({ frames := 5, cells := 0, slots := 0, locals := 109 }) (va_Pc [.ref (a 0), .int (iZ sy), .int (iZ kd)] (cOk D C a b V)) (vp_Si (fun r => r = iZ (c_few V sy kd))) 0 0 (fun _ => False) := by
  refine Met.ofW (cc := cX7_fewestToBeHeard) (maxL := 5) (ret := (some .int)) (by decide) rfl ?_
  intro p e s m args below meth c s₁ B hml hv
  obtain ⟨rfl, hP, hK, hN⟩ := hv
  have hx := B.exec
  have hb := B.bytes
  have hr := B.returns
  have hts := atoms_spec (ws := wsX7_fewestToBeHeard) B.pre
  have hown : s.vm.findClass RX7 = some m.cls := findClass_of_methodNamed B.named
  have hlocks := B.notSynchronized
  have hin_X7 : ∀ w ∈ wsX70, w ∈ wsX7_fewestToBeHeard := fun _ w_h => (List.mem_cons_of_mem _ (List.mem_append_left _ (List.mem_append_left _ (List.mem_append_right _ w_h))))
  have hin_X6 : ∀ w ∈ wsX60, w ∈ wsX7_fewestToBeHeard := fun _ w_h => (List.mem_cons_of_mem _ (List.mem_append_left _ (List.mem_append_right _ w_h)))
  have hin_X2 : ∀ w ∈ wsX20, w ∈ wsX7_fewestToBeHeard := fun _ w_h => (List.mem_cons_of_mem _ (List.mem_append_right _ w_h))
  have hl := lv_entry ([.ref (a 0), .int (iZ sy), .int (iZ kd)]) (n := 5) (Nat.le_of_ble_eq_true rfl)
  rw [lg_entry_eq]
  generalize (lg_sl ([.ref (a 0), .int (iZ sy), .int (iZ kd)]) ++ List.replicate (5 - (lg_sl ([.ref (a 0), .int (iZ sy), .int (iZ kd)])).length) Slot.unset).toArray = ls at hl ⊢
  replace hl : lv_has ls 5 [(0, .ref (a 0)), (1, .int (iZ sy)), (2, .int (iZ kd))] := hl
  have hS : va_S (cA a) s.heap s.heap [] := va_S.rf
  obtain ⟨hto, hto4, hne, htx, hT, hM, hpa, hpi, hki, hsz, hsg, hby⟩ := id hI
  have hnt := hT.now
  have hnm := hM.now
  have hq1 := hT.sy h1
  refine lv_aload_n hx hb dX7_fewestToBeHeard_0 rfl (lv_at hl 0 rfl) ?_
  refine kq_get (i := 0) hx hb hts hin_X7 hown hK hP (by decide) (cE_0 rfl) rfl 3 (by decide) (hts (.fieldLink RX7 29 "WordFletchers" "told" "LWordFletchers$Told;") (List.mem_cons_of_mem _ (List.mem_append_left _ (List.mem_append_left _ (List.mem_append_left _ (List.mem_append_left _ (List.mem_of_getElem? (i := 0) rfl))))))) rfl dX7_fewestToBeHeard_1 ?_
  refine kq_get (i := (Int.toNat (V 0 3))) hx hb hts hin_X6 hown hK hP (isTo.l0 (by assumption)) (cE_15 (isTo.s0 (by assumption))) rfl 4 (by decide) (hts (.fieldLink RX7 114 "WordFletchers$Told" "first" "[I") (List.mem_cons_of_mem _ (List.mem_append_left _ (List.mem_append_left _ (List.mem_append_left _ (List.mem_append_left _ (List.mem_of_getElem? (i := 1) rfl))))))) rfl dX7_fewestToBeHeard_4 ?_
  refine lv_iload_n hx hb dX7_fewestToBeHeard_7 rfl (lv_at hl 1 rfl) ?_
  refine kq_iald (i := ((Int.toNat (V 0 3)) + 5)) hx hb hK hP (isTo.l5 (by assumption)) (n := 6) (cE_20 (isTo.s5 (by assumption))) (by decide) (Int.toNat sy) rfl (by omega) dX7_fewestToBeHeard_8 ?_
  refine z_nm (fun pp hpp => ?_)
  refine lv_istore_n (lv' := [(3, .int (iZ pp)), (0, .ref (a 0)), (1, .int (iZ sy)), (2, .int (iZ kd))]) hx hb dX7_fewestToBeHeard_9 rfl hl (by decide) rfl (fun ls hl => ?_)
  refine W.eq (g2 := F0 m 10 ls []) rfl ?_
  refine lv_iload_n hx hb dX7_fewestToBeHeard_10 rfl (lv_at hl 3 rfl) ?_
  have K3 : ∀ (v2 : Int), (v2 = (if kd = 0 then 0 else 1)) → ∀ ls : Array Slot, lv_has ls 5 [(3, .int (iZ pp)), (0, .ref (a 0)), (1, .int (iZ sy)), (2, .int (iZ kd))] → W p l e ((headSpec wsX7_fewestToBeHeard ({ frames := 5, cells := 0, slots := 0, locals := 109 })).room) s m (([.ref (a 0), .int (iZ sy), .int (iZ kd)] : List Value).toArray) below meth c s.heap [] 0 0 (MQ below (vp_Si (fun r => r = iZ (c_few V sy kd))) (([.ref (a 0), .int (iZ sy), .int (iZ kd)] : List Value).toArray) s 0 0 (fun _ => False)) (F0 m 19 ls [.int (iZ v2)]) := by
    intro v2 hv2 ls hl
    refine lv_istore (lv' := [(4, .int (iZ v2)), (3, .int (iZ pp)), (0, .ref (a 0)), (1, .int (iZ sy)), (2, .int (iZ kd))]) hx hb dX7_fewestToBeHeard_19 hl (by decide) rfl (fun ls hl => ?_)
    replace hl : lv_has ls 5 [(4, .int (iZ v2)), (3, .int (iZ pp)), (0, .ref (a 0)), (1, .int (iZ sy)), (2, .int (iZ kd))] := lv_sub hl [0, 1, 2, 3, 4] rfl
    revert ls
    refine z_loop (σ := Int) (fun x9 => (0 ≤ x9 ∧ x9 ≤ 4) ∧ (c_few V sy kd = zfind (fun q => decide (¬ c_heN V pp (c_la V pp sy (100 * kd + 10 * q + 1) (c_wind V 0)) = 0)) (Int.toNat (4 - x9)) x9)) (fun x9 => [(4, .int (iZ x9)), (3, .int (iZ pp)), (0, .ref (a 0)), (1, .int (iZ sy)), (2, .int (iZ kd))]) 5 (fun x9 => (4 - x9).toNat) v2 ⟨(by show 0 ≤ v2 ∧ v2 ≤ 4; omega), (by show c_few V sy kd = zfind (fun q => decide (¬ c_heN V pp (c_la V pp sy (100 * kd + 10 * q + 1) (c_wind V 0)) = 0)) (Int.toNat (4 - v2)) v2; subst_vars; rfl)⟩ ?_
    rintro nn hI9 ih21 ls hl
    obtain ⟨i1, i2⟩ := hI9
    replace i1 : 0 ≤ nn ∧ nn ≤ 4 := i1
    replace i2 : c_few V sy kd = zfind (fun q => decide (¬ c_heN V pp (c_la V pp sy (100 * kd + 10 * q + 1) (c_wind V 0)) = 0)) (Int.toNat (4 - nn)) nn := i2
    replace hl : lv_has ls 5 [(4, .int (iZ nn)), (3, .int (iZ pp)), (0, .ref (a 0)), (1, .int (iZ sy)), (2, .int (iZ kd))] := hl
    refine lv_iload hx hb dX7_fewestToBeHeard_21 (lv_at hl 0 rfl) ?_
    refine lv_iconst (v := iZ 3) hx hb dX7_fewestToBeHeard_23 (by decide) ?_
    refine z_icmp_gt (x := nn) (y := 3) (tgt := 60) hx hb (by omega) (by omega) dX7_fewestToBeHeard_24 (by decide) (fun c4 => ?_) (fun c4 => ?_)
    · refine lv_bipush (v := iZ (-9)) hx hb dX7_fewestToBeHeard_60 (by decide) ?_
      exact mq_ret hx hb hr rfl (by first | (rw [i2, zfind_step _ 4 _ (by omega)]; exact (if_pos (decide_eq_true (by assumption))).symm) | (rw [i2, show Int.toNat (4 - nn) = 0 by omega]; rfl)) dX7_fewestToBeHeard_62 hlocks rfl
    · refine lv_aload_n hx hb dX7_fewestToBeHeard_27 rfl (lv_at hl 2 rfl) ?_
      refine W.eq (g2 := F0 m 28 ls [.ref (a 0)]) rfl ?_
      refine kq_get (i := 0) hx hb hts hin_X7 hown hK hP (by decide) (cE_0 rfl) rfl 3 (by decide) (hts (.fieldLink RX7 29 "WordFletchers" "told" "LWordFletchers$Told;") (List.mem_cons_of_mem _ (List.mem_append_left _ (List.mem_append_left _ (List.mem_append_left _ (List.mem_append_left _ (List.mem_of_getElem? (i := 0) rfl))))))) rfl dX7_fewestToBeHeard_28 ?_
      refine lv_iload_n hx hb dX7_fewestToBeHeard_31 rfl (lv_at hl 1 rfl) ?_
      refine lv_aload_n hx hb dX7_fewestToBeHeard_32 rfl (lv_at hl 2 rfl) ?_
      refine lv_iload_n hx hb dX7_fewestToBeHeard_33 rfl (lv_at hl 1 rfl) ?_
      refine lv_iload_n hx hb dX7_fewestToBeHeard_34 rfl (lv_at hl 3 rfl) ?_
      refine lv_iload_n hx hb dX7_fewestToBeHeard_35 rfl (lv_at hl 4 rfl) ?_
      refine lv_iload hx hb dX7_fewestToBeHeard_36 (lv_at hl 0 rfl) ?_
      refine lv_iconst (v := iZ 1) hx hb dX7_fewestToBeHeard_38 (by decide) ?_
      refine kq_cs (As := [.int (iZ kd), .int (iZ nn), .int (iZ 1)]) (rest := [.int (iZ sy), .int (iZ pp), .ref (a 0), .int (iZ pp), .ref (a (Int.toNat (V 0 3)))]) ⟨hx, hb, hml, hown, hts⟩ (K_X7_shotOf l kd nn 1 (by omega) (by omega) (by omega)) (va_cwS 3 hts gX7_fewestToBeHeard_X7_shotOf rfl rfl rfl (by decide +kernel) ⟨Nat.le_of_ble_eq_true rfl, Nat.le_of_ble_eq_true rfl⟩) rfl rfl hl.1 (Nat.le_of_ble_eq_true rfl) ⟨Nat.le_of_ble_eq_true rfl, Nat.le_of_ble_eq_true rfl⟩ dX7_fewestToBeHeard_39 ?_
      refine kq_ci (i := 0) (As := [.int (iZ pp), .int (iZ sy), .int (iZ (100 * kd + 10 * nn + 1))]) (rest := [.int (iZ pp), .ref (a (Int.toNat (V 0 3)))]) ⟨hx, hb, hml, hown, hts⟩ hK hP hN hS (by decide) (cE_0 rfl) rfl (K_X7_landingNow l D C a b V pp sy (100 * kd + 10 * nn + 1) hI (by omega) (by omega) (by omega) (by omega)) (cwV 3 hts gX7_fewestToBeHeard_X7_landingNow rfl rfl rfl (by decide +kernel) ⟨Nat.le_of_ble_eq_true rfl, Nat.le_of_ble_eq_true rfl⟩) rfl rfl hl.1 (Nat.le_of_ble_eq_true rfl) ⟨Nat.le_of_ble_eq_true rfl, Nat.le_of_ble_eq_true rfl⟩ dX7_fewestToBeHeard_42 ?_
      have hcl := c_la_bd V pp sy (100 * kd + 10 * nn + 1) (c_wind V 0)
      have hco := c_la_or V pp sy (100 * kd + 10 * nn + 1) (c_wind V 0)
      refine kq_ci (i := (Int.toNat (V 0 3))) (As := [.int (iZ pp), .int (iZ (c_la V pp sy (100 * kd + 10 * nn + 1) (c_wind V 0)))]) (rest := []) ⟨hx, hb, hml, hown, hts⟩ hK hP hN hS (isTo.l0 (by assumption)) (cE_15 (isTo.s0 (by assumption))) rfl (K_X6_hearers l D C a b V (Int.toNat (V 0 3)) (by assumption) pp (c_la V pp sy (100 * kd + 10 * nn + 1) (c_wind V 0)) (by assumption) (by omega) (by omega)) (cwV 2 hts gX7_fewestToBeHeard_X6_hearers rfl rfl rfl (by decide +kernel) ⟨Nat.le_of_ble_eq_true rfl, Nat.le_of_ble_eq_true rfl⟩) rfl rfl hl.1 (Nat.le_of_ble_eq_true rfl) ⟨Nat.le_of_ble_eq_true rfl, Nat.le_of_ble_eq_true rfl⟩ dX7_fewestToBeHeard_45 ?_
      have hhe9 := s_heN_bd (V ((Int.toNat (V 0 3)) + 1)) (V ((Int.toNat (V 0 3)) + 2)) (c_la V pp sy (100 * kd + 10 * nn + 1) (c_wind V 0)) pp (Int.toNat (V (Int.toNat (V 0 3)) 7)) 6 (by omega)
      refine z_if_eq (x := s_heN (V ((Int.toNat (V 0 3)) + 1)) (V ((Int.toNat (V 0 3)) + 2)) (c_la V pp sy (100 * kd + 10 * nn + 1) (c_wind V 0)) pp (Int.toNat (V (Int.toNat (V 0 3)) 7))) (tgt := 54) hx hb (by omega) dX7_fewestToBeHeard_48 (by decide) (fun c5 => ?_) (fun c5 => ?_)
      · refine W.eq (g2 := F0 m 54 ls []) rfl ?_
        refine lv_iinc (v := iZ (nn + 1)) (lv' := [(4, .int (iZ (nn + 1))), (3, .int (iZ pp)), (0, .ref (a 0)), (1, .int (iZ sy)), (2, .int (iZ kd))]) hx hb dX7_fewestToBeHeard_54 hl (k := 0) rfl (iZ_add _ _) (by decide) rfl (fun ls hl => ?_)
        refine lv_goto (tgt := 21) hx hb dX7_fewestToBeHeard_57 (by decide) ?_
        exact ih21 (nn + 1) ⟨(by show 0 ≤ (nn + 1) ∧ (nn + 1) ≤ 4; omega), (by show c_few V sy kd = zfind (fun q => decide (¬ c_heN V pp (c_la V pp sy (100 * kd + 10 * q + 1) (c_wind V 0)) = 0)) (Int.toNat (4 - (nn + 1))) (nn + 1); rw [i2, zfind_step _ 4 _ (by omega)]; exact if_neg (fun h9 => absurd (by assumption) (of_decide_eq_true h9)))⟩ (by show (4 - (nn + 1)).toNat < (4 - nn).toNat; omega) ls (lv_sub hl [0, 1, 2, 3, 4] rfl)
      · refine lv_iload hx hb dX7_fewestToBeHeard_51 (lv_at hl 0 rfl) ?_
        exact mq_ret hx hb hr rfl (by first | (rw [i2, zfind_step _ 4 _ (by omega)]; exact (if_pos (decide_eq_true (by assumption))).symm) | (rw [i2, show Int.toNat (4 - nn) = 0 by omega]; rfl)) dX7_fewestToBeHeard_53 hlocks rfl
  refine z_if_ne (x := kd) (tgt := 18) hx hb (by omega) dX7_fewestToBeHeard_11 (by decide) (fun c1 => ?_) (fun c1 => ?_)
  · refine lv_iconst (v := iZ 1) hx hb dX7_fewestToBeHeard_18 (by decide) ?_
    exact K3 1 (by first | rfl | (rw [if_neg c1]; done) | omega | (subst_vars; first | rfl | (rw [if_neg c1]; done) | omega)) ls (lv_sub hl [0, 1, 2, 3] rfl)
  · refine lv_iconst (v := iZ 0) hx hb dX7_fewestToBeHeard_14 (by decide) ?_
    refine lv_goto (tgt := 19) hx hb dX7_fewestToBeHeard_15 (by decide) ?_
    exact K3 0 (by first | rfl | (rw [if_pos c1]; done) | omega | (subst_vars; first | rfl | (rw [if_pos c1]; done) | omega)) ls (lv_sub hl [0, 1, 2, 3] rfl)
set_option maxHeartbeats 20000000 in
set_option maxRecDepth 100000 in
theorem K_X7_prepareAllotment (l : Launch) (D : va_G) (C : cC) (a b : Nat → Nat) (V : Nat → Nat → Int) (st : Int) (hI : cI V) (h1 : -2147483648 ≤ st ∧ st < 2147483648) (hDD : va_D (fun _ => True) (cW C a V)) : Met l yX7_prepareAllotment wsX7_prepareAllotment ({ frames := 6, cells := 0, slots := 0, locals := 133 }) (va_Pc [.ref (a 0), .int (iZ st)] (cOk D C a b V)) (va_Qv (fun (_ : Unit) => True) (fun _ t => cPo D C a (f_pre V st) t) (cA a)) 0 0 (cA a) := by
  refine Met.ofW (cc := cX7_prepareAllotment) (maxL := 5) (ret := none) (by decide) rfl ?_
  intro p e s m args below meth c s₁ B hml hv
  obtain ⟨rfl, hP, hK, hN⟩ := hv
  have hx := B.exec
  have hb := B.bytes
  have hr := B.returns
  have hts := atoms_spec (ws := wsX7_prepareAllotment) B.pre
  have hown : s.vm.findClass RX7 = some m.cls := findClass_of_methodNamed B.named
  have hlocks := B.notSynchronized
  have hin_X7 : ∀ w ∈ wsX70, w ∈ wsX7_prepareAllotment := fun _ w_h => (List.mem_cons_of_mem _ (List.mem_append_left _ (List.mem_append_left _ (List.mem_append_left _ (List.mem_append_right _ w_h)))))
  have hin_X0 : ∀ w ∈ wsX00, w ∈ wsX7_prepareAllotment := fun _ w_h => (List.mem_cons_of_mem _ (List.mem_append_left _ (List.mem_append_left _ (List.mem_append_right _ w_h))))
  have hin_X6 : ∀ w ∈ wsX60, w ∈ wsX7_prepareAllotment := fun _ w_h => (List.mem_cons_of_mem _ (List.mem_append_left _ (List.mem_append_right _ w_h)))
  have hin_X2 : ∀ w ∈ wsX20, w ∈ wsX7_prepareAllotment := fun _ w_h => (List.mem_cons_of_mem _ (List.mem_append_right _ w_h))
  have hl := lv_entry ([.ref (a 0), .int (iZ st)]) (n := 5) (Nat.le_of_ble_eq_true rfl)
  rw [lg_entry_eq]
  generalize (lg_sl ([.ref (a 0), .int (iZ st)]) ++ List.replicate (5 - (lg_sl ([.ref (a 0), .int (iZ st)])).length) Slot.unset).toArray = ls at hl ⊢
  replace hl : lv_has ls 5 [(0, .ref (a 0)), (1, .int (iZ st))] := hl
  have hD : va_D (cA a) (cW C a V) := cD_own hDD
  generalize hHe : s.heap = H at hP ⊢
  have hS : va_S (cA a) s.heap H [] := by rw [hHe]; exact va_S.rf
  generalize hlo : ([] : List Loc) = locs at hS ⊢
  clear hHe hlo
  obtain ⟨hto, hto4, hne, htx, hT, hM, hpa, hpi, hki, hsz, hsg, hby⟩ := id hI
  have hnt := hT.now
  have hnm := hM.now
  refine lv_aload_n hx hb dX7_prepareAllotment_0 rfl (lv_at hl 0 rfl) ?_
  refine kq_get (i := 0) hx hb hts hin_X7 hown hK hP (by decide) (cE_0 rfl) rfl 9 (by decide) (hts (.fieldLink RX7 66 "WordFletchers" "allotment" "LWordFletchers$Allotment;") (List.mem_cons_of_mem _ (List.mem_append_left _ (List.mem_append_left _ (List.mem_append_left _ (List.mem_append_left _ (List.mem_append_left _ (List.mem_of_getElem? (i := 0) rfl)))))))) rfl dX7_prepareAllotment_1 ?_
  refine lv_iconst (v := iZ 0) hx hb dX7_prepareAllotment_4 (by decide) ?_
  refine kq_put (ty := .int) (i := 9) hx hb hts hin_X0 hown tyX0 tyX0_ok nmX0 hK hP hD hS (by decide) (cE_9 rfl) rfl 3 (by decide) (hts (.fieldLink RX7 310 "WordFletchers$Allotment" "members" "I") (List.mem_cons_of_mem _ (List.mem_append_left _ (List.mem_append_left _ (List.mem_append_left _ (List.mem_append_left _ (List.mem_append_left _ (List.mem_of_getElem? (i := 1) rfl)))))))) rfl (by decide +kernel) rfl rfl (Nat.le_of_ble_eq_true rfl) rfl dX7_prepareAllotment_5 (fun H locs hP hD hS => ?_)
  obtain ⟨V1, hV1⟩ : ∃ z : Nat → Nat → Int, z = (mU V 9 3 0) := ⟨_, rfl⟩
  rw [← hV1] at hP hD
  refine lv_iconst (v := iZ 0) hx hb dX7_prepareAllotment_8 (by decide) ?_
  refine lv_istore_n (lv' := [(2, .int (iZ 0)), (0, .ref (a 0)), (1, .int (iZ st))]) hx hb dX7_prepareAllotment_9 rfl hl (by decide) rfl (fun ls hl => ?_)
  replace hl : lv_has ls 5 [(2, .int (iZ (0 : Int))), (0, .ref (a 0)), (1, .int (iZ st))] := lv_sub hl [0, 1, 2] rfl
  replace hP := And.intro hP hS
  clear hS
  revert ls
  revert hP
  revert H locs
  refine z_loopH (σ := Int × (Nat → Nat → Int)) (fun x9 => (0 ≤ x9.1 ∧ x9.1 ≤ V (Int.toNat (V 0 3)) 8) ∧ (x9.2 = f_pa V st (Int.toNat x9.1))) (fun x9 H9 locs9 => va_P D vwCl (cW C a (x9.2)) H9 ∧ va_S (cA a) s.heap H9 locs9) (fun x9 => [(2, .int (iZ (x9.1))), (0, .ref (a 0)), (1, .int (iZ st))]) 5 (fun x9 => (V (Int.toNat (V 0 3)) 8 - x9.1).toNat) ((0 : Int), V1) ⟨(by show 0 ≤ (0 : Int) ∧ (0 : Int) ≤ V (Int.toNat (V 0 3)) 8; omega), (by show V1 = f_pa V st (Int.toNat (0 : Int)); assumption)⟩ ?_
  rintro ⟨ss, Va⟩ hI9 ih10 H locs hPS ls hl
  have hP : va_P D vwCl (cW C a Va) H := hPS.1
  have hS : va_S (cA a) s.heap H locs := hPS.2
  clear hPS
  have hD : va_D (cA a) (cW C a Va) := cD_re hD
  obtain ⟨i1, i2⟩ := hI9
  replace i1 : 0 ≤ ss ∧ ss ≤ V (Int.toNat (V 0 3)) 8 := i1
  replace i2 : Va = f_pa V st (Int.toNat ss) := i2
  replace hl : lv_has ls 5 [(2, .int (iZ ss)), (0, .ref (a 0)), (1, .int (iZ st))] := hl
  obtain ⟨hA_Va, hmx, oal_Va⟩ : alI Va ∧ Va 9 3 ≤ Int.toNat ss ∧ c_alo V Va := by rw [i2]; exact f_pa_i V st _ (by omega)
  have hA1 := hA_Va.1
  have hI_Va : cI Va := cI_al hI oal_Va
  have hto_Va : isTo (Int.toNat (Va 0 3)) := hI_Va.1
  have e8_Va : Va (Int.toNat (Va 0 3)) 8 = V (Int.toNat (V 0 3)) 8 := by have q9 := hto; unfold isTo at q9; rw [oal_Va 0 (by decide) (by decide) (by decide) (by decide), oal_Va _ (by omega) (by omega) (by omega) (by omega)]
  refine lv_iload_n hx hb dX7_prepareAllotment_10 rfl (lv_at hl 0 rfl) ?_
  refine lv_aload_n hx hb dX7_prepareAllotment_11 rfl (lv_at hl 1 rfl) ?_
  refine W.eq (g2 := F0 m 12 ls [.ref (a 0), .int (iZ ss)]) rfl ?_
  refine kq_get (i := 0) hx hb hts hin_X7 hown hK hP (by decide) (cE_0 rfl) rfl 3 (by decide) (hts (.fieldLink RX7 29 "WordFletchers" "told" "LWordFletchers$Told;") (List.mem_cons_of_mem _ (List.mem_append_left _ (List.mem_append_left _ (List.mem_append_left _ (List.mem_append_left _ (List.mem_append_left _ (List.mem_of_getElem? (i := 2) rfl)))))))) rfl dX7_prepareAllotment_12 ?_
  refine kq_get (i := (Int.toNat (Va 0 3))) hx hb hts hin_X6 hown hK hP (isTo.l0 (by assumption)) (cE_15 (isTo.s0 (by assumption))) rfl 8 (by decide) (hts (.fieldLink RX7 219 "WordFletchers$Told" "sayings" "I") (List.mem_cons_of_mem _ (List.mem_append_left _ (List.mem_append_left _ (List.mem_append_left _ (List.mem_append_left _ (List.mem_append_left _ (List.mem_of_getElem? (i := 3) rfl)))))))) rfl dX7_prepareAllotment_15 ?_
  refine z_icmp_ge (x := ss) (y := (Va (Int.toNat (Va 0 3)) 8)) (tgt := 76) hx hb (by omega) (by omega) dX7_prepareAllotment_18 (by decide) (fun c2 => ?_) (fun c2 => ?_)
  · exact kq_retV hx hb hK hP hS hr (by have q : ss = V (Int.toNat (V 0 3)) 8 := (by omega); rw [i2, q]; rfl) dX7_prepareAllotment_76 hlocks
  · refine lv_iload_n hx hb dX7_prepareAllotment_21 rfl (lv_at hl 2 rfl) ?_
    refine lv_iload_n hx hb dX7_prepareAllotment_22 rfl (lv_at hl 0 rfl) ?_
    refine kq_cs (As := [.int (iZ st), .int (iZ ss)]) (rest := []) ⟨hx, hb, hml, hown, hts⟩ (K_X7_isIn l st ss (by omega) (by omega)) (va_cwS 2 hts gX7_prepareAllotment_X7_isIn rfl rfl rfl (by decide +kernel) ⟨Nat.le_of_ble_eq_true rfl, Nat.le_of_ble_eq_true rfl⟩) rfl rfl hl.1 (Nat.le_of_ble_eq_true rfl) ⟨Nat.le_of_ble_eq_true rfl, Nat.le_of_ble_eq_true rfl⟩ dX7_prepareAllotment_23 ?_
    refine z_ifb_eq (P := (st / zp ss % 2 = 1)) (tgt := 70) hx hb dX7_prepareAllotment_26 (by decide) (fun c8 => ?_) (fun c8 => ?_)
    · refine W.eq (g2 := F0 m 70 ls []) rfl ?_
      refine lv_iinc (v := iZ (ss + 1)) (lv' := [(2, .int (iZ (ss + 1))), (0, .ref (a 0)), (1, .int (iZ st))]) hx hb dX7_prepareAllotment_70 hl (k := 0) rfl (iZ_add _ _) (by decide) rfl (fun ls hl => ?_)
      refine lv_goto (tgt := 10) hx hb dX7_prepareAllotment_73 (by decide) ?_
      exact ih10 ((ss + 1), Va) ⟨(by show 0 ≤ (ss + 1) ∧ (ss + 1) ≤ V (Int.toNat (V 0 3)) 8; omega), (by show Va = f_pa V st (Int.toNat (ss + 1)); rw [f_pa_succ _ _ (by omega), ← i2]; first | exact (if_neg (by assumption)).symm | (refine Eq.trans ?_ (if_pos (by assumption)).symm; have q : kk = 4 := (by omega); rw [i4, q, hmb]; rfl))⟩ (by show (V (Int.toNat (V 0 3)) 8 - (ss + 1)).toNat < (V (Int.toNat (V 0 3)) 8 - ss).toNat; omega) H locs ⟨hP, hS⟩ ls (lv_sub hl [0, 1, 2] rfl)
    · refine lv_aload_n hx hb dX7_prepareAllotment_29 rfl (lv_at hl 1 rfl) ?_
      refine kq_get (i := 0) hx hb hts hin_X7 hown hK hP (by decide) (cE_0 rfl) rfl 9 (by decide) (hts (.fieldLink RX7 66 "WordFletchers" "allotment" "LWordFletchers$Allotment;") (List.mem_cons_of_mem _ (List.mem_append_left _ (List.mem_append_left _ (List.mem_append_left _ (List.mem_append_left _ (List.mem_append_left _ (List.mem_of_getElem? (i := 0) rfl)))))))) rfl dX7_prepareAllotment_30 ?_
      refine lv_iload_n hx hb dX7_prepareAllotment_33 rfl (lv_at hl 0 rfl) ?_
      refine kq_cm (i := 9) (As := [.int (iZ ss)]) (rest := []) ⟨hx, hb, hml, hown, hts⟩ hK hP hN hD hS (by decide) (cE_9 rfl) rfl (K_X0_addMember l D C a b Va ss ⟨by omega, by omega⟩ ⟨by omega, by omega⟩ (hD.weaken (fun _ _ _ _ => trivial))) (cwV 1 hts gX7_prepareAllotment_X0_addMember rfl rfl rfl (by decide +kernel) ⟨Nat.le_of_ble_eq_true rfl, Nat.le_of_ble_eq_true rfl⟩) rfl rfl hl.1 (Nat.le_of_ble_eq_true rfl) ⟨Nat.le_of_ble_eq_true rfl, Nat.le_of_ble_eq_true rfl⟩ dX7_prepareAllotment_34 (fun H locs hP hD hS => ?_)
      obtain ⟨V9, hV9⟩ : ∃ z : Nat → Nat → Int, z = (f_adm Va ss) := ⟨_, rfl⟩
      rw [← hV9] at hP hD
      refine z_nm (fun mb hmb => ?_)
      refine lv_istore_n (lv' := [(3, .int (iZ mb)), (2, .int (iZ ss)), (0, .ref (a 0)), (1, .int (iZ st))]) hx hb dX7_prepareAllotment_37 rfl hl (by decide) rfl (fun ls hl => ?_)
      refine lv_iconst (v := iZ 0) hx hb dX7_prepareAllotment_38 (by decide) ?_
      refine lv_istore (lv' := [(4, .int (iZ 0)), (3, .int (iZ mb)), (2, .int (iZ ss)), (0, .ref (a 0)), (1, .int (iZ st))]) hx hb dX7_prepareAllotment_39 hl (by decide) rfl (fun ls hl => ?_)
      replace hl : lv_has ls 5 [(4, .int (iZ (0 : Int))), (3, .int (iZ mb)), (2, .int (iZ ss)), (0, .ref (a 0)), (1, .int (iZ st))] := lv_sub hl [0, 1, 2, 3, 4] rfl
      replace hP := And.intro hP hS
      clear hS
      revert ls
      revert hP
      revert H locs
      refine z_loopH (σ := Int × (Nat → Nat → Int)) (fun x9 => (0 ≤ x9.1 ∧ x9.1 ≤ 4) ∧ (x9.2 = f_apk V (f_adm Va ss) mb ss (Int.toNat x9.1))) (fun x9 H9 locs9 => va_P D vwCl (cW C a (x9.2)) H9 ∧ va_S (cA a) s.heap H9 locs9) (fun x9 => [(4, .int (iZ (x9.1))), (3, .int (iZ mb)), (2, .int (iZ ss)), (0, .ref (a 0)), (1, .int (iZ st))]) 5 (fun x9 => (4 - x9.1).toNat) ((0 : Int), V9) ⟨(by show 0 ≤ (0 : Int) ∧ (0 : Int) ≤ 4; omega), (by show V9 = f_apk V (f_adm Va ss) mb ss (Int.toNat (0 : Int)); assumption)⟩ ?_
      rintro ⟨kk, Vb⟩ hI9 ih41 H locs hPS ls hl
      have hP : va_P D vwCl (cW C a Vb) H := hPS.1
      have hS : va_S (cA a) s.heap H locs := hPS.2
      clear hPS
      have hD : va_D (cA a) (cW C a Vb) := cD_re hD
      obtain ⟨i3, i4⟩ := hI9
      replace i3 : 0 ≤ kk ∧ kk ≤ 4 := i3
      replace i4 : Vb = f_apk V (f_adm Va ss) mb ss (Int.toNat kk) := i4
      replace hl : lv_has ls 5 [(4, .int (iZ kk)), (3, .int (iZ mb)), (2, .int (iZ ss)), (0, .ref (a 0)), (1, .int (iZ st))] := hl
      have oal_Vb : c_alo V Vb := by rw [i4]; exact fun g g1 g2 g3 g4 => by rw [f_apk_o _ _ _ _ _ g g3]; unfold f_adm; rw [mU_or _ _ _ g1, mU_or _ _ _ g2]; exact oal_Va g g1 g2 g3 g4
      have hI_Vb : cI Vb := cI_al hI oal_Vb
      have hto_Vb : isTo (Int.toNat (Vb 0 3)) := hI_Vb.1
      have e8_Vb : Vb (Int.toNat (Vb 0 3)) 8 = V (Int.toNat (V 0 3)) 8 := by have q9 := hto; unfold isTo at q9; rw [oal_Vb 0 (by decide) (by decide) (by decide) (by decide), oal_Vb _ (by omega) (by omega) (by omega) (by omega)]
      refine lv_iload hx hb dX7_prepareAllotment_41 (lv_at hl 0 rfl) ?_
      refine lv_iconst (v := iZ 4) hx hb dX7_prepareAllotment_43 (by decide) ?_
      refine z_icmp_ge (x := kk) (y := 4) (tgt := 70) hx hb (by omega) (by omega) dX7_prepareAllotment_44 (by decide) (fun c10 => ?_) (fun c10 => ?_)
      · refine lv_iinc (v := iZ (ss + 1)) (lv' := [(2, .int (iZ (ss + 1))), (4, .int (iZ kk)), (3, .int (iZ mb)), (0, .ref (a 0)), (1, .int (iZ st))]) hx hb dX7_prepareAllotment_70 hl (k := 2) rfl (iZ_add _ _) (by decide) rfl (fun ls hl => ?_)
        refine W.eq (g2 := F0 m 73 ls []) rfl ?_
        refine lv_goto (tgt := 10) hx hb dX7_prepareAllotment_73 (by decide) ?_
        exact ih10 ((ss + 1), Vb) ⟨(by show 0 ≤ (ss + 1) ∧ (ss + 1) ≤ V (Int.toNat (V 0 3)) 8; omega), (by show Vb = f_pa V st (Int.toNat (ss + 1)); rw [f_pa_succ _ _ (by omega), ← i2]; first | exact (if_neg (by assumption)).symm | (refine Eq.trans ?_ (if_pos (by assumption)).symm; have q : kk = 4 := (by omega); rw [i4, q, hmb]; rfl))⟩ (by show (V (Int.toNat (V 0 3)) 8 - (ss + 1)).toNat < (V (Int.toNat (V 0 3)) 8 - ss).toNat; omega) H locs ⟨hP, hS⟩ ls (lv_sub hl [0, 3, 4] rfl)
      · refine lv_aload_n hx hb dX7_prepareAllotment_47 rfl (lv_at hl 3 rfl) ?_
        refine kq_get (i := 0) hx hb hts hin_X7 hown hK hP (by decide) (cE_0 rfl) rfl 9 (by decide) (hts (.fieldLink RX7 66 "WordFletchers" "allotment" "LWordFletchers$Allotment;") (List.mem_cons_of_mem _ (List.mem_append_left _ (List.mem_append_left _ (List.mem_append_left _ (List.mem_append_left _ (List.mem_append_left _ (List.mem_of_getElem? (i := 0) rfl)))))))) rfl dX7_prepareAllotment_48 ?_
        refine lv_iload_n hx hb dX7_prepareAllotment_51 rfl (lv_at hl 1 rfl) ?_
        refine lv_iload hx hb dX7_prepareAllotment_52 (lv_at hl 0 rfl) ?_
        refine lv_aload_n hx hb dX7_prepareAllotment_54 rfl (lv_at hl 3 rfl) ?_
        refine lv_iload_n hx hb dX7_prepareAllotment_55 rfl (lv_at hl 2 rfl) ?_
        refine lv_iload hx hb dX7_prepareAllotment_56 (lv_at hl 0 rfl) ?_
        refine kq_ci (i := 0) (As := [.int (iZ ss), .int (iZ kk)]) (rest := [.int (iZ kk), .int (iZ mb), .ref (a 9)]) ⟨hx, hb, hml, hown, hts⟩ hK hP hN hS (by decide) (cE_0 rfl) rfl (K_X7_fewestToBeHeard l D C a b Vb ss kk hI_Vb ⟨by omega, by omega⟩ (by omega)) (cwV 2 hts gX7_prepareAllotment_X7_fewestToBeHeard rfl rfl rfl (by decide +kernel) ⟨Nat.le_of_ble_eq_true rfl, Nat.le_of_ble_eq_true rfl⟩) rfl rfl hl.1 (Nat.le_of_ble_eq_true rfl) ⟨Nat.le_of_ble_eq_true rfl, Nat.le_of_ble_eq_true rfl⟩ dX7_prepareAllotment_58 ?_
        have hfw := c_few_bd Vb ss kk
        refine kq_cv (i := 9) (As := [.int (iZ mb), .int (iZ kk), .int (iZ (c_few Vb ss kk))]) (rest := []) ⟨hx, hb, hml, hown, hts⟩ hK hP hN hD hS (by decide) (cE_9 rfl) rfl (K_X0_setFewest l D C a b Vb mb kk (c_few Vb ss kk) (by omega) (by omega) (hD.weaken (fun _ _ _ _ => trivial))) (cwV 3 hts gX7_prepareAllotment_X0_setFewest rfl rfl rfl (by decide +kernel) ⟨Nat.le_of_ble_eq_true rfl, Nat.le_of_ble_eq_true rfl⟩) rfl rfl hl.1 (Nat.le_of_ble_eq_true rfl) ⟨Nat.le_of_ble_eq_true rfl, Nat.le_of_ble_eq_true rfl⟩ dX7_prepareAllotment_61 (fun H locs hP hD hS => ?_)
        obtain ⟨V12, hV12⟩ : ∃ z : Nat → Nat → Int, z = (mU Vb 11 (Int.toNat (mb * 4 + kk)) (c_few Vb ss kk)) := ⟨_, rfl⟩
        rw [← hV12] at hP hD
        refine lv_iinc (v := iZ (kk + 1)) (lv' := [(4, .int (iZ (kk + 1))), (3, .int (iZ mb)), (2, .int (iZ ss)), (0, .ref (a 0)), (1, .int (iZ st))]) hx hb dX7_prepareAllotment_64 hl (k := 0) rfl (iZ_add _ _) (by decide) rfl (fun ls hl => ?_)
        refine lv_goto (tgt := 41) hx hb dX7_prepareAllotment_67 (by decide) ?_
        exact ih41 ((kk + 1), V12) ⟨(by show 0 ≤ (kk + 1) ∧ (kk + 1) ≤ 4; omega), (by show V12 = f_apk V (f_adm Va ss) mb ss (Int.toNat (kk + 1)); rw [f_apk_succ _ _ _ _ (by omega), ← i4, ← c_few_al hto oal_Vb]; assumption)⟩ (by show (4 - (kk + 1)).toNat < (4 - kk).toNat; omega) H locs ⟨hP, hS⟩ ls (lv_sub hl [0, 1, 2, 3, 4] rfl)
set_option maxHeartbeats 20000000 in
set_option maxRecDepth 100000 in
theorem K_X7_allot (l : Launch) (D : va_G) (C : cC) (a b : Nat → Nat) (V : Nat → Nat → Int) (st : Int) (sy : Int) (hI : cI V) (h1 : -2147483648 ≤ st ∧ st < 2147483648) (h2 : -2147483648 ≤ sy ∧ sy < 2147483648) (hDD : va_D (fun _ => True) (cW C a V)) : Met l yX7_allot wsX7_allot ({ frames := 7, cells := 0, slots := 0, locals := 157 }) (va_Pc [.ref (a 0), .int (iZ st), .int (iZ sy)] (cOk D C a b V)) (va_Qi (fun r (_ : Unit) => r = iZ (c_allot V st sy)) (fun _ t => cPo D C a (f_alt V st sy) t) (cA a)) 0 0 (cA a) := by
  refine Met.ofW (cc := cX7_allot) (maxL := 3) (ret := (some .int)) (by decide) rfl ?_
  intro p e s m args below meth c s₁ B hml hv
  obtain ⟨rfl, hP, hK, hN⟩ := hv
  have hx := B.exec
  have hb := B.bytes
  have hr := B.returns
  have hts := atoms_spec (ws := wsX7_allot) B.pre
  have hown : s.vm.findClass RX7 = some m.cls := findClass_of_methodNamed B.named
  have hlocks := B.notSynchronized
  have hin_X7 : ∀ w ∈ wsX70, w ∈ wsX7_allot := fun _ w_h => (List.mem_cons_of_mem _ (List.mem_append_left _ (List.mem_append_left _ (List.mem_append_left _ (List.mem_append_right _ w_h)))))
  have hin_X6 : ∀ w ∈ wsX60, w ∈ wsX7_allot := fun _ w_h => (List.mem_cons_of_mem _ (List.mem_append_left _ (List.mem_append_left _ (List.mem_append_right _ w_h))))
  have hin_X2 : ∀ w ∈ wsX20, w ∈ wsX7_allot := fun _ w_h => (List.mem_cons_of_mem _ (List.mem_append_left _ (List.mem_append_right _ w_h)))
  have hin_X0 : ∀ w ∈ wsX00, w ∈ wsX7_allot := fun _ w_h => (List.mem_cons_of_mem _ (List.mem_append_right _ w_h))
  have hl := lv_entry ([.ref (a 0), .int (iZ st), .int (iZ sy)]) (n := 3) (Nat.le_of_ble_eq_true rfl)
  rw [lg_entry_eq]
  generalize (lg_sl ([.ref (a 0), .int (iZ st), .int (iZ sy)]) ++ List.replicate (3 - (lg_sl ([.ref (a 0), .int (iZ st), .int (iZ sy)])).length) Slot.unset).toArray = ls at hl ⊢
  replace hl : lv_has ls 3 [(0, .ref (a 0)), (1, .int (iZ st)), (2, .int (iZ sy))] := hl
  have hD : va_D (cA a) (cW C a V) := cD_own hDD
  generalize hHe : s.heap = H at hP ⊢
  have hS : va_S (cA a) s.heap H [] := by rw [hHe]; exact va_S.rf
  generalize hlo : ([] : List Loc) = locs at hS ⊢
  clear hHe hlo
  obtain ⟨hto, hto4, hne, htx, hT, hM, hpa, hpi, hki, hsz, hsg, hby⟩ := id hI
  have hnt := hT.now
  have hnm := hM.now
  refine W.eq (g2 := F0 m 0 ls []) rfl ?_
  refine lv_aload_n hx hb dX7_allot_0 rfl (lv_at hl 0 rfl) ?_
  refine kq_get (i := 0) hx hb hts hin_X7 hown hK hP (by decide) (cE_0 rfl) rfl 3 (by decide) (hts (.fieldLink RX7 29 "WordFletchers" "told" "LWordFletchers$Told;") (List.mem_cons_of_mem _ (List.mem_append_left _ (List.mem_append_left _ (List.mem_append_left _ (List.mem_append_left _ (List.mem_append_left _ (List.mem_of_getElem? (i := 0) rfl)))))))) rfl dX7_allot_1 ?_
  refine lv_iload_n hx hb dX7_allot_4 rfl (lv_at hl 1 rfl) ?_
  refine kq_ci (i := (Int.toNat (V 0 3))) (As := [.int (iZ st)]) (rest := []) ⟨hx, hb, hml, hown, hts⟩ hK hP hN hS (isTo.l0 (by assumption)) (cE_15 (isTo.s0 (by assumption))) rfl (K_X6_isSetOfSayings l D C a b V (Int.toNat (V 0 3)) (by assumption) st (by assumption) (by omega)) (cwV 1 hts gX7_allot_X6_isSetOfSayings rfl rfl rfl (by decide +kernel) ⟨Nat.le_of_ble_eq_true rfl, Nat.le_of_ble_eq_true rfl⟩) rfl rfl hl.1 (Nat.le_of_ble_eq_true rfl) ⟨Nat.le_of_ble_eq_true rfl, Nat.le_of_ble_eq_true rfl⟩ dX7_allot_5 ?_
  refine z_ifb_eq (P := (0 < st ∧ st < zp (V (Int.toNat (V 0 3)) 8))) (tgt := 27) hx hb dX7_allot_8 (by decide) (fun c1 => ?_) (fun c1 => ?_)
  · refine lv_iconst (v := iZ (-1)) hx hb dX7_allot_27 (by decide) ?_
    exact kq_retM hx hb hK hP hS hr rfl (by unfold c_allot; first | (rw [if_pos hok, ← hse]; unfold c_all; subst_vars; first | exact (if_pos (by omega)).symm | (refine Eq.trans ?_ (if_neg (by omega)).symm; first | exact (if_pos (by omega)).symm | exact (if_neg (by omega)).symm)) | exact (if_neg (fun h9 => by unfold c_aok at h9; first | omega | exact absurd h9.1 (by assumption) | exact absurd (h9.2.2 (by omega)) (by assumption))).symm) (by unfold f_alt; first | (refine Eq.trans ?_ (if_pos hok).symm; exact hse) | exact (if_neg (fun h9 => by unfold c_aok at h9; first | omega | exact absurd h9.1 (by assumption) | exact absurd (h9.2.2 (by omega)) (by assumption))).symm) dX7_allot_28 hlocks
  · refine lv_iload_n hx hb dX7_allot_11 rfl (lv_at hl 2 rfl) ?_
    refine lv_iconst (v := iZ (-1)) hx hb dX7_allot_12 (by decide) ?_
    refine z_icmp_lt (x := sy) (y := (-1)) (tgt := 27) hx hb (by omega) (by omega) dX7_allot_13 (by decide) (fun c2 => ?_) (fun c2 => ?_)
    · refine lv_iconst (v := iZ (-1)) hx hb dX7_allot_27 (by decide) ?_
      exact kq_retM hx hb hK hP hS hr rfl (by unfold c_allot; first | (rw [if_pos hok, ← hse]; unfold c_all; subst_vars; first | exact (if_pos (by omega)).symm | (refine Eq.trans ?_ (if_neg (by omega)).symm; first | exact (if_pos (by omega)).symm | exact (if_neg (by omega)).symm)) | exact (if_neg (fun h9 => by unfold c_aok at h9; first | omega | exact absurd h9.1 (by assumption) | exact absurd (h9.2.2 (by omega)) (by assumption))).symm) (by unfold f_alt; first | (refine Eq.trans ?_ (if_pos hok).symm; exact hse) | exact (if_neg (fun h9 => by unfold c_aok at h9; first | omega | exact absurd h9.1 (by assumption) | exact absurd (h9.2.2 (by omega)) (by assumption))).symm) dX7_allot_28 hlocks
    · refine W.eq (g2 := F0 m 16 ls []) rfl ?_
      refine lv_iload_n hx hb dX7_allot_16 rfl (lv_at hl 2 rfl) ?_
      refine lv_aload_n hx hb dX7_allot_17 rfl (lv_at hl 0 rfl) ?_
      refine kq_get (i := 0) hx hb hts hin_X7 hown hK hP (by decide) (cE_0 rfl) rfl 3 (by decide) (hts (.fieldLink RX7 29 "WordFletchers" "told" "LWordFletchers$Told;") (List.mem_cons_of_mem _ (List.mem_append_left _ (List.mem_append_left _ (List.mem_append_left _ (List.mem_append_left _ (List.mem_append_left _ (List.mem_of_getElem? (i := 0) rfl)))))))) rfl dX7_allot_18 ?_
      refine kq_get (i := (Int.toNat (V 0 3))) hx hb hts hin_X6 hown hK hP (isTo.l0 (by assumption)) (cE_15 (isTo.s0 (by assumption))) rfl 8 (by decide) (hts (.fieldLink RX7 219 "WordFletchers$Told" "sayings" "I") (List.mem_cons_of_mem _ (List.mem_append_left _ (List.mem_append_left _ (List.mem_append_left _ (List.mem_append_left _ (List.mem_append_left _ (List.mem_of_getElem? (i := 1) rfl)))))))) rfl dX7_allot_21 ?_
      refine z_icmp_lt (x := sy) (y := (V (Int.toNat (V 0 3)) 8)) (tgt := 29) hx hb (by omega) (by omega) dX7_allot_24 (by decide) (fun c3 => ?_) (fun c3 => ?_)
      · refine lv_iload_n hx hb dX7_allot_29 rfl (lv_at hl 2 rfl) ?_
        refine z_if_lt (x := sy) (tgt := 43) hx hb (by omega) dX7_allot_30 (by decide) (fun c4 => ?_) (fun c4 => ?_)
        · refine lv_aload_n hx hb dX7_allot_43 rfl (lv_at hl 0 rfl) ?_
          refine lv_iload_n hx hb dX7_allot_44 rfl (lv_at hl 1 rfl) ?_
          refine kq_cv (i := 0) (As := [.int (iZ st)]) (rest := []) ⟨hx, hb, hml, hown, hts⟩ hK hP hN hD hS (by decide) (cE_0 rfl) rfl (K_X7_prepareAllotment l D C a b V st hI (by omega) (hD.weaken (fun _ _ _ _ => trivial))) (cwV 1 hts gX7_allot_X7_prepareAllotment rfl rfl rfl (by decide +kernel) ⟨Nat.le_of_ble_eq_true rfl, Nat.le_of_ble_eq_true rfl⟩) rfl rfl hl.1 (Nat.le_of_ble_eq_true rfl) ⟨Nat.le_of_ble_eq_true rfl, Nat.le_of_ble_eq_true rfl⟩ dX7_allot_45 (fun H locs hP hD hS => ?_)
          obtain ⟨V5, hV5⟩ : ∃ z : Nat → Nat → Int, z = (f_pre V st) := ⟨_, rfl⟩
          rw [← hV5] at hP hD
          have hpr : V5 = f_pre V st := hV5
          obtain ⟨hA_V5, hmx, oal⟩ : alI V5 ∧ V5 9 3 ≤ Int.toNat (V (Int.toNat (V 0 3)) 8) ∧ c_alo V V5 := by rw [hV5]; exact f_pa_i V st _ (by omega)
          have hM_V5 : moI V5 39 := (cI_al hI oal).2.2.2.2.2.1
          have hok : c_aok V st sy := by first | exact ⟨by assumption, by omega, fun _ => by assumption⟩ | exact ⟨by assumption, by omega, fun h9 => absurd h9 (by omega)⟩
          refine lv_aload_n hx hb dX7_allot_48 rfl (lv_at hl 0 rfl) ?_
          refine kq_get (i := 0) hx hb hts hin_X7 hown hK hP (by decide) (cE_0 rfl) rfl 9 (by decide) (hts (.fieldLink RX7 66 "WordFletchers" "allotment" "LWordFletchers$Allotment;") (List.mem_cons_of_mem _ (List.mem_append_left _ (List.mem_append_left _ (List.mem_append_left _ (List.mem_append_left _ (List.mem_append_left _ (List.mem_of_getElem? (i := 2) rfl)))))))) rfl dX7_allot_49 ?_
          refine W.eq (g2 := F0 m 52 ls [.ref (a 9)]) rfl ?_
          refine lv_aload_n hx hb dX7_allot_52 rfl (lv_at hl 0 rfl) ?_
          refine kq_get (i := 0) hx hb hts hin_X7 hown hK hP (by decide) (cE_0 rfl) rfl 5 (by decide) (hts (.fieldLink RX7 39 "WordFletchers" "moment" "LWordFletchers$Moment;") (List.mem_cons_of_mem _ (List.mem_append_left _ (List.mem_append_left _ (List.mem_append_left _ (List.mem_append_left _ (List.mem_append_left _ (List.mem_of_getElem? (i := 3) rfl)))))))) rfl dX7_allot_53 ?_
          refine kq_get (i := 39) hx hb hts hin_X2 hown hK hP (isMo.l0 isMo_39) (cE_26 (isMo.s0 isMo_39)) rfl 3 (by decide) (hts (.fieldLink RX7 142 "WordFletchers$Moment" "feathers" "[I") (List.mem_cons_of_mem _ (List.mem_append_left _ (List.mem_append_left _ (List.mem_append_left _ (List.mem_append_left _ (List.mem_append_left _ (List.mem_of_getElem? (i := 4) rfl)))))))) rfl dX7_allot_56 ?_
          refine kq_cm (i := 9) (As := [.ref (a 40)]) (rest := []) ⟨hx, hb, hml, hown, hts⟩ hK hP hN hD hS (by decide) (cE_9 rfl) rfl (K_X0_search l D C a b V5  (by assumption) (by assumption) (hD.weaken (fun _ _ _ _ => trivial))) (cwV 1 hts gX7_allot_X0_search rfl rfl rfl (by decide +kernel) ⟨Nat.le_of_ble_eq_true rfl, Nat.le_of_ble_eq_true rfl⟩) rfl rfl hl.1 (Nat.le_of_ble_eq_true rfl) ⟨Nat.le_of_ble_eq_true rfl, Nat.le_of_ble_eq_true rfl⟩ dX7_allot_59 (fun H locs hP hD hS => ?_)
          obtain ⟨V6, hV6⟩ : ∃ z : Nat → Nat → Int, z = (f_sea V5) := ⟨_, rfl⟩
          rw [← hV6] at hP hD
          have hse : V6 = f_sea (f_pre V st) := by rw [hV6, hpr]
          have h95 : V6 9 5 = f_sea V5 9 5 := by rw [hV6]
          have htt : c_tot V6 4096 := by rw [hV6]; exact f_sea_tot hA_V5
          unfold c_tot at htt
          have hA_V6 : alI V6 := by rw [hV6]; exact hA_V5.se (f_se_o _ _)
          refine z_ifb_ne (P := 0 ≤ f_sea V5 9 5) (tgt := 68) hx hb dX7_allot_62 (by decide) (fun c7 => ?_) (fun c7 => ?_)
          · refine lv_iload_n hx hb dX7_allot_68 rfl (lv_at hl 2 rfl) ?_
            refine z_if_ge (x := sy) (tgt := 82) hx hb (by omega) dX7_allot_69 (by decide) (fun c8 => ?_) (fun c8 => ?_)
            · refine lv_aload_n hx hb dX7_allot_82 rfl (lv_at hl 0 rfl) ?_
              refine kq_get (i := 0) hx hb hts hin_X7 hown hK hP (by decide) (cE_0 rfl) rfl 9 (by decide) (hts (.fieldLink RX7 66 "WordFletchers" "allotment" "LWordFletchers$Allotment;") (List.mem_cons_of_mem _ (List.mem_append_left _ (List.mem_append_left _ (List.mem_append_left _ (List.mem_append_left _ (List.mem_append_left _ (List.mem_of_getElem? (i := 2) rfl)))))))) rfl dX7_allot_83 ?_
              refine lv_iload_n hx hb dX7_allot_86 rfl (lv_at hl 2 rfl) ?_
              refine kq_ci (i := 9) (As := [.int (iZ sy)]) (rest := []) ⟨hx, hb, hml, hown, hts⟩ hK hP hN hS (by decide) (cE_9 rfl) rfl (K_X0_shareOf l D C a b V6 sy (by assumption) (by omega) (by omega)) (cwV 1 hts gX7_allot_X0_shareOf rfl rfl rfl (by decide +kernel) ⟨Nat.le_of_ble_eq_true rfl, Nat.le_of_ble_eq_true rfl⟩) rfl rfl hl.1 (Nat.le_of_ble_eq_true rfl) ⟨Nat.le_of_ble_eq_true rfl, Nat.le_of_ble_eq_true rfl⟩ dX7_allot_87 ?_
              exact kq_retM hx hb hK hP hS hr rfl (by unfold c_allot; first | (rw [if_pos hok, ← hse]; unfold c_all; subst_vars; first | exact (if_pos (by omega)).symm | (refine Eq.trans ?_ (if_neg (by omega)).symm; first | exact (if_pos (by omega)).symm | exact (if_neg (by omega)).symm)) | exact (if_neg (fun h9 => by unfold c_aok at h9; first | omega | exact absurd h9.1 (by assumption) | exact absurd (h9.2.2 (by omega)) (by assumption))).symm) (by unfold f_alt; first | (refine Eq.trans ?_ (if_pos hok).symm; exact hse) | exact (if_neg (fun h9 => by unfold c_aok at h9; first | omega | exact absurd h9.1 (by assumption) | exact absurd (h9.2.2 (by omega)) (by assumption))).symm) dX7_allot_90 hlocks
            · refine W.eq (g2 := F0 m 72 ls []) rfl ?_
              refine lv_aload_n hx hb dX7_allot_72 rfl (lv_at hl 0 rfl) ?_
              refine kq_get (i := 0) hx hb hts hin_X7 hown hK hP (by decide) (cE_0 rfl) rfl 9 (by decide) (hts (.fieldLink RX7 66 "WordFletchers" "allotment" "LWordFletchers$Allotment;") (List.mem_cons_of_mem _ (List.mem_append_left _ (List.mem_append_left _ (List.mem_append_left _ (List.mem_append_left _ (List.mem_append_left _ (List.mem_of_getElem? (i := 2) rfl)))))))) rfl dX7_allot_73 ?_
              refine kq_get (i := 9) hx hb hts hin_X0 hown hK hP (by decide) (cE_9 rfl) rfl 5 (by decide) (hts (.fieldLink RX7 232 "WordFletchers$Allotment" "total" "I") (List.mem_cons_of_mem _ (List.mem_append_left _ (List.mem_append_left _ (List.mem_append_left _ (List.mem_append_left _ (List.mem_append_left _ (List.mem_of_getElem? (i := 5) rfl)))))))) rfl dX7_allot_76 ?_
              refine lv_goto (tgt := 90) hx hb dX7_allot_79 (by decide) ?_
              exact kq_retM hx hb hK hP hS hr rfl (by unfold c_allot; first | (rw [if_pos hok, ← hse]; unfold c_all; subst_vars; first | exact (if_pos (by omega)).symm | (refine Eq.trans ?_ (if_neg (by omega)).symm; first | exact (if_pos (by omega)).symm | exact (if_neg (by omega)).symm)) | exact (if_neg (fun h9 => by unfold c_aok at h9; first | omega | exact absurd h9.1 (by assumption) | exact absurd (h9.2.2 (by omega)) (by assumption))).symm) (by unfold f_alt; first | (refine Eq.trans ?_ (if_pos hok).symm; exact hse) | exact (if_neg (fun h9 => by unfold c_aok at h9; first | omega | exact absurd h9.1 (by assumption) | exact absurd (h9.2.2 (by omega)) (by assumption))).symm) dX7_allot_90 hlocks
          · refine lv_bipush (v := iZ (-9)) hx hb dX7_allot_65 (by decide) ?_
            exact kq_retM hx hb hK hP hS hr rfl (by unfold c_allot; first | (rw [if_pos hok, ← hse]; unfold c_all; subst_vars; first | exact (if_pos (by omega)).symm | (refine Eq.trans ?_ (if_neg (by omega)).symm; first | exact (if_pos (by omega)).symm | exact (if_neg (by omega)).symm)) | exact (if_neg (fun h9 => by unfold c_aok at h9; first | omega | exact absurd h9.1 (by assumption) | exact absurd (h9.2.2 (by omega)) (by assumption))).symm) (by unfold f_alt; first | (refine Eq.trans ?_ (if_pos hok).symm; exact hse) | exact (if_neg (fun h9 => by unfold c_aok at h9; first | omega | exact absurd h9.1 (by assumption) | exact absurd (h9.2.2 (by omega)) (by assumption))).symm) dX7_allot_67 hlocks
        · refine lv_iload_n hx hb dX7_allot_33 rfl (lv_at hl 1 rfl) ?_
          refine lv_iload_n hx hb dX7_allot_34 rfl (lv_at hl 2 rfl) ?_
          refine kq_cs (As := [.int (iZ st), .int (iZ sy)]) (rest := []) ⟨hx, hb, hml, hown, hts⟩ (K_X7_isIn l st sy (by omega) (by omega)) (va_cwS 2 hts gX7_allot_X7_isIn rfl rfl rfl (by decide +kernel) ⟨Nat.le_of_ble_eq_true rfl, Nat.le_of_ble_eq_true rfl⟩) rfl rfl hl.1 (Nat.le_of_ble_eq_true rfl) ⟨Nat.le_of_ble_eq_true rfl, Nat.le_of_ble_eq_true rfl⟩ dX7_allot_35 ?_
          refine z_ifb_ne (P := (st / zp sy % 2 = 1)) (tgt := 43) hx hb dX7_allot_38 (by decide) (fun c9 => ?_) (fun c9 => ?_)
          · refine lv_aload_n hx hb dX7_allot_43 rfl (lv_at hl 0 rfl) ?_
            refine W.eq (g2 := F0 m 44 ls [.ref (a 0)]) rfl ?_
            refine lv_iload_n hx hb dX7_allot_44 rfl (lv_at hl 1 rfl) ?_
            refine kq_cv (i := 0) (As := [.int (iZ st)]) (rest := []) ⟨hx, hb, hml, hown, hts⟩ hK hP hN hD hS (by decide) (cE_0 rfl) rfl (K_X7_prepareAllotment l D C a b V st hI (by omega) (hD.weaken (fun _ _ _ _ => trivial))) (cwV 1 hts gX7_allot_X7_prepareAllotment rfl rfl rfl (by decide +kernel) ⟨Nat.le_of_ble_eq_true rfl, Nat.le_of_ble_eq_true rfl⟩) rfl rfl hl.1 (Nat.le_of_ble_eq_true rfl) ⟨Nat.le_of_ble_eq_true rfl, Nat.le_of_ble_eq_true rfl⟩ dX7_allot_45 (fun H locs hP hD hS => ?_)
            obtain ⟨V10, hV10⟩ : ∃ z : Nat → Nat → Int, z = (f_pre V st) := ⟨_, rfl⟩
            rw [← hV10] at hP hD
            have hpr : V10 = f_pre V st := hV10
            obtain ⟨hA_V10, hmx, oal⟩ : alI V10 ∧ V10 9 3 ≤ Int.toNat (V (Int.toNat (V 0 3)) 8) ∧ c_alo V V10 := by rw [hV10]; exact f_pa_i V st _ (by omega)
            have hM_V10 : moI V10 39 := (cI_al hI oal).2.2.2.2.2.1
            have hok : c_aok V st sy := by first | exact ⟨by assumption, by omega, fun _ => by assumption⟩ | exact ⟨by assumption, by omega, fun h9 => absurd h9 (by omega)⟩
            refine lv_aload_n hx hb dX7_allot_48 rfl (lv_at hl 0 rfl) ?_
            refine kq_get (i := 0) hx hb hts hin_X7 hown hK hP (by decide) (cE_0 rfl) rfl 9 (by decide) (hts (.fieldLink RX7 66 "WordFletchers" "allotment" "LWordFletchers$Allotment;") (List.mem_cons_of_mem _ (List.mem_append_left _ (List.mem_append_left _ (List.mem_append_left _ (List.mem_append_left _ (List.mem_append_left _ (List.mem_of_getElem? (i := 2) rfl)))))))) rfl dX7_allot_49 ?_
            refine lv_aload_n hx hb dX7_allot_52 rfl (lv_at hl 0 rfl) ?_
            refine kq_get (i := 0) hx hb hts hin_X7 hown hK hP (by decide) (cE_0 rfl) rfl 5 (by decide) (hts (.fieldLink RX7 39 "WordFletchers" "moment" "LWordFletchers$Moment;") (List.mem_cons_of_mem _ (List.mem_append_left _ (List.mem_append_left _ (List.mem_append_left _ (List.mem_append_left _ (List.mem_append_left _ (List.mem_of_getElem? (i := 3) rfl)))))))) rfl dX7_allot_53 ?_
            refine kq_get (i := 39) hx hb hts hin_X2 hown hK hP (isMo.l0 isMo_39) (cE_26 (isMo.s0 isMo_39)) rfl 3 (by decide) (hts (.fieldLink RX7 142 "WordFletchers$Moment" "feathers" "[I") (List.mem_cons_of_mem _ (List.mem_append_left _ (List.mem_append_left _ (List.mem_append_left _ (List.mem_append_left _ (List.mem_append_left _ (List.mem_of_getElem? (i := 4) rfl)))))))) rfl dX7_allot_56 ?_
            refine kq_cm (i := 9) (As := [.ref (a 40)]) (rest := []) ⟨hx, hb, hml, hown, hts⟩ hK hP hN hD hS (by decide) (cE_9 rfl) rfl (K_X0_search l D C a b V10  (by assumption) (by assumption) (hD.weaken (fun _ _ _ _ => trivial))) (cwV 1 hts gX7_allot_X0_search rfl rfl rfl (by decide +kernel) ⟨Nat.le_of_ble_eq_true rfl, Nat.le_of_ble_eq_true rfl⟩) rfl rfl hl.1 (Nat.le_of_ble_eq_true rfl) ⟨Nat.le_of_ble_eq_true rfl, Nat.le_of_ble_eq_true rfl⟩ dX7_allot_59 (fun H locs hP hD hS => ?_)
            obtain ⟨V11, hV11⟩ : ∃ z : Nat → Nat → Int, z = (f_sea V10) := ⟨_, rfl⟩
            rw [← hV11] at hP hD
            have hse : V11 = f_sea (f_pre V st) := by rw [hV11, hpr]
            have h95 : V11 9 5 = f_sea V10 9 5 := by rw [hV11]
            have htt : c_tot V11 4096 := by rw [hV11]; exact f_sea_tot hA_V10
            unfold c_tot at htt
            have hA_V11 : alI V11 := by rw [hV11]; exact hA_V10.se (f_se_o _ _)
            refine z_ifb_ne (P := 0 ≤ f_sea V10 9 5) (tgt := 68) hx hb dX7_allot_62 (by decide) (fun c12 => ?_) (fun c12 => ?_)
            · refine lv_iload_n hx hb dX7_allot_68 rfl (lv_at hl 2 rfl) ?_
              refine z_if_ge (x := sy) (tgt := 82) hx hb (by omega) dX7_allot_69 (by decide) (fun c13 => ?_) (fun c13 => ?_)
              · refine lv_aload_n hx hb dX7_allot_82 rfl (lv_at hl 0 rfl) ?_
                refine W.eq (g2 := F0 m 83 ls [.ref (a 0)]) rfl ?_
                refine kq_get (i := 0) hx hb hts hin_X7 hown hK hP (by decide) (cE_0 rfl) rfl 9 (by decide) (hts (.fieldLink RX7 66 "WordFletchers" "allotment" "LWordFletchers$Allotment;") (List.mem_cons_of_mem _ (List.mem_append_left _ (List.mem_append_left _ (List.mem_append_left _ (List.mem_append_left _ (List.mem_append_left _ (List.mem_of_getElem? (i := 2) rfl)))))))) rfl dX7_allot_83 ?_
                refine lv_iload_n hx hb dX7_allot_86 rfl (lv_at hl 2 rfl) ?_
                refine kq_ci (i := 9) (As := [.int (iZ sy)]) (rest := []) ⟨hx, hb, hml, hown, hts⟩ hK hP hN hS (by decide) (cE_9 rfl) rfl (K_X0_shareOf l D C a b V11 sy (by assumption) (by omega) (by omega)) (cwV 1 hts gX7_allot_X0_shareOf rfl rfl rfl (by decide +kernel) ⟨Nat.le_of_ble_eq_true rfl, Nat.le_of_ble_eq_true rfl⟩) rfl rfl hl.1 (Nat.le_of_ble_eq_true rfl) ⟨Nat.le_of_ble_eq_true rfl, Nat.le_of_ble_eq_true rfl⟩ dX7_allot_87 ?_
                exact kq_retM hx hb hK hP hS hr rfl (by unfold c_allot; first | (rw [if_pos hok, ← hse]; unfold c_all; subst_vars; first | exact (if_pos (by omega)).symm | (refine Eq.trans ?_ (if_neg (by omega)).symm; first | exact (if_pos (by omega)).symm | exact (if_neg (by omega)).symm)) | exact (if_neg (fun h9 => by unfold c_aok at h9; first | omega | exact absurd h9.1 (by assumption) | exact absurd (h9.2.2 (by omega)) (by assumption))).symm) (by unfold f_alt; first | (refine Eq.trans ?_ (if_pos hok).symm; exact hse) | exact (if_neg (fun h9 => by unfold c_aok at h9; first | omega | exact absurd h9.1 (by assumption) | exact absurd (h9.2.2 (by omega)) (by assumption))).symm) dX7_allot_90 hlocks
              · refine lv_aload_n hx hb dX7_allot_72 rfl (lv_at hl 0 rfl) ?_
                refine kq_get (i := 0) hx hb hts hin_X7 hown hK hP (by decide) (cE_0 rfl) rfl 9 (by decide) (hts (.fieldLink RX7 66 "WordFletchers" "allotment" "LWordFletchers$Allotment;") (List.mem_cons_of_mem _ (List.mem_append_left _ (List.mem_append_left _ (List.mem_append_left _ (List.mem_append_left _ (List.mem_append_left _ (List.mem_of_getElem? (i := 2) rfl)))))))) rfl dX7_allot_73 ?_
                refine kq_get (i := 9) hx hb hts hin_X0 hown hK hP (by decide) (cE_9 rfl) rfl 5 (by decide) (hts (.fieldLink RX7 232 "WordFletchers$Allotment" "total" "I") (List.mem_cons_of_mem _ (List.mem_append_left _ (List.mem_append_left _ (List.mem_append_left _ (List.mem_append_left _ (List.mem_append_left _ (List.mem_of_getElem? (i := 5) rfl)))))))) rfl dX7_allot_76 ?_
                refine lv_goto (tgt := 90) hx hb dX7_allot_79 (by decide) ?_
                exact kq_retM hx hb hK hP hS hr rfl (by unfold c_allot; first | (rw [if_pos hok, ← hse]; unfold c_all; subst_vars; first | exact (if_pos (by omega)).symm | (refine Eq.trans ?_ (if_neg (by omega)).symm; first | exact (if_pos (by omega)).symm | exact (if_neg (by omega)).symm)) | exact (if_neg (fun h9 => by unfold c_aok at h9; first | omega | exact absurd h9.1 (by assumption) | exact absurd (h9.2.2 (by omega)) (by assumption))).symm) (by unfold f_alt; first | (refine Eq.trans ?_ (if_pos hok).symm; exact hse) | exact (if_neg (fun h9 => by unfold c_aok at h9; first | omega | exact absurd h9.1 (by assumption) | exact absurd (h9.2.2 (by omega)) (by assumption))).symm) dX7_allot_90 hlocks
            · refine lv_bipush (v := iZ (-9)) hx hb dX7_allot_65 (by decide) ?_
              exact kq_retM hx hb hK hP hS hr rfl (by unfold c_allot; first | (rw [if_pos hok, ← hse]; unfold c_all; subst_vars; first | exact (if_pos (by omega)).symm | (refine Eq.trans ?_ (if_neg (by omega)).symm; first | exact (if_pos (by omega)).symm | exact (if_neg (by omega)).symm)) | exact (if_neg (fun h9 => by unfold c_aok at h9; first | omega | exact absurd h9.1 (by assumption) | exact absurd (h9.2.2 (by omega)) (by assumption))).symm) (by unfold f_alt; first | (refine Eq.trans ?_ (if_pos hok).symm; exact hse) | exact (if_neg (fun h9 => by unfold c_aok at h9; first | omega | exact absurd h9.1 (by assumption) | exact absurd (h9.2.2 (by omega)) (by assumption))).symm) dX7_allot_67 hlocks
          · refine lv_iconst (v := iZ (-1)) hx hb dX7_allot_41 (by decide) ?_
            refine W.eq (g2 := F0 m 42 ls [.int (iZ (-1))]) rfl ?_
            exact kq_retM hx hb hK hP hS hr rfl (by unfold c_allot; first | (rw [if_pos hok, ← hse]; unfold c_all; subst_vars; first | exact (if_pos (by omega)).symm | (refine Eq.trans ?_ (if_neg (by omega)).symm; first | exact (if_pos (by omega)).symm | exact (if_neg (by omega)).symm)) | exact (if_neg (fun h9 => by unfold c_aok at h9; first | omega | exact absurd h9.1 (by assumption) | exact absurd (h9.2.2 (by omega)) (by assumption))).symm) (by unfold f_alt; first | (refine Eq.trans ?_ (if_pos hok).symm; exact hse) | exact (if_neg (fun h9 => by unfold c_aok at h9; first | omega | exact absurd h9.1 (by assumption) | exact absurd (h9.2.2 (by omega)) (by assumption))).symm) dX7_allot_42 hlocks
      · refine lv_iconst (v := iZ (-1)) hx hb dX7_allot_27 (by decide) ?_
        exact kq_retM hx hb hK hP hS hr rfl (by unfold c_allot; first | (rw [if_pos hok, ← hse]; unfold c_all; subst_vars; first | exact (if_pos (by omega)).symm | (refine Eq.trans ?_ (if_neg (by omega)).symm; first | exact (if_pos (by omega)).symm | exact (if_neg (by omega)).symm)) | exact (if_neg (fun h9 => by unfold c_aok at h9; first | omega | exact absurd h9.1 (by assumption) | exact absurd (h9.2.2 (by omega)) (by assumption))).symm) (by unfold f_alt; first | (refine Eq.trans ?_ (if_pos hok).symm; exact hse) | exact (if_neg (fun h9 => by unfold c_aok at h9; first | omega | exact absurd h9.1 (by assumption) | exact absurd (h9.2.2 (by omega)) (by assumption))).symm) dX7_allot_28 hlocks
