set_option maxHeartbeats 4000000 in
set_option maxRecDepth 100000 in
theorem K_X6_isSetOfSayings_0 (l : Launch) (D : va_G) (C : cC) (a b : Nat → Nat) (V : Nat → Nat → Int) (i : Nat) (hi : isTo i) (st : Int) (h1 : -2147483648 ≤ st ∧ st < 2147483648) (h2 : V i 8 = 0) : Met l yX6_isSetOfSayings wsX6_isSetOfSayings ({ frames := 0, cells := 0, slots := 0, locals := 0 }) (va_Pc [.ref (a i), .int (iZ st)] (cOk D C a b V)) (vp_Si (fun r => r = iZ (0))) 0 0 (fun _ => False) := by
  refine Met.ofW (cc := cX6_isSetOfSayings) (maxL := 2) (ret := (some .boolean)) (by decide) rfl ?_
  intro p e s m args below meth c s₁ B hml hv
  obtain ⟨rfl, hP, hK, hN⟩ := hv
  have hx := B.exec
  have hb := B.bytes
  have hr := B.returns
  have hts := atoms_spec (ws := wsX6_isSetOfSayings) B.pre
  have hown : s.vm.findClass RX6 = some m.cls := findClass_of_methodNamed B.named
  have hlocks := B.notSynchronized
  have hin_X6 : ∀ w ∈ wsX60, w ∈ wsX6_isSetOfSayings := fun _ w_h => (List.mem_cons_of_mem _ (List.mem_append_right _ w_h))
  have hl := lv_entry ([.ref (a i), .int (iZ st)]) (n := 2) (Nat.le_of_ble_eq_true rfl)
  rw [lg_entry_eq]
  generalize (lg_sl ([.ref (a i), .int (iZ st)]) ++ List.replicate (2 - (lg_sl ([.ref (a i), .int (iZ st)])).length) Slot.unset).toArray = ls at hl ⊢
  replace hl : lv_has ls 2 [(0, .ref (a i)), (1, .int (iZ st))] := hl
  have hS : va_S (cA a) s.heap s.heap [] := va_S.rf
  have hz : zp (V i 8) = 1 := by rw [h2]; rfl
  refine lv_iload_n hx hb dX6_isSetOfSayings_0 rfl (lv_at hl 1 rfl) ?_
  have K4 : ∀ (v3 : Int), (v3 = (if st ≤ 0 then 0 else (if (zp (V i 8)) ≤ st then 0 else 1))) → ∀ ls : Array Slot, lv_has ls 2 [] → W p l e ((headSpec wsX6_isSetOfSayings ({ frames := 0, cells := 0, slots := 0, locals := 0 })).room) s m (([.ref (a i), .int (iZ st)] : List Value).toArray) below meth c s.heap [] 0 0 (MQ below (vp_Si (fun r => r = iZ (0))) (([.ref (a i), .int (iZ st)] : List Value).toArray) s 0 0 (fun _ => False)) (F0 m 19 ls [.int (iZ v3)]) := by
    intro v3 hv3 ls hl
    exact mq_ret hx hb hr (z_nbool (by first | omega | (split <;> omega))) (by first | omega | rfl | ((repeat' split) <;> first | rfl | omega) | (subst_vars; first | rfl | omega | ((repeat' split) <;> first | rfl | omega))) dX6_isSetOfSayings_19 hlocks rfl
  refine z_if_le (x := st) (tgt := 18) hx hb (by omega) dX6_isSetOfSayings_1 (by decide) (fun c1 => ?_) (fun c1 => ?_)
  · refine lv_iconst (v := iZ 0) hx hb dX6_isSetOfSayings_18 (by decide) ?_
    exact K4 0 (by first | rfl | (rw [if_pos c1]; done) | omega | (subst_vars; first | rfl | (rw [if_pos c1]; done) | omega)) ls (lv_sub hl [] rfl)
  · refine lv_iload_n hx hb dX6_isSetOfSayings_4 rfl (lv_at hl 1 rfl) ?_
    refine lv_iconst (v := iZ 1) hx hb dX6_isSetOfSayings_5 (by decide) ?_
    refine lv_aload_n hx hb dX6_isSetOfSayings_6 rfl (lv_at hl 0 rfl) ?_
    refine W.eq (g2 := F0 m 7 ls [.ref (a i), .int (iZ 1), .int (iZ st)]) rfl ?_
    refine kq_get (i := i) hx hb hts hin_X6 hown hK hP (isTo.l0 hi) (cE_15 (isTo.s0 hi)) rfl 8 (by decide) (hts (.fieldLink RX6 40 "WordFletchers$Told" "sayings" "I") (List.mem_cons_of_mem _ (List.mem_append_left _ (List.mem_of_getElem? (i := 0) rfl)))) rfl dX6_isSetOfSayings_7 ?_
    refine z_ishl1 hx hb (by omega) dX6_isSetOfSayings_10 ?_
    refine z_icmp_ge (x := st) (y := (zp (V i 8))) (tgt := 18) hx hb (by omega) (by omega) dX6_isSetOfSayings_11 (by decide) (fun c2 => ?_) (fun c2 => ?_)
    · refine lv_iconst (v := iZ 0) hx hb dX6_isSetOfSayings_18 (by decide) ?_
      exact K4 0 (by first | rfl | (rw [if_neg c1, if_pos c2]; done) | omega | (subst_vars; first | rfl | (rw [if_neg c1, if_pos c2]; done) | omega)) ls (lv_sub hl [] rfl)
    · refine lv_iconst (v := iZ 1) hx hb dX6_isSetOfSayings_14 (by decide) ?_
      refine lv_goto (tgt := 19) hx hb dX6_isSetOfSayings_15 (by decide) ?_
      exact K4 1 (by first | rfl | (rw [if_neg c1, if_neg c2]; done) | omega | (subst_vars; first | rfl | (rw [if_neg c1, if_neg c2]; done) | omega)) ls (lv_sub hl [] rfl)
set_option maxHeartbeats 4000000 in
set_option maxRecDepth 100000 in
theorem K_X7_undo_0 (l : Launch) (D : va_G) (C : cC) (a b : Nat → Nat) (V : Nat → Nat → Int) (h1 : V 31 1 = 0) : Met l yX7_undo wsX7_undo ({ frames := 0, cells := 0, slots := 0, locals := 0 }) (va_Pc [.ref (a 0)] (cOk D C a b V)) (vp_Si (fun r => r = iZ (-2))) 0 0 (fun _ => False) := by
  refine Met.ofW (cc := cX7_undo) (maxL := 1) (ret := (some .int)) (by decide) rfl ?_
  intro p e s m args below meth c s₁ B hml hv
  obtain ⟨rfl, hP, hK, hN⟩ := hv
  have hx := B.exec
  have hb := B.bytes
  have hr := B.returns
  have hts := atoms_spec (ws := wsX7_undo) B.pre
  have hown : s.vm.findClass RX7 = some m.cls := findClass_of_methodNamed B.named
  have hlocks := B.notSynchronized
  have hin_X7 : ∀ w ∈ wsX70, w ∈ wsX7_undo := fun _ w_h => (List.mem_cons_of_mem _ (List.mem_append_left _ (List.mem_append_left _ (List.mem_append_right _ w_h))))
  have hin_X3 : ∀ w ∈ wsX30, w ∈ wsX7_undo := fun _ w_h => (List.mem_cons_of_mem _ (List.mem_append_left _ (List.mem_append_right _ w_h)))
  have hin_X2 : ∀ w ∈ wsX20, w ∈ wsX7_undo := fun _ w_h => (List.mem_cons_of_mem _ (List.mem_append_right _ w_h))
  have hl := lv_entry ([.ref (a 0)]) (n := 1) (Nat.le_of_ble_eq_true rfl)
  rw [lg_entry_eq]
  generalize (lg_sl ([.ref (a 0)]) ++ List.replicate (1 - (lg_sl ([.ref (a 0)])).length) Slot.unset).toArray = ls at hl ⊢
  replace hl : lv_has ls 1 [(0, .ref (a 0))] := hl
  have hS : va_S (cA a) s.heap s.heap [] := va_S.rf
  refine lv_aload_n hx hb dX7_undo_0 rfl (lv_at hl 0 rfl) ?_
  refine kq_get (i := 0) hx hb hts hin_X7 hown hK hP (by decide) (cE_0 rfl) rfl 6 (by decide) (hts (.fieldLink RX7 46 "WordFletchers" "past" "LWordFletchers$Past;") (List.mem_cons_of_mem _ (List.mem_append_left _ (List.mem_append_left _ (List.mem_append_left _ (List.mem_append_left _ (List.mem_of_getElem? (i := 0) rfl))))))) rfl dX7_undo_1 ?_
  refine kq_get (i := 31) hx hb hts hin_X3 hown hK hP (isPa.l0 isPa_31) (cE_23 (isPa.s0 isPa_31)) rfl 1 (by decide) (hts (.fieldLink RX7 185 "WordFletchers$Past" "known" "I") (List.mem_cons_of_mem _ (List.mem_append_left _ (List.mem_append_left _ (List.mem_append_left _ (List.mem_append_left _ (List.mem_of_getElem? (i := 1) rfl))))))) rfl dX7_undo_4 ?_
  refine lv_iconst (v := iZ 1) hx hb dX7_undo_7 (by decide) ?_
  refine z_icmp_ge (x := (V 31 1)) (y := 1) (tgt := 14) hx hb (by omega) (by omega) dX7_undo_8 (by decide) (fun c1 => ?_) (fun c1 => ?_)
  · omega
  · refine W.eq (g2 := F0 m 11 ls []) rfl ?_
    refine lv_bipush (v := iZ (-2)) hx hb dX7_undo_11 (by decide) ?_
    exact mq_ret hx hb hr rfl rfl dX7_undo_13 hlocks rfl
set_option maxHeartbeats 4000000 in
set_option maxRecDepth 100000 in
theorem K_X7_isLetOff_0 (l : Launch) (D : va_G) (C : cC) (a b : Nat → Nat) (V : Nat → Nat → Int) (pe : Int) (sy : Int) (fe : Int) (nn : Int) (sd : Int) (hto : isTo (Int.toNat (V 0 3))) (hp0 : V (Int.toNat (V 0 3)) 7 = 0) (h0 : -2147483648 ≤ pe ∧ pe < 2147483648) (h1 : -2147483648 ≤ sy ∧ sy < 2147483648) (h2 : -2147483648 ≤ fe ∧ fe < 2147483648) (h3 : -2147483648 ≤ nn ∧ nn < 2147483648) (h4 : -2147483648 ≤ sd ∧ sd < 2147483648) : Met l yX7_isLetOff wsX7_isLetOff ({ frames := 1, cells := 0, slots := 0, locals := 21 }) (va_Pc [.ref (a 0), .int (iZ pe), .int (iZ sy), .int (iZ fe), .int (iZ nn), .int (iZ sd)] (cOk D C a b V)) (vp_Si (fun r => r = iZ (0))) 0 0 (fun _ => False) := by
  refine Met.ofW (cc := cX7_isLetOff) (maxL := 6) (ret := (some .boolean)) (by decide) rfl ?_
  intro p e s m args below meth c s₁ B hml hv
  obtain ⟨rfl, hP, hK, hN⟩ := hv
  have hx := B.exec
  have hb := B.bytes
  have hr := B.returns
  have hts := atoms_spec (ws := wsX7_isLetOff) B.pre
  have hown : s.vm.findClass RX7 = some m.cls := findClass_of_methodNamed B.named
  have hlocks := B.notSynchronized
  have hin_X7 : ∀ w ∈ wsX70, w ∈ wsX7_isLetOff := fun _ w_h => (List.mem_cons_of_mem _ (List.mem_append_left _ (List.mem_append_right _ w_h)))
  have hin_X6 : ∀ w ∈ wsX60, w ∈ wsX7_isLetOff := fun _ w_h => (List.mem_cons_of_mem _ (List.mem_append_right _ w_h))
  have hl := lv_entry ([.ref (a 0), .int (iZ pe), .int (iZ sy), .int (iZ fe), .int (iZ nn), .int (iZ sd)]) (n := 6) (Nat.le_of_ble_eq_true rfl)
  rw [lg_entry_eq]
  generalize (lg_sl ([.ref (a 0), .int (iZ pe), .int (iZ sy), .int (iZ fe), .int (iZ nn), .int (iZ sd)]) ++ List.replicate (6 - (lg_sl ([.ref (a 0), .int (iZ pe), .int (iZ sy), .int (iZ fe), .int (iZ nn), .int (iZ sd)])).length) Slot.unset).toArray = ls at hl ⊢
  replace hl : lv_has ls 6 [(0, .ref (a 0)), (1, .int (iZ pe)), (2, .int (iZ sy)), (3, .int (iZ fe)), (4, .int (iZ nn)), (5, .int (iZ sd))] := hl
  have hS : va_S (cA a) s.heap s.heap [] := va_S.rf
  refine lv_aload_n hx hb dX7_isLetOff_0 rfl (lv_at hl 0 rfl) ?_
  refine kq_get (i := 0) hx hb hts hin_X7 hown hK hP (by decide) (cE_0 rfl) rfl 3 (by decide) (hts (.fieldLink RX7 29 "WordFletchers" "told" "LWordFletchers$Told;") (List.mem_cons_of_mem _ (List.mem_append_left _ (List.mem_append_left _ (List.mem_of_getElem? (i := 0) rfl))))) rfl dX7_isLetOff_1 ?_
  refine lv_iload_n hx hb dX7_isLetOff_4 rfl (lv_at hl 1 rfl) ?_
  refine kq_ci (i := (Int.toNat (V 0 3))) (As := [.int (iZ pe)]) (rest := []) ⟨hx, hb, hml, hown, hts⟩ hK hP hN hS (isTo.l0 (by assumption)) (cE_15 (isTo.s0 (by assumption))) rfl (K_X6_hasOne l D C a b V (Int.toNat (V 0 3)) (by assumption) pe (by omega) (by omega)) (cwV 1 hts gX7_isLetOff_X6_hasOne rfl rfl rfl (by decide +kernel) ⟨Nat.le_of_ble_eq_true rfl, Nat.le_of_ble_eq_true rfl⟩) rfl rfl hl.1 (Nat.le_of_ble_eq_true rfl) ⟨Nat.le_of_ble_eq_true rfl, Nat.le_of_ble_eq_true rfl⟩ dX7_isLetOff_5 ?_
  refine z_ifb_eq (P := (0 ≤ pe ∧ pe < V (Int.toNat (V 0 3)) 7)) (tgt := 57) hx hb dX7_isLetOff_8 (by decide) (fun c1 => ?_) (fun c1 => ?_)
  · refine lv_iconst (v := iZ 0) hx hb dX7_isLetOff_57 (by decide) ?_
    exact mq_ret hx hb hr (z_nbool (by first | omega | (split <;> omega))) rfl dX7_isLetOff_58 hlocks rfl
  · omega
set_option maxHeartbeats 4000000 in
set_option maxRecDepth 100000 in
theorem K_X7_areTwo_0 (l : Launch) (D : va_G) (C : cC) (a b : Nat → Nat) (V : Nat → Nat → Int) (pe : Int) (ot : Int) (hto : isTo (Int.toNat (V 0 3))) (hp0 : V (Int.toNat (V 0 3)) 7 = 0) (h1 : -2147483648 ≤ pe ∧ pe < 2147483648) (h2 : -2147483648 ≤ ot ∧ ot < 2147483648) : Met l yX7_areTwo wsX7_areTwo ({ frames := 1, cells := 0, slots := 0, locals := 21 }) (va_Pc [.ref (a 0), .int (iZ pe), .int (iZ ot)] (cOk D C a b V)) (vp_Si (fun r => r = iZ (0))) 0 0 (fun _ => False) := by
  refine Met.ofW (cc := cX7_areTwo) (maxL := 3) (ret := (some .boolean)) (by decide) rfl ?_
  intro p e s m args below meth c s₁ B hml hv
  obtain ⟨rfl, hP, hK, hN⟩ := hv
  have hx := B.exec
  have hb := B.bytes
  have hr := B.returns
  have hts := atoms_spec (ws := wsX7_areTwo) B.pre
  have hown : s.vm.findClass RX7 = some m.cls := findClass_of_methodNamed B.named
  have hlocks := B.notSynchronized
  have hin_X7 : ∀ w ∈ wsX70, w ∈ wsX7_areTwo := fun _ w_h => (List.mem_cons_of_mem _ (List.mem_append_left _ (List.mem_append_right _ w_h)))
  have hin_X6 : ∀ w ∈ wsX60, w ∈ wsX7_areTwo := fun _ w_h => (List.mem_cons_of_mem _ (List.mem_append_right _ w_h))
  have hl := lv_entry ([.ref (a 0), .int (iZ pe), .int (iZ ot)]) (n := 3) (Nat.le_of_ble_eq_true rfl)
  rw [lg_entry_eq]
  generalize (lg_sl ([.ref (a 0), .int (iZ pe), .int (iZ ot)]) ++ List.replicate (3 - (lg_sl ([.ref (a 0), .int (iZ pe), .int (iZ ot)])).length) Slot.unset).toArray = ls at hl ⊢
  replace hl : lv_has ls 3 [(0, .ref (a 0)), (1, .int (iZ pe)), (2, .int (iZ ot))] := hl
  have hS : va_S (cA a) s.heap s.heap [] := va_S.rf
  refine lv_aload_n hx hb dX7_areTwo_0 rfl (lv_at hl 0 rfl) ?_
  refine kq_get (i := 0) hx hb hts hin_X7 hown hK hP (by decide) (cE_0 rfl) rfl 3 (by decide) (hts (.fieldLink RX7 29 "WordFletchers" "told" "LWordFletchers$Told;") (List.mem_cons_of_mem _ (List.mem_append_left _ (List.mem_append_left _ (List.mem_of_getElem? (i := 0) rfl))))) rfl dX7_areTwo_1 ?_
  refine W.eq (g2 := F0 m 4 ls [.ref (a (Int.toNat (V 0 3)))]) rfl ?_
  refine lv_iload_n hx hb dX7_areTwo_4 rfl (lv_at hl 1 rfl) ?_
  refine kq_ci (i := (Int.toNat (V 0 3))) (As := [.int (iZ pe)]) (rest := []) ⟨hx, hb, hml, hown, hts⟩ hK hP hN hS (isTo.l0 (by assumption)) (cE_15 (isTo.s0 (by assumption))) rfl (K_X6_hasOne l D C a b V (Int.toNat (V 0 3)) (by assumption) pe (by omega) (by omega)) (cwV 1 hts gX7_areTwo_X6_hasOne rfl rfl rfl (by decide +kernel) ⟨Nat.le_of_ble_eq_true rfl, Nat.le_of_ble_eq_true rfl⟩) rfl rfl hl.1 (Nat.le_of_ble_eq_true rfl) ⟨Nat.le_of_ble_eq_true rfl, Nat.le_of_ble_eq_true rfl⟩ dX7_areTwo_5 ?_
  refine z_ifb_eq (P := (0 ≤ pe ∧ pe < V (Int.toNat (V 0 3)) 7)) (tgt := 31) hx hb dX7_areTwo_8 (by decide) (fun c1 => ?_) (fun c1 => ?_)
  · refine lv_iconst (v := iZ 0) hx hb dX7_areTwo_31 (by decide) ?_
    exact mq_ret hx hb hr (z_nbool (by first | omega | (split <;> omega))) rfl dX7_areTwo_32 hlocks rfl
  · omega
set_option maxHeartbeats 4000000 in
set_option maxRecDepth 100000 in
theorem K_X7_one_0 (l : Launch) (D : va_G) (C : cC) (a b : Nat → Nat) (V : Nat → Nat → Int) (pe : Int) (wh : Int) (hto : isTo (Int.toNat (V 0 3))) (hp0 : V (Int.toNat (V 0 3)) 7 = 0) (h1 : -2147483648 ≤ pe ∧ pe < 2147483648) : Met l yX7_one wsX7_one ({ frames := 1, cells := 0, slots := 0, locals := 21 }) (va_Pc [.ref (a 0), .int (iZ pe), .int (iZ wh)] (cOk D C a b V)) (vp_Si (fun r => r = iZ (-1))) 0 0 (fun _ => False) := by
  refine Met.ofW (cc := cX7_one) (maxL := 3) (ret := (some .int)) (by decide) rfl ?_
  intro p e s m args below meth c s₁ B hml hv
  obtain ⟨rfl, hP, hK, hN⟩ := hv
  have hx := B.exec
  have hb := B.bytes
  have hr := B.returns
  have hts := atoms_spec (ws := wsX7_one) B.pre
  have hown : s.vm.findClass RX7 = some m.cls := findClass_of_methodNamed B.named
  have hlocks := B.notSynchronized
  have hin_X7 : ∀ w ∈ wsX70, w ∈ wsX7_one := fun _ w_h => (List.mem_cons_of_mem _ (List.mem_append_left _ (List.mem_append_left _ (List.mem_append_right _ w_h))))
  have hin_X6 : ∀ w ∈ wsX60, w ∈ wsX7_one := fun _ w_h => (List.mem_cons_of_mem _ (List.mem_append_left _ (List.mem_append_right _ w_h)))
  have hin_X2 : ∀ w ∈ wsX20, w ∈ wsX7_one := fun _ w_h => (List.mem_cons_of_mem _ (List.mem_append_right _ w_h))
  have hl := lv_entry ([.ref (a 0), .int (iZ pe), .int (iZ wh)]) (n := 3) (Nat.le_of_ble_eq_true rfl)
  rw [lg_entry_eq]
  generalize (lg_sl ([.ref (a 0), .int (iZ pe), .int (iZ wh)]) ++ List.replicate (3 - (lg_sl ([.ref (a 0), .int (iZ pe), .int (iZ wh)])).length) Slot.unset).toArray = ls at hl ⊢
  replace hl : lv_has ls 3 [(0, .ref (a 0)), (1, .int (iZ pe)), (2, .int (iZ wh))] := hl
  have hS : va_S (cA a) s.heap s.heap [] := va_S.rf
  refine lv_aload_n hx hb dX7_one_0 rfl (lv_at hl 0 rfl) ?_
  refine kq_get (i := 0) hx hb hts hin_X7 hown hK hP (by decide) (cE_0 rfl) rfl 3 (by decide) (hts (.fieldLink RX7 29 "WordFletchers" "told" "LWordFletchers$Told;") (List.mem_cons_of_mem _ (List.mem_append_left _ (List.mem_append_left _ (List.mem_append_left _ (List.mem_of_getElem? (i := 0) rfl)))))) rfl dX7_one_1 ?_
  refine lv_iload_n hx hb dX7_one_4 rfl (lv_at hl 1 rfl) ?_
  refine kq_ci (i := (Int.toNat (V 0 3))) (As := [.int (iZ pe)]) (rest := []) ⟨hx, hb, hml, hown, hts⟩ hK hP hN hS (isTo.l0 (by assumption)) (cE_15 (isTo.s0 (by assumption))) rfl (K_X6_hasOne l D C a b V (Int.toNat (V 0 3)) (by assumption) pe (by omega) (by omega)) (cwV 1 hts gX7_one_X6_hasOne rfl rfl rfl (by decide +kernel) ⟨Nat.le_of_ble_eq_true rfl, Nat.le_of_ble_eq_true rfl⟩) rfl rfl hl.1 (Nat.le_of_ble_eq_true rfl) ⟨Nat.le_of_ble_eq_true rfl, Nat.le_of_ble_eq_true rfl⟩ dX7_one_5 ?_
  refine z_ifb_ne (P := (0 ≤ pe ∧ pe < V (Int.toNat (V 0 3)) 7)) (tgt := 13) hx hb dX7_one_8 (by decide) (fun c1 => ?_) (fun c1 => ?_)
  · omega
  · refine lv_iconst (v := iZ (-1)) hx hb dX7_one_11 (by decide) ?_
    refine W.eq (g2 := F0 m 12 ls [.int (iZ (-1))]) rfl ?_
    exact mq_ret hx hb hr rfl rfl dX7_one_12 hlocks rfl
set_option maxHeartbeats 4000000 in
set_option maxRecDepth 100000 in
theorem K_X7_saying_0 (l : Launch) (D : va_G) (C : cC) (a b : Nat → Nat) (V : Nat → Nat → Int) (sy : Int) (wh : Int) (hto : isTo (Int.toNat (V 0 3))) (hs0 : V (Int.toNat (V 0 3)) 8 = 0) (h1 : -2147483648 ≤ sy ∧ sy < 2147483648) : Met l yX7_saying wsX7_saying ({ frames := 1, cells := 0, slots := 0, locals := 21 }) (va_Pc [.ref (a 0), .int (iZ sy), .int (iZ wh)] (cOk D C a b V)) (vp_Si (fun r => r = iZ (-1))) 0 0 (fun _ => False) := by
  refine Met.ofW (cc := cX7_saying) (maxL := 3) (ret := (some .int)) (by decide) rfl ?_
  intro p e s m args below meth c s₁ B hml hv
  obtain ⟨rfl, hP, hK, hN⟩ := hv
  have hx := B.exec
  have hb := B.bytes
  have hr := B.returns
  have hts := atoms_spec (ws := wsX7_saying) B.pre
  have hown : s.vm.findClass RX7 = some m.cls := findClass_of_methodNamed B.named
  have hlocks := B.notSynchronized
  have hin_X7 : ∀ w ∈ wsX70, w ∈ wsX7_saying := fun _ w_h => (List.mem_cons_of_mem _ (List.mem_append_left _ (List.mem_append_left _ (List.mem_append_right _ w_h))))
  have hin_X6 : ∀ w ∈ wsX60, w ∈ wsX7_saying := fun _ w_h => (List.mem_cons_of_mem _ (List.mem_append_left _ (List.mem_append_right _ w_h)))
  have hin_X2 : ∀ w ∈ wsX20, w ∈ wsX7_saying := fun _ w_h => (List.mem_cons_of_mem _ (List.mem_append_right _ w_h))
  have hl := lv_entry ([.ref (a 0), .int (iZ sy), .int (iZ wh)]) (n := 3) (Nat.le_of_ble_eq_true rfl)
  rw [lg_entry_eq]
  generalize (lg_sl ([.ref (a 0), .int (iZ sy), .int (iZ wh)]) ++ List.replicate (3 - (lg_sl ([.ref (a 0), .int (iZ sy), .int (iZ wh)])).length) Slot.unset).toArray = ls at hl ⊢
  replace hl : lv_has ls 3 [(0, .ref (a 0)), (1, .int (iZ sy)), (2, .int (iZ wh))] := hl
  have hS : va_S (cA a) s.heap s.heap [] := va_S.rf
  refine lv_aload_n hx hb dX7_saying_0 rfl (lv_at hl 0 rfl) ?_
  refine kq_get (i := 0) hx hb hts hin_X7 hown hK hP (by decide) (cE_0 rfl) rfl 3 (by decide) (hts (.fieldLink RX7 29 "WordFletchers" "told" "LWordFletchers$Told;") (List.mem_cons_of_mem _ (List.mem_append_left _ (List.mem_append_left _ (List.mem_append_left _ (List.mem_of_getElem? (i := 0) rfl)))))) rfl dX7_saying_1 ?_
  refine lv_iload_n hx hb dX7_saying_4 rfl (lv_at hl 1 rfl) ?_
  refine kq_ci (i := (Int.toNat (V 0 3))) (As := [.int (iZ sy)]) (rest := []) ⟨hx, hb, hml, hown, hts⟩ hK hP hN hS (isTo.l0 (by assumption)) (cE_15 (isTo.s0 (by assumption))) rfl (K_X6_hasSaying l D C a b V (Int.toNat (V 0 3)) (by assumption) sy (by omega) (by omega)) (cwV 1 hts gX7_saying_X6_hasSaying rfl rfl rfl (by decide +kernel) ⟨Nat.le_of_ble_eq_true rfl, Nat.le_of_ble_eq_true rfl⟩) rfl rfl hl.1 (Nat.le_of_ble_eq_true rfl) ⟨Nat.le_of_ble_eq_true rfl, Nat.le_of_ble_eq_true rfl⟩ dX7_saying_5 ?_
  refine z_ifb_ne (P := (0 ≤ sy ∧ sy < V (Int.toNat (V 0 3)) 8)) (tgt := 13) hx hb dX7_saying_8 (by decide) (fun c1 => ?_) (fun c1 => ?_)
  · omega
  · refine lv_iconst (v := iZ (-1)) hx hb dX7_saying_11 (by decide) ?_
    exact mq_ret hx hb hr rfl rfl dX7_saying_12 hlocks rfl
set_option maxHeartbeats 4000000 in
set_option maxRecDepth 100000 in
theorem K_X7_lets_0 (l : Launch) (D : va_G) (C : cC) (a b : Nat → Nat) (V : Nat → Nat → Int) (pe : Int) (sy : Int) (fe : Int) (nn : Int) (sd : Int) (hto : isTo (Int.toNat (V 0 3))) (hp0 : V (Int.toNat (V 0 3)) 7 = 0) (h0 : -2147483648 ≤ pe ∧ pe < 2147483648) (h1 : -2147483648 ≤ sy ∧ sy < 2147483648) (h2 : -2147483648 ≤ fe ∧ fe < 2147483648) (h3 : -2147483648 ≤ nn ∧ nn < 2147483648) (h4 : -2147483648 ≤ sd ∧ sd < 2147483648) : Met l yX7_lets wsX7_lets ({ frames := 2, cells := 0, slots := 0, locals := 46 }) (va_Pc [.ref (a 0), .int (iZ pe), .int (iZ sy), .int (iZ fe), .int (iZ nn), .int (iZ sd)] (cOk D C a b V)) (vp_Si (fun r => r = iZ (-1))) 0 0 (fun _ => False) := by
  refine Met.ofW (cc := cX7_lets) (maxL := 8) (ret := (some .int)) (by decide) rfl ?_
  intro p e s m args below meth c s₁ B hml hv
  obtain ⟨rfl, hP, hK, hN⟩ := hv
  have hx := B.exec
  have hb := B.bytes
  have hr := B.returns
  have hts := atoms_spec (ws := wsX7_lets) B.pre
  have hown : s.vm.findClass RX7 = some m.cls := findClass_of_methodNamed B.named
  have hlocks := B.notSynchronized
  have hin_X7 : ∀ w ∈ wsX70, w ∈ wsX7_lets := fun _ w_h => (List.mem_cons_of_mem _ (List.mem_append_left _ (List.mem_append_left _ (List.mem_append_left _ (List.mem_append_right _ w_h)))))
  have hin_X2 : ∀ w ∈ wsX20, w ∈ wsX7_lets := fun _ w_h => (List.mem_cons_of_mem _ (List.mem_append_left _ (List.mem_append_left _ (List.mem_append_right _ w_h))))
  have hin_X6 : ∀ w ∈ wsX60, w ∈ wsX7_lets := fun _ w_h => (List.mem_cons_of_mem _ (List.mem_append_left _ (List.mem_append_right _ w_h)))
  have hin_X3 : ∀ w ∈ wsX30, w ∈ wsX7_lets := fun _ w_h => (List.mem_cons_of_mem _ (List.mem_append_right _ w_h))
  have hl := lv_entry ([.ref (a 0), .int (iZ pe), .int (iZ sy), .int (iZ fe), .int (iZ nn), .int (iZ sd)]) (n := 8) (Nat.le_of_ble_eq_true rfl)
  rw [lg_entry_eq]
  generalize (lg_sl ([.ref (a 0), .int (iZ pe), .int (iZ sy), .int (iZ fe), .int (iZ nn), .int (iZ sd)]) ++ List.replicate (8 - (lg_sl ([.ref (a 0), .int (iZ pe), .int (iZ sy), .int (iZ fe), .int (iZ nn), .int (iZ sd)])).length) Slot.unset).toArray = ls at hl ⊢
  replace hl : lv_has ls 8 [(0, .ref (a 0)), (1, .int (iZ pe)), (2, .int (iZ sy)), (3, .int (iZ fe)), (4, .int (iZ nn)), (5, .int (iZ sd))] := hl
  have hS : va_S (cA a) s.heap s.heap [] := va_S.rf
  refine lv_aload_n hx hb dX7_lets_0 rfl (lv_at hl 0 rfl) ?_
  refine lv_iload_n hx hb dX7_lets_1 rfl (lv_at hl 1 rfl) ?_
  refine lv_iload_n hx hb dX7_lets_2 rfl (lv_at hl 2 rfl) ?_
  refine lv_iload_n hx hb dX7_lets_3 rfl (lv_at hl 3 rfl) ?_
  refine W.eq (g2 := F0 m 4 ls [.int (iZ fe), .int (iZ sy), .int (iZ pe), .ref (a 0)]) rfl ?_
  refine lv_iload hx hb dX7_lets_4 (lv_at hl 4 rfl) ?_
  refine lv_iload hx hb dX7_lets_6 (lv_at hl 5 rfl) ?_
  refine kq_ci (i := 0) (As := [.int (iZ pe), .int (iZ sy), .int (iZ fe), .int (iZ nn), .int (iZ sd)]) (rest := []) ⟨hx, hb, hml, hown, hts⟩ hK hP hN hS (by decide) (cE_0 rfl) rfl (K_X7_isLetOff_0 l D C a b V pe sy fe nn sd (by assumption) (by omega) (by omega) (by omega) (by omega) (by omega) (by omega)) (cwV 5 hts gX7_lets_X7_isLetOff rfl rfl rfl (by decide +kernel) ⟨Nat.le_of_ble_eq_true rfl, Nat.le_of_ble_eq_true rfl⟩) rfl rfl hl.1 (Nat.le_of_ble_eq_true rfl) ⟨Nat.le_of_ble_eq_true rfl, Nat.le_of_ble_eq_true rfl⟩ dX7_lets_8 ?_
  refine z_if_ne (x := 0) (tgt := 16) hx hb (by omega) dX7_lets_11 (by decide) (fun c1 => ?_) (fun c1 => ?_)
  · omega
  · refine lv_iconst (v := iZ (-1)) hx hb dX7_lets_14 (by decide) ?_
    exact mq_ret hx hb hr rfl rfl dX7_lets_15 hlocks rfl
set_option maxHeartbeats 4000000 in
set_option maxRecDepth 100000 in
theorem K_X7_lands_0 (l : Launch) (D : va_G) (C : cC) (a b : Nat → Nat) (V : Nat → Nat → Int) (pe : Int) (sy : Int) (fe : Int) (nn : Int) (sd : Int) (hto : isTo (Int.toNat (V 0 3))) (hp0 : V (Int.toNat (V 0 3)) 7 = 0) (h0 : -2147483648 ≤ pe ∧ pe < 2147483648) (h1 : -2147483648 ≤ sy ∧ sy < 2147483648) (h2 : -2147483648 ≤ fe ∧ fe < 2147483648) (h3 : -2147483648 ≤ nn ∧ nn < 2147483648) (h4 : -2147483648 ≤ sd ∧ sd < 2147483648) : Met l yX7_lands wsX7_lands ({ frames := 2, cells := 0, slots := 0, locals := 46 }) (va_Pc [.ref (a 0), .int (iZ pe), .int (iZ sy), .int (iZ fe), .int (iZ nn), .int (iZ sd)] (cOk D C a b V)) (vp_Si (fun r => r = iZ (-1))) 0 0 (fun _ => False) := by
  refine Met.ofW (cc := cX7_lands) (maxL := 6) (ret := (some .int)) (by decide) rfl ?_
  intro p e s m args below meth c s₁ B hml hv
  obtain ⟨rfl, hP, hK, hN⟩ := hv
  have hx := B.exec
  have hb := B.bytes
  have hr := B.returns
  have hts := atoms_spec (ws := wsX7_lands) B.pre
  have hown : s.vm.findClass RX7 = some m.cls := findClass_of_methodNamed B.named
  have hlocks := B.notSynchronized
  have hin_X7 : ∀ w ∈ wsX70, w ∈ wsX7_lands := fun _ w_h => (List.mem_cons_of_mem _ (List.mem_append_left _ (List.mem_append_left _ (List.mem_append_right _ w_h))))
  have hin_X6 : ∀ w ∈ wsX60, w ∈ wsX7_lands := fun _ w_h => (List.mem_cons_of_mem _ (List.mem_append_left _ (List.mem_append_right _ w_h)))
  have hin_X2 : ∀ w ∈ wsX20, w ∈ wsX7_lands := fun _ w_h => (List.mem_cons_of_mem _ (List.mem_append_right _ w_h))
  have hl := lv_entry ([.ref (a 0), .int (iZ pe), .int (iZ sy), .int (iZ fe), .int (iZ nn), .int (iZ sd)]) (n := 6) (Nat.le_of_ble_eq_true rfl)
  rw [lg_entry_eq]
  generalize (lg_sl ([.ref (a 0), .int (iZ pe), .int (iZ sy), .int (iZ fe), .int (iZ nn), .int (iZ sd)]) ++ List.replicate (6 - (lg_sl ([.ref (a 0), .int (iZ pe), .int (iZ sy), .int (iZ fe), .int (iZ nn), .int (iZ sd)])).length) Slot.unset).toArray = ls at hl ⊢
  replace hl : lv_has ls 6 [(0, .ref (a 0)), (1, .int (iZ pe)), (2, .int (iZ sy)), (3, .int (iZ fe)), (4, .int (iZ nn)), (5, .int (iZ sd))] := hl
  have hS : va_S (cA a) s.heap s.heap [] := va_S.rf
  refine lv_aload_n hx hb dX7_lands_0 rfl (lv_at hl 0 rfl) ?_
  refine lv_iload_n hx hb dX7_lands_1 rfl (lv_at hl 1 rfl) ?_
  refine lv_iload_n hx hb dX7_lands_2 rfl (lv_at hl 2 rfl) ?_
  refine lv_iload_n hx hb dX7_lands_3 rfl (lv_at hl 3 rfl) ?_
  refine lv_iload hx hb dX7_lands_4 (lv_at hl 4 rfl) ?_
  refine lv_iload hx hb dX7_lands_6 (lv_at hl 5 rfl) ?_
  refine W.eq (g2 := F0 m 8 ls [.int (iZ sd), .int (iZ nn), .int (iZ fe), .int (iZ sy), .int (iZ pe), .ref (a 0)]) rfl ?_
  refine kq_ci (i := 0) (As := [.int (iZ pe), .int (iZ sy), .int (iZ fe), .int (iZ nn), .int (iZ sd)]) (rest := []) ⟨hx, hb, hml, hown, hts⟩ hK hP hN hS (by decide) (cE_0 rfl) rfl (K_X7_isLetOff_0 l D C a b V pe sy fe nn sd (by assumption) (by omega) (by omega) (by omega) (by omega) (by omega) (by omega)) (cwV 5 hts gX7_lands_X7_isLetOff rfl rfl rfl (by decide +kernel) ⟨Nat.le_of_ble_eq_true rfl, Nat.le_of_ble_eq_true rfl⟩) rfl rfl hl.1 (Nat.le_of_ble_eq_true rfl) ⟨Nat.le_of_ble_eq_true rfl, Nat.le_of_ble_eq_true rfl⟩ dX7_lands_8 ?_
  refine z_if_ne (x := 0) (tgt := 16) hx hb (by omega) dX7_lands_11 (by decide) (fun c1 => ?_) (fun c1 => ?_)
  · omega
  · refine lv_iconst (v := iZ (-1)) hx hb dX7_lands_14 (by decide) ?_
    exact mq_ret hx hb hr rfl rfl dX7_lands_15 hlocks rfl
set_option maxHeartbeats 4000000 in
set_option maxRecDepth 100000 in
theorem K_X7_picks_0 (l : Launch) (D : va_G) (C : cC) (a b : Nat → Nat) (V : Nat → Nat → Int) (pe : Int) (hto : isTo (Int.toNat (V 0 3))) (hp0 : V (Int.toNat (V 0 3)) 7 = 0) (h1 : -2147483648 ≤ pe ∧ pe < 2147483648) : Met l yX7_picks wsX7_picks ({ frames := 1, cells := 0, slots := 0, locals := 21 }) (va_Pc [.ref (a 0), .int (iZ pe)] (cOk D C a b V)) (vp_Si (fun r => r = iZ (-1))) 0 0 (fun _ => False) := by
  refine Met.ofW (cc := cX7_picks) (maxL := 4) (ret := (some .int)) (by decide) rfl ?_
  intro p e s m args below meth c s₁ B hml hv
  obtain ⟨rfl, hP, hK, hN⟩ := hv
  have hx := B.exec
  have hb := B.bytes
  have hr := B.returns
  have hts := atoms_spec (ws := wsX7_picks) B.pre
  have hown : s.vm.findClass RX7 = some m.cls := findClass_of_methodNamed B.named
  have hlocks := B.notSynchronized
  have hin_X7 : ∀ w ∈ wsX70, w ∈ wsX7_picks := fun _ w_h => (List.mem_cons_of_mem _ (List.mem_append_left _ (List.mem_append_left _ (List.mem_append_left _ (List.mem_append_right _ w_h)))))
  have hin_X6 : ∀ w ∈ wsX60, w ∈ wsX7_picks := fun _ w_h => (List.mem_cons_of_mem _ (List.mem_append_left _ (List.mem_append_left _ (List.mem_append_right _ w_h))))
  have hin_X2 : ∀ w ∈ wsX20, w ∈ wsX7_picks := fun _ w_h => (List.mem_cons_of_mem _ (List.mem_append_left _ (List.mem_append_right _ w_h)))
  have hin_X3 : ∀ w ∈ wsX30, w ∈ wsX7_picks := fun _ w_h => (List.mem_cons_of_mem _ (List.mem_append_right _ w_h))
  have hl := lv_entry ([.ref (a 0), .int (iZ pe)]) (n := 4) (Nat.le_of_ble_eq_true rfl)
  rw [lg_entry_eq]
  generalize (lg_sl ([.ref (a 0), .int (iZ pe)]) ++ List.replicate (4 - (lg_sl ([.ref (a 0), .int (iZ pe)])).length) Slot.unset).toArray = ls at hl ⊢
  replace hl : lv_has ls 4 [(0, .ref (a 0)), (1, .int (iZ pe))] := hl
  have hS : va_S (cA a) s.heap s.heap [] := va_S.rf
  refine lv_aload_n hx hb dX7_picks_0 rfl (lv_at hl 0 rfl) ?_
  refine kq_get (i := 0) hx hb hts hin_X7 hown hK hP (by decide) (cE_0 rfl) rfl 3 (by decide) (hts (.fieldLink RX7 29 "WordFletchers" "told" "LWordFletchers$Told;") (List.mem_cons_of_mem _ (List.mem_append_left _ (List.mem_append_left _ (List.mem_append_left _ (List.mem_append_left _ (List.mem_append_left _ (List.mem_of_getElem? (i := 0) rfl)))))))) rfl dX7_picks_1 ?_
  refine lv_iload_n hx hb dX7_picks_4 rfl (lv_at hl 1 rfl) ?_
  refine kq_ci (i := (Int.toNat (V 0 3))) (As := [.int (iZ pe)]) (rest := []) ⟨hx, hb, hml, hown, hts⟩ hK hP hN hS (isTo.l0 (by assumption)) (cE_15 (isTo.s0 (by assumption))) rfl (K_X6_hasOne l D C a b V (Int.toNat (V 0 3)) (by assumption) pe (by omega) (by omega)) (cwV 1 hts gX7_picks_X6_hasOne rfl rfl rfl (by decide +kernel) ⟨Nat.le_of_ble_eq_true rfl, Nat.le_of_ble_eq_true rfl⟩) rfl rfl hl.1 (Nat.le_of_ble_eq_true rfl) ⟨Nat.le_of_ble_eq_true rfl, Nat.le_of_ble_eq_true rfl⟩ dX7_picks_5 ?_
  refine z_ifb_ne (P := (0 ≤ pe ∧ pe < V (Int.toNat (V 0 3)) 7)) (tgt := 13) hx hb dX7_picks_8 (by decide) (fun c1 => ?_) (fun c1 => ?_)
  · omega
  · refine lv_iconst (v := iZ (-1)) hx hb dX7_picks_11 (by decide) ?_
    exact mq_ret hx hb hr rfl rfl dX7_picks_12 hlocks rfl
set_option maxHeartbeats 4000000 in
set_option maxRecDepth 100000 in
theorem K_X7_call_0 (l : Launch) (D : va_G) (C : cC) (a b : Nat → Nat) (V : Nat → Nat → Int) (pe : Int) (ot : Int) (sy : Int) (hto : isTo (Int.toNat (V 0 3))) (hp0 : V (Int.toNat (V 0 3)) 7 = 0) (h1 : -2147483648 ≤ pe ∧ pe < 2147483648) (h2 : -2147483648 ≤ ot ∧ ot < 2147483648) : Met l yX7_call wsX7_call ({ frames := 2, cells := 0, slots := 0, locals := 43 }) (va_Pc [.ref (a 0), .int (iZ pe), .int (iZ ot), .int (iZ sy)] (cOk D C a b V)) (vp_Si (fun r => r = iZ (-1))) 0 0 (fun _ => False) := by
  refine Met.ofW (cc := cX7_call) (maxL := 8) (ret := (some .int)) (by decide) rfl ?_
  intro p e s m args below meth c s₁ B hml hv
  obtain ⟨rfl, hP, hK, hN⟩ := hv
  have hx := B.exec
  have hb := B.bytes
  have hr := B.returns
  have hts := atoms_spec (ws := wsX7_call) B.pre
  have hown : s.vm.findClass RX7 = some m.cls := findClass_of_methodNamed B.named
  have hlocks := B.notSynchronized
  have hin_X7 : ∀ w ∈ wsX70, w ∈ wsX7_call := fun _ w_h => (List.mem_cons_of_mem _ (List.mem_append_left _ (List.mem_append_left _ (List.mem_append_right _ w_h))))
  have hin_X6 : ∀ w ∈ wsX60, w ∈ wsX7_call := fun _ w_h => (List.mem_cons_of_mem _ (List.mem_append_left _ (List.mem_append_right _ w_h)))
  have hin_X2 : ∀ w ∈ wsX20, w ∈ wsX7_call := fun _ w_h => (List.mem_cons_of_mem _ (List.mem_append_right _ w_h))
  have hl := lv_entry ([.ref (a 0), .int (iZ pe), .int (iZ ot), .int (iZ sy)]) (n := 8) (Nat.le_of_ble_eq_true rfl)
  rw [lg_entry_eq]
  generalize (lg_sl ([.ref (a 0), .int (iZ pe), .int (iZ ot), .int (iZ sy)]) ++ List.replicate (8 - (lg_sl ([.ref (a 0), .int (iZ pe), .int (iZ ot), .int (iZ sy)])).length) Slot.unset).toArray = ls at hl ⊢
  replace hl : lv_has ls 8 [(0, .ref (a 0)), (1, .int (iZ pe)), (2, .int (iZ ot)), (3, .int (iZ sy))] := hl
  have hS : va_S (cA a) s.heap s.heap [] := va_S.rf
  refine lv_aload_n hx hb dX7_call_0 rfl (lv_at hl 0 rfl) ?_
  refine W.eq (g2 := F0 m 1 ls [.ref (a 0)]) rfl ?_
  refine lv_iload_n hx hb dX7_call_1 rfl (lv_at hl 1 rfl) ?_
  refine lv_iload_n hx hb dX7_call_2 rfl (lv_at hl 2 rfl) ?_
  refine kq_ci (i := 0) (As := [.int (iZ pe), .int (iZ ot)]) (rest := []) ⟨hx, hb, hml, hown, hts⟩ hK hP hN hS (by decide) (cE_0 rfl) rfl (K_X7_areTwo_0 l D C a b V pe ot (by assumption) (by omega) (by omega) (by omega)) (cwV 2 hts gX7_call_X7_areTwo rfl rfl rfl (by decide +kernel) ⟨Nat.le_of_ble_eq_true rfl, Nat.le_of_ble_eq_true rfl⟩) rfl rfl hl.1 (Nat.le_of_ble_eq_true rfl) ⟨Nat.le_of_ble_eq_true rfl, Nat.le_of_ble_eq_true rfl⟩ dX7_call_3 ?_
  refine z_if_eq (x := 0) (tgt := 20) hx hb (by omega) dX7_call_6 (by decide) (fun c1 => ?_) (fun c1 => ?_)
  · refine lv_iconst (v := iZ (-1)) hx hb dX7_call_20 (by decide) ?_
    exact mq_ret hx hb hr rfl rfl dX7_call_21 hlocks rfl
  · omega
set_option maxHeartbeats 4000000 in
set_option maxRecDepth 100000 in
theorem K_X7_waits_0 (l : Launch) (D : va_G) (C : cC) (a b : Nat → Nat) (V : Nat → Nat → Int) (pe : Int) (ot : Int) (sy : Int) (sh : Int) (hto : isTo (Int.toNat (V 0 3))) (hp0 : V (Int.toNat (V 0 3)) 7 = 0) (h1 : -2147483648 ≤ pe ∧ pe < 2147483648) (h2 : -2147483648 ≤ ot ∧ ot < 2147483648) : Met l yX7_waits wsX7_waits ({ frames := 2, cells := 0, slots := 0, locals := 43 }) (va_Pc [.ref (a 0), .int (iZ pe), .int (iZ ot), .int (iZ sy), .int (iZ sh)] (cOk D C a b V)) (vp_Si (fun r => r = iZ (-1))) 0 0 (fun _ => False) := by
  refine Met.ofW (cc := cX7_waits) (maxL := 6) (ret := (some .int)) (by decide) rfl ?_
  intro p e s m args below meth c s₁ B hml hv
  obtain ⟨rfl, hP, hK, hN⟩ := hv
  have hx := B.exec
  have hb := B.bytes
  have hr := B.returns
  have hts := atoms_spec (ws := wsX7_waits) B.pre
  have hown : s.vm.findClass RX7 = some m.cls := findClass_of_methodNamed B.named
  have hlocks := B.notSynchronized
  have hin_X7 : ∀ w ∈ wsX70, w ∈ wsX7_waits := fun _ w_h => (List.mem_cons_of_mem _ (List.mem_append_left _ (List.mem_append_left _ (List.mem_append_right _ w_h))))
  have hin_X2 : ∀ w ∈ wsX20, w ∈ wsX7_waits := fun _ w_h => (List.mem_cons_of_mem _ (List.mem_append_left _ (List.mem_append_right _ w_h)))
  have hin_X6 : ∀ w ∈ wsX60, w ∈ wsX7_waits := fun _ w_h => (List.mem_cons_of_mem _ (List.mem_append_right _ w_h))
  have hl := lv_entry ([.ref (a 0), .int (iZ pe), .int (iZ ot), .int (iZ sy), .int (iZ sh)]) (n := 6) (Nat.le_of_ble_eq_true rfl)
  rw [lg_entry_eq]
  generalize (lg_sl ([.ref (a 0), .int (iZ pe), .int (iZ ot), .int (iZ sy), .int (iZ sh)]) ++ List.replicate (6 - (lg_sl ([.ref (a 0), .int (iZ pe), .int (iZ ot), .int (iZ sy), .int (iZ sh)])).length) Slot.unset).toArray = ls at hl ⊢
  replace hl : lv_has ls 6 [(0, .ref (a 0)), (1, .int (iZ pe)), (2, .int (iZ ot)), (3, .int (iZ sy)), (4, .int (iZ sh))] := hl
  have hS : va_S (cA a) s.heap s.heap [] := va_S.rf
  refine lv_aload_n hx hb dX7_waits_0 rfl (lv_at hl 0 rfl) ?_
  refine lv_iload_n hx hb dX7_waits_1 rfl (lv_at hl 1 rfl) ?_
  refine lv_iload_n hx hb dX7_waits_2 rfl (lv_at hl 2 rfl) ?_
  refine kq_ci (i := 0) (As := [.int (iZ pe), .int (iZ ot)]) (rest := []) ⟨hx, hb, hml, hown, hts⟩ hK hP hN hS (by decide) (cE_0 rfl) rfl (K_X7_areTwo_0 l D C a b V pe ot (by assumption) (by omega) (by omega) (by omega)) (cwV 2 hts gX7_waits_X7_areTwo rfl rfl rfl (by decide +kernel) ⟨Nat.le_of_ble_eq_true rfl, Nat.le_of_ble_eq_true rfl⟩) rfl rfl hl.1 (Nat.le_of_ble_eq_true rfl) ⟨Nat.le_of_ble_eq_true rfl, Nat.le_of_ble_eq_true rfl⟩ dX7_waits_3 ?_
  refine z_if_eq (x := 0) (tgt := 28) hx hb (by omega) dX7_waits_6 (by decide) (fun c1 => ?_) (fun c1 => ?_)
  · refine lv_iconst (v := iZ (-1)) hx hb dX7_waits_28 (by decide) ?_
    refine W.eq (g2 := F0 m 29 ls [.int (iZ (-1))]) rfl ?_
    exact mq_ret hx hb hr rfl rfl dX7_waits_29 hlocks rfl
  · omega
set_option maxHeartbeats 4000000 in
set_option maxRecDepth 100000 in
theorem K_X7_odds_0 (l : Launch) (D : va_G) (C : cC) (a b : Nat → Nat) (V : Nat → Nat → Int) (pe : Int) (ot : Int) (sy : Int) (sh : Int) (wh : Int) (hto : isTo (Int.toNat (V 0 3))) (hp0 : V (Int.toNat (V 0 3)) 7 = 0) (h1 : -2147483648 ≤ pe ∧ pe < 2147483648) (h2 : -2147483648 ≤ ot ∧ ot < 2147483648) : Met l yX7_odds wsX7_odds ({ frames := 2, cells := 0, slots := 0, locals := 43 }) (va_Pc [.ref (a 0), .int (iZ pe), .int (iZ ot), .int (iZ sy), .int (iZ sh), .int (iZ wh)] (cOk D C a b V)) (vp_Si (fun r => r = iZ (-1))) 0 0 (fun _ => False) := by
  refine Met.ofW (cc := cX7_odds) (maxL := 8) (ret := (some .int)) (by decide) rfl ?_
  intro p e s m args below meth c s₁ B hml hv
  obtain ⟨rfl, hP, hK, hN⟩ := hv
  have hx := B.exec
  have hb := B.bytes
  have hr := B.returns
  have hts := atoms_spec (ws := wsX7_odds) B.pre
  have hown : s.vm.findClass RX7 = some m.cls := findClass_of_methodNamed B.named
  have hlocks := B.notSynchronized
  have hin_X7 : ∀ w ∈ wsX70, w ∈ wsX7_odds := fun _ w_h => (List.mem_cons_of_mem _ (List.mem_append_left _ (List.mem_append_left _ (List.mem_append_right _ w_h))))
  have hin_X6 : ∀ w ∈ wsX60, w ∈ wsX7_odds := fun _ w_h => (List.mem_cons_of_mem _ (List.mem_append_left _ (List.mem_append_right _ w_h)))
  have hin_X2 : ∀ w ∈ wsX20, w ∈ wsX7_odds := fun _ w_h => (List.mem_cons_of_mem _ (List.mem_append_right _ w_h))
  have hl := lv_entry ([.ref (a 0), .int (iZ pe), .int (iZ ot), .int (iZ sy), .int (iZ sh), .int (iZ wh)]) (n := 8) (Nat.le_of_ble_eq_true rfl)
  rw [lg_entry_eq]
  generalize (lg_sl ([.ref (a 0), .int (iZ pe), .int (iZ ot), .int (iZ sy), .int (iZ sh), .int (iZ wh)]) ++ List.replicate (8 - (lg_sl ([.ref (a 0), .int (iZ pe), .int (iZ ot), .int (iZ sy), .int (iZ sh), .int (iZ wh)])).length) Slot.unset).toArray = ls at hl ⊢
  replace hl : lv_has ls 8 [(0, .ref (a 0)), (1, .int (iZ pe)), (2, .int (iZ ot)), (3, .int (iZ sy)), (4, .int (iZ sh)), (5, .int (iZ wh))] := hl
  have hS : va_S (cA a) s.heap s.heap [] := va_S.rf
  refine lv_aload_n hx hb dX7_odds_0 rfl (lv_at hl 0 rfl) ?_
  refine lv_iload_n hx hb dX7_odds_1 rfl (lv_at hl 1 rfl) ?_
  refine lv_iload_n hx hb dX7_odds_2 rfl (lv_at hl 2 rfl) ?_
  refine kq_ci (i := 0) (As := [.int (iZ pe), .int (iZ ot)]) (rest := []) ⟨hx, hb, hml, hown, hts⟩ hK hP hN hS (by decide) (cE_0 rfl) rfl (K_X7_areTwo_0 l D C a b V pe ot (by assumption) (by omega) (by omega) (by omega)) (cwV 2 hts gX7_odds_X7_areTwo rfl rfl rfl (by decide +kernel) ⟨Nat.le_of_ble_eq_true rfl, Nat.le_of_ble_eq_true rfl⟩) rfl rfl hl.1 (Nat.le_of_ble_eq_true rfl) ⟨Nat.le_of_ble_eq_true rfl, Nat.le_of_ble_eq_true rfl⟩ dX7_odds_3 ?_
  refine z_if_eq (x := 0) (tgt := 39) hx hb (by omega) dX7_odds_6 (by decide) (fun c1 => ?_) (fun c1 => ?_)
  · refine lv_iconst (v := iZ (-1)) hx hb dX7_odds_39 (by decide) ?_
    exact mq_ret hx hb hr rfl rfl dX7_odds_40 hlocks rfl
  · omega
set_option maxHeartbeats 4000000 in
set_option maxRecDepth 100000 in
theorem K_X7_relay_0 (l : Launch) (D : va_G) (C : cC) (a b : Nat → Nat) (V : Nat → Nat → Int) (sy : Int) (to : Int) (wh : Int) (hto : isTo (Int.toNat (V 0 3))) (hs0 : V (Int.toNat (V 0 3)) 8 = 0) (h1 : -2147483648 ≤ sy ∧ sy < 2147483648) : Met l yX7_relay wsX7_relay ({ frames := 1, cells := 0, slots := 0, locals := 21 }) (va_Pc [.ref (a 0), .int (iZ sy), .int (iZ to), .int (iZ wh)] (cOk D C a b V)) (vp_Si (fun r => r = iZ (-1))) 0 0 (fun _ => False) := by
  refine Met.ofW (cc := cX7_relay) (maxL := 5) (ret := (some .int)) (by decide) rfl ?_
  intro p e s m args below meth c s₁ B hml hv
  obtain ⟨rfl, hP, hK, hN⟩ := hv
  have hx := B.exec
  have hb := B.bytes
  have hr := B.returns
  have hts := atoms_spec (ws := wsX7_relay) B.pre
  have hown : s.vm.findClass RX7 = some m.cls := findClass_of_methodNamed B.named
  have hlocks := B.notSynchronized
  have hin_X7 : ∀ w ∈ wsX70, w ∈ wsX7_relay := fun _ w_h => (List.mem_cons_of_mem _ (List.mem_append_left _ (List.mem_append_left _ (List.mem_append_right _ w_h))))
  have hin_X6 : ∀ w ∈ wsX60, w ∈ wsX7_relay := fun _ w_h => (List.mem_cons_of_mem _ (List.mem_append_left _ (List.mem_append_right _ w_h)))
  have hin_X2 : ∀ w ∈ wsX20, w ∈ wsX7_relay := fun _ w_h => (List.mem_cons_of_mem _ (List.mem_append_right _ w_h))
  have hl := lv_entry ([.ref (a 0), .int (iZ sy), .int (iZ to), .int (iZ wh)]) (n := 5) (Nat.le_of_ble_eq_true rfl)
  rw [lg_entry_eq]
  generalize (lg_sl ([.ref (a 0), .int (iZ sy), .int (iZ to), .int (iZ wh)]) ++ List.replicate (5 - (lg_sl ([.ref (a 0), .int (iZ sy), .int (iZ to), .int (iZ wh)])).length) Slot.unset).toArray = ls at hl ⊢
  replace hl : lv_has ls 5 [(0, .ref (a 0)), (1, .int (iZ sy)), (2, .int (iZ to)), (3, .int (iZ wh))] := hl
  have hS : va_S (cA a) s.heap s.heap [] := va_S.rf
  refine lv_aload_n hx hb dX7_relay_0 rfl (lv_at hl 0 rfl) ?_
  refine kq_get (i := 0) hx hb hts hin_X7 hown hK hP (by decide) (cE_0 rfl) rfl 3 (by decide) (hts (.fieldLink RX7 29 "WordFletchers" "told" "LWordFletchers$Told;") (List.mem_cons_of_mem _ (List.mem_append_left _ (List.mem_append_left _ (List.mem_append_left _ (List.mem_append_left _ (List.mem_of_getElem? (i := 0) rfl))))))) rfl dX7_relay_1 ?_
  refine lv_iload_n hx hb dX7_relay_4 rfl (lv_at hl 1 rfl) ?_
  refine kq_ci (i := (Int.toNat (V 0 3))) (As := [.int (iZ sy)]) (rest := []) ⟨hx, hb, hml, hown, hts⟩ hK hP hN hS (isTo.l0 (by assumption)) (cE_15 (isTo.s0 (by assumption))) rfl (K_X6_hasSaying l D C a b V (Int.toNat (V 0 3)) (by assumption) sy (by omega) (by omega)) (cwV 1 hts gX7_relay_X6_hasSaying rfl rfl rfl (by decide +kernel) ⟨Nat.le_of_ble_eq_true rfl, Nat.le_of_ble_eq_true rfl⟩) rfl rfl hl.1 (Nat.le_of_ble_eq_true rfl) ⟨Nat.le_of_ble_eq_true rfl, Nat.le_of_ble_eq_true rfl⟩ dX7_relay_5 ?_
  refine W.eq (g2 := F0 m 8 ls [.int (iZ (if (0 ≤ sy ∧ sy < V (Int.toNat (V 0 3)) 8) then 1 else 0))]) rfl ?_
  refine z_ifb_eq (P := (0 ≤ sy ∧ sy < V (Int.toNat (V 0 3)) 8)) (tgt := 31) hx hb dX7_relay_8 (by decide) (fun c1 => ?_) (fun c1 => ?_)
  · refine lv_iconst (v := iZ (-1)) hx hb dX7_relay_31 (by decide) ?_
    exact mq_ret hx hb hr rfl rfl dX7_relay_32 hlocks rfl
  · omega
set_option maxHeartbeats 4000000 in
set_option maxRecDepth 100000 in
theorem K_X7_allot_0 (l : Launch) (D : va_G) (C : cC) (a b : Nat → Nat) (V : Nat → Nat → Int) (st : Int) (sy : Int) (hto : isTo (Int.toNat (V 0 3))) (hs0 : V (Int.toNat (V 0 3)) 8 = 0) (h1 : -2147483648 ≤ st ∧ st < 2147483648) : Met l yX7_allot wsX7_allot ({ frames := 1, cells := 0, slots := 0, locals := 21 }) (va_Pc [.ref (a 0), .int (iZ st), .int (iZ sy)] (cOk D C a b V)) (vp_Si (fun r => r = iZ (-1))) 0 0 (fun _ => False) := by
  refine Met.ofW (cc := cX7_allot) (maxL := 3) (ret := (some .int)) (by decide) rfl ?_
  intro p e s m args below meth c s₁ B hml hv
  obtain ⟨rfl, hP, hK, hN⟩ := hv
  have hx := B.exec
  have hb := B.bytes
  have hr := B.returns
  have hts := atoms_spec (ws := wsX7_allot) B.pre
  have hown : s.vm.findClass RX7 = some m.cls := findClass_of_methodNamed B.named
  have hlocks := B.notSynchronized
  have hin_X7 : ∀ w ∈ wsX70, w ∈ wsX7_allot := fun _ w_h => (List.mem_cons_of_mem _ (List.mem_append_left _ (List.mem_append_left _ (List.mem_append_left _ (List.mem_append_right _ w_h)))))
  have hin_X6 : ∀ w ∈ wsX60, w ∈ wsX7_allot := fun _ w_h => (List.mem_cons_of_mem _ (List.mem_append_left _ (List.mem_append_left _ (List.mem_append_right _ w_h))))
  have hin_X2 : ∀ w ∈ wsX20, w ∈ wsX7_allot := fun _ w_h => (List.mem_cons_of_mem _ (List.mem_append_left _ (List.mem_append_right _ w_h)))
  have hin_X0 : ∀ w ∈ wsX00, w ∈ wsX7_allot := fun _ w_h => (List.mem_cons_of_mem _ (List.mem_append_right _ w_h))
  have hl := lv_entry ([.ref (a 0), .int (iZ st), .int (iZ sy)]) (n := 3) (Nat.le_of_ble_eq_true rfl)
  rw [lg_entry_eq]
  generalize (lg_sl ([.ref (a 0), .int (iZ st), .int (iZ sy)]) ++ List.replicate (3 - (lg_sl ([.ref (a 0), .int (iZ st), .int (iZ sy)])).length) Slot.unset).toArray = ls at hl ⊢
  replace hl : lv_has ls 3 [(0, .ref (a 0)), (1, .int (iZ st)), (2, .int (iZ sy))] := hl
  have hS : va_S (cA a) s.heap s.heap [] := va_S.rf
  refine lv_aload_n hx hb dX7_allot_0 rfl (lv_at hl 0 rfl) ?_
  refine kq_get (i := 0) hx hb hts hin_X7 hown hK hP (by decide) (cE_0 rfl) rfl 3 (by decide) (hts (.fieldLink RX7 29 "WordFletchers" "told" "LWordFletchers$Told;") (List.mem_cons_of_mem _ (List.mem_append_left _ (List.mem_append_left _ (List.mem_append_left _ (List.mem_append_left _ (List.mem_append_left _ (List.mem_of_getElem? (i := 0) rfl)))))))) rfl dX7_allot_1 ?_
  refine lv_iload_n hx hb dX7_allot_4 rfl (lv_at hl 1 rfl) ?_
  refine kq_ci (i := (Int.toNat (V 0 3))) (As := [.int (iZ st)]) (rest := []) ⟨hx, hb, hml, hown, hts⟩ hK hP hN hS (isTo.l0 (by assumption)) (cE_15 (isTo.s0 (by assumption))) rfl (K_X6_isSetOfSayings_0 l D C a b V (Int.toNat (V 0 3)) (by assumption) st (by omega) (by omega)) (cwV 1 hts gX7_allot_X6_isSetOfSayings rfl rfl rfl (by decide +kernel) ⟨Nat.le_of_ble_eq_true rfl, Nat.le_of_ble_eq_true rfl⟩) rfl rfl hl.1 (Nat.le_of_ble_eq_true rfl) ⟨Nat.le_of_ble_eq_true rfl, Nat.le_of_ble_eq_true rfl⟩ dX7_allot_5 ?_
  refine z_if_eq (x := 0) (tgt := 27) hx hb (by omega) dX7_allot_8 (by decide) (fun c1 => ?_) (fun c1 => ?_)
  · refine lv_iconst (v := iZ (-1)) hx hb dX7_allot_27 (by decide) ?_
    exact mq_ret hx hb hr rfl rfl dX7_allot_28 hlocks rfl
  · omega
set_option maxHeartbeats 4000000 in
set_option maxRecDepth 100000 in
theorem K_X7_saw_0 (l : Launch) (D : va_G) (C : cC) (a b : Nat → Nat) (V : Nat → Nat → Int) (sy : Int) (sp : Int) (hto : isTo (Int.toNat (V 0 3))) (hs0 : V (Int.toNat (V 0 3)) 8 = 0) (h1 : -2147483648 ≤ sy ∧ sy < 2147483648) : Met l yX7_saw wsX7_saw ({ frames := 1, cells := 0, slots := 0, locals := 21 }) (va_Pc [.ref (a 0), .int (iZ sy), .int (iZ sp)] (cOk D C a b V)) (vp_Si (fun r => r = iZ (-1))) 0 0 (fun _ => False) := by
  refine Met.ofW (cc := cX7_saw) (maxL := 3) (ret := (some .int)) (by decide) rfl ?_
  intro p e s m args below meth c s₁ B hml hv
  obtain ⟨rfl, hP, hK, hN⟩ := hv
  have hx := B.exec
  have hb := B.bytes
  have hr := B.returns
  have hts := atoms_spec (ws := wsX7_saw) B.pre
  have hown : s.vm.findClass RX7 = some m.cls := findClass_of_methodNamed B.named
  have hlocks := B.notSynchronized
  have hin_X7 : ∀ w ∈ wsX70, w ∈ wsX7_saw := fun _ w_h => (List.mem_cons_of_mem _ (List.mem_append_left _ (List.mem_append_left _ (List.mem_append_left _ (List.mem_append_right _ w_h)))))
  have hin_X4 : ∀ w ∈ wsX40, w ∈ wsX7_saw := fun _ w_h => (List.mem_cons_of_mem _ (List.mem_append_left _ (List.mem_append_left _ (List.mem_append_right _ w_h))))
  have hin_X2 : ∀ w ∈ wsX20, w ∈ wsX7_saw := fun _ w_h => (List.mem_cons_of_mem _ (List.mem_append_left _ (List.mem_append_right _ w_h)))
  have hin_X6 : ∀ w ∈ wsX60, w ∈ wsX7_saw := fun _ w_h => (List.mem_cons_of_mem _ (List.mem_append_right _ w_h))
  have hl := lv_entry ([.ref (a 0), .int (iZ sy), .int (iZ sp)]) (n := 3) (Nat.le_of_ble_eq_true rfl)
  rw [lg_entry_eq]
  generalize (lg_sl ([.ref (a 0), .int (iZ sy), .int (iZ sp)]) ++ List.replicate (3 - (lg_sl ([.ref (a 0), .int (iZ sy), .int (iZ sp)])).length) Slot.unset).toArray = ls at hl ⊢
  replace hl : lv_has ls 3 [(0, .ref (a 0)), (1, .int (iZ sy)), (2, .int (iZ sp))] := hl
  have hS : va_S (cA a) s.heap s.heap [] := va_S.rf
  refine lv_aload_n hx hb dX7_saw_0 rfl (lv_at hl 0 rfl) ?_
  refine kq_get (i := 0) hx hb hts hin_X7 hown hK hP (by decide) (cE_0 rfl) rfl 3 (by decide) (hts (.fieldLink RX7 29 "WordFletchers" "told" "LWordFletchers$Told;") (List.mem_cons_of_mem _ (List.mem_append_left _ (List.mem_append_left _ (List.mem_append_left _ (List.mem_append_left _ (List.mem_append_left _ (List.mem_of_getElem? (i := 0) rfl)))))))) rfl dX7_saw_1 ?_
  refine W.eq (g2 := F0 m 4 ls [.ref (a (Int.toNat (V 0 3)))]) rfl ?_
  refine lv_iload_n hx hb dX7_saw_4 rfl (lv_at hl 1 rfl) ?_
  refine kq_ci (i := (Int.toNat (V 0 3))) (As := [.int (iZ sy)]) (rest := []) ⟨hx, hb, hml, hown, hts⟩ hK hP hN hS (isTo.l0 (by assumption)) (cE_15 (isTo.s0 (by assumption))) rfl (K_X6_hasSaying l D C a b V (Int.toNat (V 0 3)) (by assumption) sy (by omega) (by omega)) (cwV 1 hts gX7_saw_X6_hasSaying rfl rfl rfl (by decide +kernel) ⟨Nat.le_of_ble_eq_true rfl, Nat.le_of_ble_eq_true rfl⟩) rfl rfl hl.1 (Nat.le_of_ble_eq_true rfl) ⟨Nat.le_of_ble_eq_true rfl, Nat.le_of_ble_eq_true rfl⟩ dX7_saw_5 ?_
  refine z_ifb_eq (P := (0 ≤ sy ∧ sy < V (Int.toNat (V 0 3)) 8)) (tgt := 21) hx hb dX7_saw_8 (by decide) (fun c1 => ?_) (fun c1 => ?_)
  · refine lv_iconst (v := iZ (-1)) hx hb dX7_saw_21 (by decide) ?_
    exact mq_ret hx hb hr rfl rfl dX7_saw_22 hlocks rfl
  · omega
set_option maxHeartbeats 4000000 in
set_option maxRecDepth 100000 in
theorem K_X7_suspects_0 (l : Launch) (D : va_G) (C : cC) (a b : Nat → Nat) (V : Nat → Nat → Int) (hto : isTo (Int.toNat (V 0 3))) (hp0 : V (Int.toNat (V 0 3)) 7 = 0) : Met l yX7_suspects wsX7_suspects ({ frames := 0, cells := 0, slots := 0, locals := 0 }) (va_Pc [.ref (a 0)] (cOk D C a b V)) (vp_Si (fun r => r = iZ (0))) 0 0 (fun _ => False) := by
  refine Met.ofW (cc := cX7_suspects) (maxL := 3) (ret := (some .int)) (by decide) rfl ?_
  intro p e s m args below meth c s₁ B hml hv
  obtain ⟨rfl, hP, hK, hN⟩ := hv
  have hx := B.exec
  have hb := B.bytes
  have hr := B.returns
  have hts := atoms_spec (ws := wsX7_suspects) B.pre
  have hown : s.vm.findClass RX7 = some m.cls := findClass_of_methodNamed B.named
  have hlocks := B.notSynchronized
  have hin_X7 : ∀ w ∈ wsX70, w ∈ wsX7_suspects := fun _ w_h => (List.mem_cons_of_mem _ (List.mem_append_left _ (List.mem_append_left _ (List.mem_append_right _ w_h))))
  have hin_X6 : ∀ w ∈ wsX60, w ∈ wsX7_suspects := fun _ w_h => (List.mem_cons_of_mem _ (List.mem_append_left _ (List.mem_append_right _ w_h)))
  have hin_X4 : ∀ w ∈ wsX40, w ∈ wsX7_suspects := fun _ w_h => (List.mem_cons_of_mem _ (List.mem_append_right _ w_h))
  have hl := lv_entry ([.ref (a 0)]) (n := 3) (Nat.le_of_ble_eq_true rfl)
  rw [lg_entry_eq]
  generalize (lg_sl ([.ref (a 0)]) ++ List.replicate (3 - (lg_sl ([.ref (a 0)])).length) Slot.unset).toArray = ls at hl ⊢
  replace hl : lv_has ls 3 [(0, .ref (a 0))] := hl
  have hS : va_S (cA a) s.heap s.heap [] := va_S.rf
  refine lv_iconst (v := iZ 0) hx hb dX7_suspects_0 (by decide) ?_
  refine lv_istore_n (lv' := [(1, .int (iZ 0)), (0, .ref (a 0))]) hx hb dX7_suspects_1 rfl hl (by decide) rfl (fun ls hl => ?_)
  refine lv_iconst (v := iZ 0) hx hb dX7_suspects_2 (by decide) ?_
  refine lv_istore_n (lv' := [(2, .int (iZ 0)), (1, .int (iZ 0)), (0, .ref (a 0))]) hx hb dX7_suspects_3 rfl hl (by decide) rfl (fun ls hl => ?_)
  refine lv_iload_n hx hb dX7_suspects_4 rfl (lv_at hl 0 rfl) ?_
  refine lv_aload_n hx hb dX7_suspects_5 rfl (lv_at hl 2 rfl) ?_
  refine kq_get (i := 0) hx hb hts hin_X7 hown hK hP (by decide) (cE_0 rfl) rfl 3 (by decide) (hts (.fieldLink RX7 29 "WordFletchers" "told" "LWordFletchers$Told;") (List.mem_cons_of_mem _ (List.mem_append_left _ (List.mem_append_left _ (List.mem_append_left _ (List.mem_append_left _ (List.mem_of_getElem? (i := 0) rfl))))))) rfl dX7_suspects_6 ?_
  refine W.eq (g2 := F0 m 9 ls [.ref (a (Int.toNat (V 0 3))), .int (iZ 0)]) rfl ?_
  refine kq_get (i := (Int.toNat (V 0 3))) hx hb hts hin_X6 hown hK hP (isTo.l0 (by assumption)) (cE_15 (isTo.s0 (by assumption))) rfl 7 (by decide) (hts (.fieldLink RX7 298 "WordFletchers$Told" "people" "I") (List.mem_cons_of_mem _ (List.mem_append_left _ (List.mem_append_left _ (List.mem_append_left _ (List.mem_append_left _ (List.mem_of_getElem? (i := 1) rfl))))))) rfl dX7_suspects_9 ?_
  refine z_icmp_ge (x := 0) (y := (V (Int.toNat (V 0 3)) 7)) (tgt := 35) hx hb (by omega) (by omega) dX7_suspects_12 (by decide) (fun c1 => ?_) (fun c1 => ?_)
  · refine lv_iload_n hx hb dX7_suspects_35 rfl (lv_at hl 1 rfl) ?_
    exact mq_ret hx hb hr rfl rfl dX7_suspects_36 hlocks rfl
  · omega
set_option maxHeartbeats 4000000 in
set_option maxRecDepth 100000 in
theorem K_X7_who_0 (l : Launch) (D : va_G) (C : cC) (a b : Nat → Nat) (V : Nat → Nat → Int) (hto : isTo (Int.toNat (V 0 3))) (hp0 : V (Int.toNat (V 0 3)) 7 = 0) : Met l yX7_who wsX7_who ({ frames := 1, cells := 0, slots := 0, locals := 22 }) (va_Pc [.ref (a 0)] (cOk D C a b V)) (vp_Si (fun r => r = iZ (0))) 0 0 (fun _ => False) := by
  refine Met.ofW (cc := cX7_who) (maxL := 1) (ret := (some .int)) (by decide) rfl ?_
  intro p e s m args below meth c s₁ B hml hv
  obtain ⟨rfl, hP, hK, hN⟩ := hv
  have hx := B.exec
  have hb := B.bytes
  have hr := B.returns
  have hts := atoms_spec (ws := wsX7_who) B.pre
  have hown : s.vm.findClass RX7 = some m.cls := findClass_of_methodNamed B.named
  have hlocks := B.notSynchronized
  have hin_X7 : ∀ w ∈ wsX70, w ∈ wsX7_who := fun _ w_h => (List.mem_cons_of_mem _ (List.mem_append_left _ (List.mem_append_left _ (List.mem_append_right _ w_h))))
  have hin_X6 : ∀ w ∈ wsX60, w ∈ wsX7_who := fun _ w_h => (List.mem_cons_of_mem _ (List.mem_append_left _ (List.mem_append_right _ w_h)))
  have hin_X4 : ∀ w ∈ wsX40, w ∈ wsX7_who := fun _ w_h => (List.mem_cons_of_mem _ (List.mem_append_right _ w_h))
  have hl := lv_entry ([.ref (a 0)]) (n := 1) (Nat.le_of_ble_eq_true rfl)
  rw [lg_entry_eq]
  generalize (lg_sl ([.ref (a 0)]) ++ List.replicate (1 - (lg_sl ([.ref (a 0)])).length) Slot.unset).toArray = ls at hl ⊢
  replace hl : lv_has ls 1 [(0, .ref (a 0))] := hl
  have hS : va_S (cA a) s.heap s.heap [] := va_S.rf
  refine lv_aload_n hx hb dX7_who_0 rfl (lv_at hl 0 rfl) ?_
  refine kq_ci (i := 0) (As := []) (rest := []) ⟨hx, hb, hml, hown, hts⟩ hK hP hN hS (by decide) (cE_0 rfl) rfl (K_X7_suspects_0 l D C a b V  (by assumption) (by omega)) (cwV 0 hts gX7_who_X7_suspects rfl rfl rfl (by decide +kernel) ⟨Nat.le_of_ble_eq_true rfl, Nat.le_of_ble_eq_true rfl⟩) rfl rfl hl.1 (Nat.le_of_ble_eq_true rfl) ⟨Nat.le_of_ble_eq_true rfl, Nat.le_of_ble_eq_true rfl⟩ dX7_who_1 ?_
  exact mq_ret hx hb hr rfl rfl dX7_who_4 hlocks rfl
set_option maxHeartbeats 4000000 in
set_option maxRecDepth 100000 in
theorem K_X7_mark_0 (l : Launch) (D : va_G) (C : cC) (a b : Nat → Nat) (V : Nat → Nat → Int) (kd : Int) (pe : Int) (hto : isTo (Int.toNat (V 0 3))) (hp0 : V (Int.toNat (V 0 3)) 7 = 0) (h1 : -2147483648 ≤ pe ∧ pe < 2147483648) : Met l yX7_mark wsX7_mark ({ frames := 1, cells := 0, slots := 0, locals := 21 }) (va_Pc [.ref (a 0), .int (iZ kd), .int (iZ pe)] (cOk D C a b V)) (vp_Si (fun r => r = iZ (-1000000))) 0 0 (fun _ => False) := by
  refine Met.ofW (cc := cX7_mark) (maxL := 3) (ret := (some .int)) (by decide) rfl ?_
  intro p e s m args below meth c s₁ B hml hv
  obtain ⟨rfl, hP, hK, hN⟩ := hv
  have hx := B.exec
  have hb := B.bytes
  have hr := B.returns
  have hts := atoms_spec (ws := wsX7_mark) B.pre
  have hown : s.vm.findClass RX7 = some m.cls := findClass_of_methodNamed B.named
  have hlocks := B.notSynchronized
  have hin_X7 : ∀ w ∈ wsX70, w ∈ wsX7_mark := fun _ w_h => (List.mem_cons_of_mem _ (List.mem_append_left _ (List.mem_append_left _ (List.mem_append_right _ w_h))))
  have hin_X6 : ∀ w ∈ wsX60, w ∈ wsX7_mark := fun _ w_h => (List.mem_cons_of_mem _ (List.mem_append_left _ (List.mem_append_right _ w_h)))
  have hin_X2 : ∀ w ∈ wsX20, w ∈ wsX7_mark := fun _ w_h => (List.mem_cons_of_mem _ (List.mem_append_right _ w_h))
  have hl := lv_entry ([.ref (a 0), .int (iZ kd), .int (iZ pe)]) (n := 3) (Nat.le_of_ble_eq_true rfl)
  rw [lg_entry_eq]
  generalize (lg_sl ([.ref (a 0), .int (iZ kd), .int (iZ pe)]) ++ List.replicate (3 - (lg_sl ([.ref (a 0), .int (iZ kd), .int (iZ pe)])).length) Slot.unset).toArray = ls at hl ⊢
  replace hl : lv_has ls 3 [(0, .ref (a 0)), (1, .int (iZ kd)), (2, .int (iZ pe))] := hl
  have hS : va_S (cA a) s.heap s.heap [] := va_S.rf
  refine lv_aload_n hx hb dX7_mark_0 rfl (lv_at hl 0 rfl) ?_
  refine kq_get (i := 0) hx hb hts hin_X7 hown hK hP (by decide) (cE_0 rfl) rfl 3 (by decide) (hts (.fieldLink RX7 29 "WordFletchers" "told" "LWordFletchers$Told;") (List.mem_cons_of_mem _ (List.mem_append_left _ (List.mem_append_left _ (List.mem_append_left _ (List.mem_append_left _ (List.mem_of_getElem? (i := 0) rfl))))))) rfl dX7_mark_1 ?_
  refine lv_iload_n hx hb dX7_mark_4 rfl (lv_at hl 2 rfl) ?_
  refine kq_ci (i := (Int.toNat (V 0 3))) (As := [.int (iZ pe)]) (rest := []) ⟨hx, hb, hml, hown, hts⟩ hK hP hN hS (isTo.l0 (by assumption)) (cE_15 (isTo.s0 (by assumption))) rfl (K_X6_hasOne l D C a b V (Int.toNat (V 0 3)) (by assumption) pe (by omega) (by omega)) (cwV 1 hts gX7_mark_X6_hasOne rfl rfl rfl (by decide +kernel) ⟨Nat.le_of_ble_eq_true rfl, Nat.le_of_ble_eq_true rfl⟩) rfl rfl hl.1 (Nat.le_of_ble_eq_true rfl) ⟨Nat.le_of_ble_eq_true rfl, Nat.le_of_ble_eq_true rfl⟩ dX7_mark_5 ?_
  refine z_ifb_ne (P := (0 ≤ pe ∧ pe < V (Int.toNat (V 0 3)) 7)) (tgt := 14) hx hb dX7_mark_8 (by decide) (fun c1 => ?_) (fun c1 => ?_)
  · omega
  · refine W.eq (g2 := F0 m 11 ls []) rfl ?_
    refine z_ldc (n := (-1000000)) hx hb hown (hts (Cond.constant RX7 121 (-1000000)) (List.mem_cons_of_mem _ (List.mem_append_left _ (List.mem_append_left _ (List.mem_append_left _ (List.mem_append_left _ (List.mem_of_getElem? (i := 1) rfl))))))) (by decide) dX7_mark_11 ?_
    exact mq_ret hx hb hr rfl rfl dX7_mark_13 hlocks rfl
set_option maxHeartbeats 4000000 in
set_option maxRecDepth 100000 in
theorem K_X7_back_0 (l : Launch) (D : va_G) (C : cC) (a b : Nat → Nat) (V : Nat → Nat → Int) (im : Int) (h1 : -2147483648 ≤ im ∧ im < 2147483648) (hk : ∀ q : Nat, isIm q → V q 2 = 0) : Met l yX7_back wsX7_back ({ frames := 0, cells := 0, slots := 0, locals := 0 }) (va_Pc [.ref (a 0), .int (iZ im)] (cOk D C a b V)) (vp_Si (fun r => r = iZ (if 0 ≤ im ∧ im < 2 then -2 else -1))) 0 0 (fun _ => False) := by
  refine Met.ofW (cc := cX7_back) (maxL := 2) (ret := (some .int)) (by decide) rfl ?_
  intro p e s m args below meth c s₁ B hml hv
  obtain ⟨rfl, hP, hK, hN⟩ := hv
  have hx := B.exec
  have hb := B.bytes
  have hr := B.returns
  have hts := atoms_spec (ws := wsX7_back) B.pre
  have hown : s.vm.findClass RX7 = some m.cls := findClass_of_methodNamed B.named
  have hlocks := B.notSynchronized
  have hin_X7 : ∀ w ∈ wsX70, w ∈ wsX7_back := fun _ w_h => (List.mem_cons_of_mem _ (List.mem_append_left _ (List.mem_append_left _ (List.mem_append_left _ (List.mem_append_right _ w_h)))))
  have hin_X1 : ∀ w ∈ wsX10, w ∈ wsX7_back := fun _ w_h => (List.mem_cons_of_mem _ (List.mem_append_left _ (List.mem_append_left _ (List.mem_append_right _ w_h))))
  have hin_X2 : ∀ w ∈ wsX20, w ∈ wsX7_back := fun _ w_h => (List.mem_cons_of_mem _ (List.mem_append_left _ (List.mem_append_right _ w_h)))
  have hin_X3 : ∀ w ∈ wsX30, w ∈ wsX7_back := fun _ w_h => (List.mem_cons_of_mem _ (List.mem_append_right _ w_h))
  have hl := lv_entry ([.ref (a 0), .int (iZ im)]) (n := 2) (Nat.le_of_ble_eq_true rfl)
  rw [lg_entry_eq]
  generalize (lg_sl ([.ref (a 0), .int (iZ im)]) ++ List.replicate (2 - (lg_sl ([.ref (a 0), .int (iZ im)])).length) Slot.unset).toArray = ls at hl ⊢
  replace hl : lv_has ls 2 [(0, .ref (a 0)), (1, .int (iZ im))] := hl
  have hS : va_S (cA a) s.heap s.heap [] := va_S.rf
  refine lv_iload_n hx hb dX7_back_0 rfl (lv_at hl 1 rfl) ?_
  refine z_if_lt (x := im) (tgt := 9) hx hb (by omega) dX7_back_1 (by decide) (fun c1 => ?_) (fun c1 => ?_)
  · refine lv_iconst (v := iZ (-1)) hx hb dX7_back_9 (by decide) ?_
    exact mq_ret hx hb hr rfl (by first | omega | rfl | ((repeat' split) <;> first | rfl | omega) | (subst_vars; first | rfl | omega | ((repeat' split) <;> first | rfl | omega))) dX7_back_10 hlocks rfl
  · refine lv_iload_n hx hb dX7_back_4 rfl (lv_at hl 1 rfl) ?_
    refine lv_iconst (v := iZ 2) hx hb dX7_back_5 (by decide) ?_
    refine z_icmp_lt (x := im) (y := 2) (tgt := 11) hx hb (by omega) (by omega) dX7_back_6 (by decide) (fun c2 => ?_) (fun c2 => ?_)
    · refine lv_aload_n hx hb dX7_back_11 rfl (lv_at hl 0 rfl) ?_
      refine kq_get (i := 0) hx hb hts hin_X7 hown hK hP (by decide) (cE_0 rfl) rfl 7 (by decide) (hts (.fieldLink RX7 52 "WordFletchers" "images" "[LWordFletchers$Image;") (List.mem_cons_of_mem _ (List.mem_append_left _ (List.mem_append_left _ (List.mem_append_left _ (List.mem_append_left _ (List.mem_append_left _ (List.mem_of_getElem? (i := 0) rfl)))))))) rfl dX7_back_12 ?_
      refine lv_iload_n hx hb dX7_back_15 rfl (lv_at hl 1 rfl) ?_
      refine W.eq (g2 := F0 m 16 ls [.int (iZ im), .ref (a 3)]) rfl ?_
      refine kq_aldI hx hb hK hP (Int.toNat im) rfl (by omega) dX7_back_16 ?_
      have hk9 := hk _ (isIm_of (i := im) (by omega))
      refine kq_get (i := (37 + (Int.toNat im))) hx hb hts hin_X1 hown hK hP (isIm.l0 (isIm_of (by omega))) (cE_25 (isIm.s0 (isIm_of (by omega)))) rfl 2 (by decide) (hts (.fieldLink RX7 291 "WordFletchers$Image" "kept" "Z") (List.mem_cons_of_mem _ (List.mem_append_left _ (List.mem_append_left _ (List.mem_append_left _ (List.mem_append_left _ (List.mem_append_left _ (List.mem_of_getElem? (i := 1) rfl)))))))) rfl dX7_back_17 ?_
      refine z_if_ne (x := (V (37 + (Int.toNat im)) 2)) (tgt := 26) hx hb (by omega) dX7_back_20 (by decide) (fun c3 => ?_) (fun c3 => ?_)
      · omega
      · refine lv_bipush (v := iZ (-2)) hx hb dX7_back_23 (by decide) ?_
        exact mq_ret hx hb hr rfl (by first | omega | rfl | ((repeat' split) <;> first | rfl | omega) | (subst_vars; first | rfl | omega | ((repeat' split) <;> first | rfl | omega))) dX7_back_25 hlocks rfl
    · refine lv_iconst (v := iZ (-1)) hx hb dX7_back_9 (by decide) ?_
      exact mq_ret hx hb hr rfl (by first | omega | rfl | ((repeat' split) <;> first | rfl | omega) | (subst_vars; first | rfl | omega | ((repeat' split) <;> first | rfl | omega))) dX7_back_10 hlocks rfl
set_option maxHeartbeats 4000000 in
set_option maxRecDepth 100000 in
theorem K_X7_uplands_0 (l : Launch) (D : va_G) (C : cC) (a b : Nat → Nat) (V : Nat → Nat → Int) (hto : isTo (Int.toNat (V 0 3))) (hto4 : isTo (Int.toNat (V 0 4))) (h1 : V 0 1 = 0) (hne : ¬ Int.toNat (V 0 4) = 0) (hDD : va_D (fun _ => True) (cW C a V)) : Met l yX7_uplands wsX7_uplands ({ frames := 4, cells := 0, slots := 0, locals := 87 }) (va_Pc [.ref (a 0)] (cOk D C a b V)) (va_Qi (fun r (_ : Unit) => r = iZ (0)) (fun _ _ => True) (cA a)) 0 0 (cA a) := by
  refine Met.ofW (cc := cX7_uplands) (maxL := 3) (ret := (some .int)) (by decide) rfl ?_
  intro p e s m args below meth c s₁ B hml hv
  obtain ⟨rfl, hP, hK, hN⟩ := hv
  have hx := B.exec
  have hb := B.bytes
  have hr := B.returns
  have hts := atoms_spec (ws := wsX7_uplands) B.pre
  have hown : s.vm.findClass RX7 = some m.cls := findClass_of_methodNamed B.named
  have hlocks := B.notSynchronized
  have hin_X7 : ∀ w ∈ wsX70, w ∈ wsX7_uplands := fun _ w_h => (List.mem_cons_of_mem _ (List.mem_append_left _ (List.mem_append_left _ (List.mem_append_left _ (List.mem_append_left _ (List.mem_append_left _ (List.mem_append_left _ (List.mem_append_right _ w_h))))))))
  have hin_X5 : ∀ w ∈ wsX50, w ∈ wsX7_uplands := fun _ w_h => (List.mem_cons_of_mem _ (List.mem_append_left _ (List.mem_append_left _ (List.mem_append_left _ (List.mem_append_left _ (List.mem_append_left _ (List.mem_append_right _ w_h)))))))
  have hin_X6 : ∀ w ∈ wsX60, w ∈ wsX7_uplands := fun _ w_h => (List.mem_cons_of_mem _ (List.mem_append_left _ (List.mem_append_left _ (List.mem_append_left _ (List.mem_append_left _ (List.mem_append_right _ w_h))))))
  have hin_X3 : ∀ w ∈ wsX30, w ∈ wsX7_uplands := fun _ w_h => (List.mem_cons_of_mem _ (List.mem_append_left _ (List.mem_append_left _ (List.mem_append_left _ (List.mem_append_right _ w_h)))))
  have hin_X4 : ∀ w ∈ wsX40, w ∈ wsX7_uplands := fun _ w_h => (List.mem_cons_of_mem _ (List.mem_append_left _ (List.mem_append_left _ (List.mem_append_right _ w_h))))
  have hin_X1 : ∀ w ∈ wsX10, w ∈ wsX7_uplands := fun _ w_h => (List.mem_cons_of_mem _ (List.mem_append_left _ (List.mem_append_right _ w_h)))
  have hin_X2 : ∀ w ∈ wsX20, w ∈ wsX7_uplands := fun _ w_h => (List.mem_cons_of_mem _ (List.mem_append_right _ w_h))
  have hl := lv_entry ([.ref (a 0)]) (n := 3) (Nat.le_of_ble_eq_true rfl)
  rw [lg_entry_eq]
  generalize (lg_sl ([.ref (a 0)]) ++ List.replicate (3 - (lg_sl ([.ref (a 0)])).length) Slot.unset).toArray = ls at hl ⊢
  replace hl : lv_has ls 3 [(0, .ref (a 0))] := hl
  have hD : va_D (cA a) (cW C a V) := cD_own hDD
  generalize hHe : s.heap = H at hP ⊢
  have hS : va_S (cA a) s.heap H [] := by rw [hHe]; exact va_S.rf
  generalize hlo : ([] : List Loc) = locs at hS ⊢
  clear hHe hlo
  have hjo := hto4
  unfold isTo at hjo
  refine lv_aload_n hx hb dX7_uplands_0 rfl (lv_at hl 0 rfl) ?_
  refine kq_get (i := 0) hx hb hts hin_X7 hown hK hP (by decide) (cE_0 rfl) rfl 2 (by decide) (hts (.fieldLink RX7 22 "WordFletchers" "reader" "LWordFletchers$TextReader;") (List.mem_cons_of_mem _ (List.mem_append_left _ (List.mem_append_left _ (List.mem_append_left _ (List.mem_append_left _ (List.mem_append_left _ (List.mem_append_left _ (List.mem_append_left _ (List.mem_append_left _ (List.mem_of_getElem? (i := 0) rfl))))))))))) rfl dX7_uplands_1 ?_
  refine lv_aload_n hx hb dX7_uplands_4 rfl (lv_at hl 0 rfl) ?_
  refine kq_get (i := 0) hx hb hts hin_X7 hown hK hP (by decide) (cE_0 rfl) rfl 1 (by decide) (hts (.fieldLink RX7 13 "WordFletchers" "textLength" "I") (List.mem_cons_of_mem _ (List.mem_append_left _ (List.mem_append_left _ (List.mem_append_left _ (List.mem_append_left _ (List.mem_append_left _ (List.mem_append_left _ (List.mem_append_left _ (List.mem_append_left _ (List.mem_of_getElem? (i := 1) rfl))))))))))) rfl dX7_uplands_5 ?_
  refine lv_aload_n hx hb dX7_uplands_8 rfl (lv_at hl 0 rfl) ?_
  refine W.eq (g2 := F0 m 9 ls [.ref (a 0), .int (iZ (V 0 1)), .ref (a 2)]) rfl ?_
  refine kq_get (i := 0) hx hb hts hin_X7 hown hK hP (by decide) (cE_0 rfl) rfl 4 (by decide) (hts (.fieldLink RX7 33 "WordFletchers" "draft" "LWordFletchers$Told;") (List.mem_cons_of_mem _ (List.mem_append_left _ (List.mem_append_left _ (List.mem_append_left _ (List.mem_append_left _ (List.mem_append_left _ (List.mem_append_left _ (List.mem_append_left _ (List.mem_append_left _ (List.mem_of_getElem? (i := 2) rfl))))))))))) rfl dX7_uplands_9 ?_
  refine kq_cm (i := 2) (As := [.int (iZ (V 0 1)), .ref (a (Int.toNat (V 0 4)))]) (rest := []) ⟨hx, hb, hml, hown, hts⟩ hK hP hN hD hS (by decide) (cE_2 rfl) rfl (K_X5_read_0 l D C a b V (V 0 1) (Int.toNat (V 0 4)) (by assumption) (by omega) (hD.weaken (fun _ _ _ _ => trivial))) (cwV 2 hts gX7_uplands_X5_read rfl rfl rfl (by decide +kernel) ⟨Nat.le_of_ble_eq_true rfl, Nat.le_of_ble_eq_true rfl⟩) rfl rfl hl.1 (Nat.le_of_ble_eq_true rfl) ⟨Nat.le_of_ble_eq_true rfl, Nat.le_of_ble_eq_true rfl⟩ dX7_uplands_12 (fun H locs hP hD hS => ?_)
  obtain ⟨V1, hV1⟩ : ∃ z : Nat → Nat → Int, z = (f_rd0 V (Int.toNat (V 0 4))) := ⟨_, rfl⟩
  rw [← hV1] at hP hD
  have r0 : V1 0 = V 0 := by rw [hV1]; exact f_rd0_o _ (by omega) (by omega)
  have r8 : V1 (Int.toNat (V 0 4)) 8 = 0 := by rw [hV1]; exact f_rd0_8 _ hto4
  have r3 : isTo (Int.toNat (V1 0 3)) := by rw [r0]; exact hto
  have r4 : isTo (Int.toNat (V1 0 4)) := by rw [r0]; exact hto4
  have r5 : Int.toNat (V1 0 4) = Int.toNat (V 0 4) := by rw [r0]
  refine lv_istore_n (lv' := [(1, .int (iZ 0)), (0, .ref (a 0))]) hx hb dX7_uplands_15 rfl hl (by decide) rfl (fun ls hl => ?_)
  refine lv_iload_n hx hb dX7_uplands_16 rfl (lv_at hl 0 rfl) ?_
  refine z_if_ge (x := 0) (tgt := 22) hx hb (by omega) dX7_uplands_17 (by decide) (fun c2 => ?_) (fun c2 => ?_)
  · refine lv_aload_n hx hb dX7_uplands_22 rfl (lv_at hl 1 rfl) ?_
    refine kq_get (i := 0) hx hb hts hin_X7 hown hK hP (by decide) (cE_0 rfl) rfl 3 (by decide) (hts (.fieldLink RX7 29 "WordFletchers" "told" "LWordFletchers$Told;") (List.mem_cons_of_mem _ (List.mem_append_left _ (List.mem_append_left _ (List.mem_append_left _ (List.mem_append_left _ (List.mem_append_left _ (List.mem_append_left _ (List.mem_append_left _ (List.mem_append_left _ (List.mem_of_getElem? (i := 3) rfl))))))))))) rfl dX7_uplands_23 ?_
    refine lv_astore_n (lv' := [(2, .ref (a (Int.toNat (V1 0 3)))), (1, .int (iZ 0)), (0, .ref (a 0))]) hx hb dX7_uplands_26 rfl hl (by decide) rfl (fun ls hl => ?_)
    refine lv_aload_n hx hb dX7_uplands_27 rfl (lv_at hl 2 rfl) ?_
    refine lv_aload_n hx hb dX7_uplands_28 rfl (lv_at hl 2 rfl) ?_
    refine kq_get (i := 0) hx hb hts hin_X7 hown hK hP (by decide) (cE_0 rfl) rfl 4 (by decide) (hts (.fieldLink RX7 33 "WordFletchers" "draft" "LWordFletchers$Told;") (List.mem_cons_of_mem _ (List.mem_append_left _ (List.mem_append_left _ (List.mem_append_left _ (List.mem_append_left _ (List.mem_append_left _ (List.mem_append_left _ (List.mem_append_left _ (List.mem_append_left _ (List.mem_of_getElem? (i := 2) rfl))))))))))) rfl dX7_uplands_29 ?_
    refine kq_putR (ty := .object "WordFletchers$Told") (i := 0) hx hb hts hin_X7 hown tyX7 tyX7_ok nmX7 hK hP hD hS (by decide) (cE_0 rfl) rfl 3 (by decide) (hts (.fieldLink RX7 29 "WordFletchers" "told" "LWordFletchers$Told;") (List.mem_cons_of_mem _ (List.mem_append_left _ (List.mem_append_left _ (List.mem_append_left _ (List.mem_append_left _ (List.mem_append_left _ (List.mem_append_left _ (List.mem_append_left _ (List.mem_append_left _ (List.mem_of_getElem? (i := 3) rfl))))))))))) rfl (Int.toNat (V1 0 4)) (by decide +kernel) rfl rfl (Nat.le_of_ble_eq_true rfl) rfl dX7_uplands_32 (fun H locs hP hD hS => ?_)
    obtain ⟨V3, hV3⟩ : ∃ z : Nat → Nat → Int, z = (mU V1 0 3 (((Int.toNat (V1 0 4)) : Nat) : Int)) := ⟨_, rfl⟩
    rw [← hV3] at hP hD
    have u3 : V3 0 3 = ((Int.toNat (V1 0 4) : Nat) : Int) := by rw [hV3, mU_eq]
    have u8 : V3 (Int.toNat (V 0 4)) = V1 (Int.toNat (V 0 4)) := by rw [hV3]; exact mU_or _ _ _ (by omega)
    refine W.eq (g2 := F0 m 35 ls []) rfl ?_
    refine lv_aload_n hx hb dX7_uplands_35 rfl (lv_at hl 2 rfl) ?_
    refine lv_aload_n hx hb dX7_uplands_36 rfl (lv_at hl 0 rfl) ?_
    refine kq_putR (ty := .object "WordFletchers$Told") (i := 0) hx hb hts hin_X7 hown tyX7 tyX7_ok nmX7 hK hP hD hS (by decide) (cE_0 rfl) rfl 4 (by decide) (hts (.fieldLink RX7 33 "WordFletchers" "draft" "LWordFletchers$Told;") (List.mem_cons_of_mem _ (List.mem_append_left _ (List.mem_append_left _ (List.mem_append_left _ (List.mem_append_left _ (List.mem_append_left _ (List.mem_append_left _ (List.mem_append_left _ (List.mem_append_left _ (List.mem_of_getElem? (i := 2) rfl))))))))))) rfl (Int.toNat (V1 0 3)) (by decide +kernel) rfl rfl (Nat.le_of_ble_eq_true rfl) rfl dX7_uplands_37 (fun H locs hP hD hS => ?_)
    obtain ⟨V4, hV4⟩ : ∃ z : Nat → Nat → Int, z = (mU V3 0 4 (((Int.toNat (V1 0 3)) : Nat) : Int)) := ⟨_, rfl⟩
    rw [← hV4] at hP hD
    have v3 : V4 0 3 = V3 0 3 := by rw [hV4]; rfl
    have v8 : V4 (Int.toNat (V 0 4)) = V3 (Int.toNat (V 0 4)) := by rw [hV4]; exact mU_or _ _ _ (by omega)
    refine lv_aload_n hx hb dX7_uplands_40 rfl (lv_at hl 2 rfl) ?_
    refine lv_iconst (v := iZ 0) hx hb dX7_uplands_41 (by decide) ?_
    refine kq_put (ty := .int) (i := 0) hx hb hts hin_X7 hown tyX7 tyX7_ok nmX7 hK hP hD hS (by decide) (cE_0 rfl) rfl 1 (by decide) (hts (.fieldLink RX7 13 "WordFletchers" "textLength" "I") (List.mem_cons_of_mem _ (List.mem_append_left _ (List.mem_append_left _ (List.mem_append_left _ (List.mem_append_left _ (List.mem_append_left _ (List.mem_append_left _ (List.mem_append_left _ (List.mem_append_left _ (List.mem_of_getElem? (i := 1) rfl))))))))))) rfl (by decide +kernel) rfl rfl (Nat.le_of_ble_eq_true rfl) rfl dX7_uplands_42 (fun H locs hP hD hS => ?_)
    obtain ⟨V5, hV5⟩ : ∃ z : Nat → Nat → Int, z = (mU V4 0 1 0) := ⟨_, rfl⟩
    rw [← hV5] at hP hD
    have w3 : V5 0 3 = V4 0 3 := by rw [hV5]; rfl
    have w8 : V5 (Int.toNat (V 0 4)) = V4 (Int.toNat (V 0 4)) := by rw [hV5]; exact mU_or _ _ _ (by omega)
    have x3 : Int.toNat (V5 0 3) = Int.toNat (V 0 4) := by rw [w3, v3, u3, r5]; rfl
    have xto : isTo (Int.toNat (V5 0 3)) := by rw [x3]; exact hto4
    have x8 : V5 (Int.toNat (V5 0 3)) 8 = 0 := by rw [x3, w8, v8, u8]; exact r8
    have xfi : ∀ k : Nat, (k : Int) < V5 (Int.toNat (V5 0 3)) 8 → 0 ≤ V5 (Int.toNat (V5 0 3) + 5) k ∧ V5 (Int.toNat (V5 0 3) + 5) k ≤ 30 := fun k hk => absurd hk (by rw [x8]; omega)
    refine lv_aload_n hx hb dX7_uplands_45 rfl (lv_at hl 2 rfl) ?_
    refine kq_cv (i := 0) (As := []) (rest := []) ⟨hx, hb, hml, hown, hts⟩ hK hP hN hD hS (by decide) (cE_0 rfl) rfl (K_X7_beginAnew l D C a b V5  (by assumption) (by omega) (by assumption) (hD.weaken (fun _ _ _ _ => trivial))) (cwV 0 hts gX7_uplands_X7_beginAnew rfl rfl rfl (by decide +kernel) ⟨Nat.le_of_ble_eq_true rfl, Nat.le_of_ble_eq_true rfl⟩) rfl rfl hl.1 (Nat.le_of_ble_eq_true rfl) ⟨Nat.le_of_ble_eq_true rfl, Nat.le_of_ble_eq_true rfl⟩ dX7_uplands_46 (fun H locs hP hD hS => ?_)
    obtain ⟨V6, hV6⟩ : ∃ z : Nat → Nat → Int, z = (f_anew V5) := ⟨_, rfl⟩
    rw [← hV6] at hP hD
    refine lv_iload_n hx hb dX7_uplands_49 rfl (lv_at hl 1 rfl) ?_
    exact kq_retT hx hb hS hr rfl rfl dX7_uplands_50 hlocks
  · omega
