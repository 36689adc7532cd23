set_option maxHeartbeats 4000000 in
set_option maxRecDepth 100000 in
theorem K_X7_shotOf (l : Launch) (fe : Int) (nn : Int) (sd : Int) (h1 : 0 ≤ fe ∧ fe ≤ 3) (h2 : 0 ≤ nn ∧ nn ≤ 3) (h3 : 0 ≤ sd ∧ sd ≤ 1) : Met l yX7_shotOf wsX7_shotOf ({ frames := 0, cells := 0, slots := 0, locals := 0 }) (va_Pc [.int (iZ fe), .int (iZ nn), .int (iZ sd)] (fun _ => True)) (vp_Si (fun r => r = iZ (100 * fe + 10 * nn + sd))) 0 0 (fun _ => False) := by
  refine Met.ofW (cc := cX7_shotOf) (maxL := 3) (ret := (some .int)) (by decide) rfl ?_
  intro p e s m args below meth c s₁ B hml hv
  obtain ⟨rfl, -⟩ := hv
  have hx := B.exec
  have hb := B.bytes
  have hr := B.returns
  have hts := atoms_spec (ws := wsX7_shotOf) B.pre
  have hown : s.vm.findClass RX7 = some m.cls := findClass_of_methodNamed B.named
  have hlocks := B.notSynchronized
  have hl := lv_entry ([.int (iZ fe), .int (iZ nn), .int (iZ sd)]) (n := 3) (Nat.le_of_ble_eq_true rfl)
  rw [lg_entry_eq]
  generalize (lg_sl ([.int (iZ fe), .int (iZ nn), .int (iZ sd)]) ++ List.replicate (3 - (lg_sl ([.int (iZ fe), .int (iZ nn), .int (iZ sd)])).length) Slot.unset).toArray = ls at hl ⊢
  replace hl : lv_has ls 3 [(0, .int (iZ fe)), (1, .int (iZ nn)), (2, .int (iZ sd))] := hl
  refine W.eq (g2 := F0 m 0 ls []) rfl ?_
  refine lv_bipush (v := iZ 100) hx hb dX7_shotOf_0 (by decide) ?_
  refine lv_iload_n hx hb dX7_shotOf_2 rfl (lv_at hl 0 rfl) ?_
  refine z_imul hx hb dX7_shotOf_3 ?_
  refine lv_bipush (v := iZ 10) hx hb dX7_shotOf_4 (by decide) ?_
  refine lv_iload_n hx hb dX7_shotOf_6 rfl (lv_at hl 1 rfl) ?_
  refine z_imul hx hb dX7_shotOf_7 ?_
  refine z_iadd hx hb dX7_shotOf_8 ?_
  refine lv_iload_n hx hb dX7_shotOf_9 rfl (lv_at hl 2 rfl) ?_
  refine z_iadd hx hb dX7_shotOf_10 ?_
  exact mq_ret hx hb hr rfl rfl dX7_shotOf_11 hlocks rfl
set_option maxHeartbeats 4000000 in
set_option maxRecDepth 100000 in
theorem K_X7_isShot (l : Launch) (sh : Int) (h1 : -2147483648 ≤ sh ∧ sh < 2147483648) : Met l yX7_isShot wsX7_isShot ({ frames := 0, cells := 0, slots := 0, locals := 0 }) (va_Pc [.int (iZ sh)] (fun _ => True)) (vp_Si (fun r => r = iZ (if (0 ≤ sh ∧ sh / 100 ≤ 3 ∧ sh / 10 % 10 ≤ 3 ∧ sh % 10 ≤ 1) then 1 else 0))) 0 0 (fun _ => False) := by
  refine Met.ofW (cc := cX7_isShot) (maxL := 1) (ret := (some .boolean)) (by decide) rfl ?_
  intro p e s m args below meth c s₁ B hml hv
  obtain ⟨rfl, -⟩ := hv
  have hx := B.exec
  have hb := B.bytes
  have hr := B.returns
  have hts := atoms_spec (ws := wsX7_isShot) B.pre
  have hown : s.vm.findClass RX7 = some m.cls := findClass_of_methodNamed B.named
  have hlocks := B.notSynchronized
  have hl := lv_entry ([.int (iZ sh)]) (n := 1) (Nat.le_of_ble_eq_true rfl)
  rw [lg_entry_eq]
  generalize (lg_sl ([.int (iZ sh)]) ++ List.replicate (1 - (lg_sl ([.int (iZ sh)])).length) Slot.unset).toArray = ls at hl ⊢
  replace hl : lv_has ls 1 [(0, .int (iZ sh))] := hl
  refine lv_iload_n hx hb dX7_isShot_0 rfl (lv_at hl 0 rfl) ?_
  have K6 : ∀ (v5 : Int), (v5 = (if sh < 0 then 0 else (if 4 ≤ (sh / 100) then 0 else (if 3 < ((sh / 10) % 10) then 0 else (if 1 < (sh % 10) then 0 else 1))))) → ∀ ls : Array Slot, lv_has ls 1 [] → W p l e ((headSpec wsX7_isShot ({ frames := 0, cells := 0, slots := 0, locals := 0 })).room) s m (([.int (iZ sh)] : List Value).toArray) below meth c s.heap [] 0 0 (MQ below (vp_Si (fun r => r = iZ (if (0 ≤ sh ∧ sh / 100 ≤ 3 ∧ sh / 10 % 10 ≤ 3 ∧ sh % 10 ≤ 1) then 1 else 0))) (([.int (iZ sh)] : List Value).toArray) s 0 0 (fun _ => False)) (F0 m 36 ls [.int (iZ v5)]) := by
    intro v5 hv5 ls hl
    exact mq_ret hx hb hr (z_nbool (by first | omega | (split <;> omega))) (by first | omega | rfl | ((repeat' split) <;> first | rfl | omega) | (subst_vars; first | rfl | omega | ((repeat' split) <;> first | rfl | omega))) dX7_isShot_36 hlocks rfl
  refine z_if_lt (x := sh) (tgt := 35) hx hb (by omega) dX7_isShot_1 (by decide) (fun c1 => ?_) (fun c1 => ?_)
  · refine W.eq (g2 := F0 m 35 ls []) rfl ?_
    refine lv_iconst (v := iZ 0) hx hb dX7_isShot_35 (by decide) ?_
    exact K6 0 (by first | rfl | (rw [if_pos c1]; done) | omega | (subst_vars; first | rfl | (rw [if_pos c1]; done) | omega)) ls (lv_sub hl [] rfl)
  · refine lv_iload_n hx hb dX7_isShot_4 rfl (lv_at hl 0 rfl) ?_
    refine lv_bipush (v := iZ 100) hx hb dX7_isShot_5 (by decide) ?_
    refine z_idiv hx hb (by omega) (by omega) dX7_isShot_7 ?_
    refine lv_iconst (v := iZ 4) hx hb dX7_isShot_8 (by decide) ?_
    refine z_icmp_ge (x := (sh / 100)) (y := 4) (tgt := 35) hx hb (by omega) (by omega) dX7_isShot_9 (by decide) (fun c2 => ?_) (fun c2 => ?_)
    · refine lv_iconst (v := iZ 0) hx hb dX7_isShot_35 (by decide) ?_
      exact K6 0 (by first | rfl | (rw [if_neg c1, if_pos c2]; done) | omega | (subst_vars; first | rfl | (rw [if_neg c1, if_pos c2]; done) | omega)) ls (lv_sub hl [] rfl)
    · refine lv_iload_n hx hb dX7_isShot_12 rfl (lv_at hl 0 rfl) ?_
      refine lv_bipush (v := iZ 10) hx hb dX7_isShot_13 (by decide) ?_
      refine z_idiv hx hb (by omega) (by omega) dX7_isShot_15 ?_
      refine lv_bipush (v := iZ 10) hx hb dX7_isShot_16 (by decide) ?_
      refine z_irem hx hb (by omega) (by omega) dX7_isShot_18 ?_
      refine W.eq (g2 := F0 m 19 ls [.int (iZ ((sh / 10) % 10))]) rfl ?_
      refine lv_iconst (v := iZ 3) hx hb dX7_isShot_19 (by decide) ?_
      refine z_icmp_gt (x := ((sh / 10) % 10)) (y := 3) (tgt := 35) hx hb (by omega) (by omega) dX7_isShot_20 (by decide) (fun c3 => ?_) (fun c3 => ?_)
      · refine lv_iconst (v := iZ 0) hx hb dX7_isShot_35 (by decide) ?_
        exact K6 0 (by first | rfl | (rw [if_neg c1, if_neg c2, if_pos c3]; done) | omega | (subst_vars; first | rfl | (rw [if_neg c1, if_neg c2, if_pos c3]; done) | omega)) ls (lv_sub hl [] rfl)
      · refine lv_iload_n hx hb dX7_isShot_23 rfl (lv_at hl 0 rfl) ?_
        refine lv_bipush (v := iZ 10) hx hb dX7_isShot_24 (by decide) ?_
        refine z_irem hx hb (by omega) (by omega) dX7_isShot_26 ?_
        refine lv_iconst (v := iZ 1) hx hb dX7_isShot_27 (by decide) ?_
        refine z_icmp_gt (x := (sh % 10)) (y := 1) (tgt := 35) hx hb (by omega) (by omega) dX7_isShot_28 (by decide) (fun c4 => ?_) (fun c4 => ?_)
        · refine lv_iconst (v := iZ 0) hx hb dX7_isShot_35 (by decide) ?_
          exact K6 0 (by first | rfl | (rw [if_neg c1, if_neg c2, if_neg c3, if_pos c4]; done) | omega | (subst_vars; first | rfl | (rw [if_neg c1, if_neg c2, if_neg c3, if_pos c4]; done) | omega)) ls (lv_sub hl [] rfl)
        · refine lv_iconst (v := iZ 1) hx hb dX7_isShot_31 (by decide) ?_
          refine lv_goto (tgt := 36) hx hb dX7_isShot_32 (by decide) ?_
          exact K6 1 (by first | rfl | (rw [if_neg c1, if_neg c2, if_neg c3, if_neg c4]; done) | omega | (subst_vars; first | rfl | (rw [if_neg c1, if_neg c2, if_neg c3, if_neg c4]; done) | omega)) ls (lv_sub hl [] rfl)
set_option maxHeartbeats 4000000 in
set_option maxRecDepth 100000 in
theorem K_X7_isLetOff (l : Launch) (D : va_G) (C : cC) (a b : Nat → Nat) (V : Nat → Nat → Int) (pe : Int) (sy : Int) (fe : Int) (nn : Int) (sd : Int) (hI : cI V) (h0 : -2147483648 ≤ pe ∧ pe < 2147483648) (h1 : -2147483648 ≤ sy ∧ sy < 2147483648) (h2 : -2147483648 ≤ fe ∧ fe < 2147483648) (h3 : -2147483648 ≤ nn ∧ nn < 2147483648) (h4 : -2147483648 ≤ sd ∧ sd < 2147483648) : Met l yX7_isLetOff wsX7_isLetOff ({ frames := 1, cells := 0, slots := 0, locals := 21 }) (va_Pc [.ref (a 0), .int (iZ pe), .int (iZ sy), .int (iZ fe), .int (iZ nn), .int (iZ sd)] (cOk D C a b V)) (vp_Si (fun r => r = iZ (if (0 ≤ pe ∧ pe < V (Int.toNat (V 0 3)) 7) ∧ (0 ≤ sy ∧ sy < V (Int.toNat (V 0 3)) 8) ∧ (0 ≤ fe ∧ fe ≤ 3) ∧ (0 ≤ nn ∧ nn ≤ 3) ∧ (0 ≤ sd ∧ sd ≤ 1) then 1 else 0))) 0 0 (fun _ => False) := by
  refine Met.ofW (cc := cX7_isLetOff) (maxL := 6) (ret := (some .boolean)) (by decide) rfl ?_
  intro p e s m args below meth c s₁ B hml hv
  obtain ⟨rfl, hP, hK, hN⟩ := hv
  have hx := B.exec
  have hb := B.bytes
  have hr := B.returns
  have hts := atoms_spec (ws := wsX7_isLetOff) B.pre
  have hown : s.vm.findClass RX7 = some m.cls := findClass_of_methodNamed B.named
  have hlocks := B.notSynchronized
  have hin_X7 : ∀ w ∈ wsX70, w ∈ wsX7_isLetOff := fun _ w_h => (List.mem_cons_of_mem _ (List.mem_append_left _ (List.mem_append_right _ w_h)))
  have hin_X6 : ∀ w ∈ wsX60, w ∈ wsX7_isLetOff := fun _ w_h => (List.mem_cons_of_mem _ (List.mem_append_right _ w_h))
  have hl := lv_entry ([.ref (a 0), .int (iZ pe), .int (iZ sy), .int (iZ fe), .int (iZ nn), .int (iZ sd)]) (n := 6) (Nat.le_of_ble_eq_true rfl)
  rw [lg_entry_eq]
  generalize (lg_sl ([.ref (a 0), .int (iZ pe), .int (iZ sy), .int (iZ fe), .int (iZ nn), .int (iZ sd)]) ++ List.replicate (6 - (lg_sl ([.ref (a 0), .int (iZ pe), .int (iZ sy), .int (iZ fe), .int (iZ nn), .int (iZ sd)])).length) Slot.unset).toArray = ls at hl ⊢
  replace hl : lv_has ls 6 [(0, .ref (a 0)), (1, .int (iZ pe)), (2, .int (iZ sy)), (3, .int (iZ fe)), (4, .int (iZ nn)), (5, .int (iZ sd))] := hl
  have hS : va_S (cA a) s.heap s.heap [] := va_S.rf
  obtain ⟨hto, hto4, hne, htx, hT, hM, hpa, hpi, hki, hsz, hsg, hby⟩ := id hI
  have hnt := hT.now
  have hnm := hM.now
  refine W.eq (g2 := F0 m 0 ls []) rfl ?_
  refine lv_aload_n hx hb dX7_isLetOff_0 rfl (lv_at hl 0 rfl) ?_
  refine kq_get (i := 0) hx hb hts hin_X7 hown hK hP (by decide) (cE_0 rfl) rfl 3 (by decide) (hts (.fieldLink RX7 29 "WordFletchers" "told" "LWordFletchers$Told;") (List.mem_cons_of_mem _ (List.mem_append_left _ (List.mem_append_left _ (List.mem_of_getElem? (i := 0) rfl))))) rfl dX7_isLetOff_1 ?_
  refine lv_iload_n hx hb dX7_isLetOff_4 rfl (lv_at hl 1 rfl) ?_
  refine kq_ci (i := (Int.toNat (V 0 3))) (As := [.int (iZ pe)]) (rest := []) ⟨hx, hb, hml, hown, hts⟩ hK hP hN hS (isTo.l0 (by assumption)) (cE_15 (isTo.s0 (by assumption))) rfl (K_X6_hasOne l D C a b V (Int.toNat (V 0 3)) (by assumption) pe (by omega) (by omega)) (cwV 1 hts gX7_isLetOff_X6_hasOne rfl rfl rfl (by decide +kernel) ⟨Nat.le_of_ble_eq_true rfl, Nat.le_of_ble_eq_true rfl⟩) rfl rfl hl.1 (Nat.le_of_ble_eq_true rfl) ⟨Nat.le_of_ble_eq_true rfl, Nat.le_of_ble_eq_true rfl⟩ dX7_isLetOff_5 ?_
  have K10 : ∀ (v9 : Int), (v9 = (if (0 ≤ pe ∧ pe < V (Int.toNat (V 0 3)) 7) then (if (0 ≤ sy ∧ sy < V (Int.toNat (V 0 3)) 8) then (if fe < 0 then 0 else (if 4 ≤ fe then 0 else (if nn < 0 then 0 else (if 3 < nn then 0 else (if sd < 0 then 0 else (if 1 < sd then 0 else 1)))))) else 0) else 0)) → ∀ ls : Array Slot, lv_has ls 6 [] → W p l e ((headSpec wsX7_isLetOff ({ frames := 1, cells := 0, slots := 0, locals := 21 })).room) s m (([.ref (a 0), .int (iZ pe), .int (iZ sy), .int (iZ fe), .int (iZ nn), .int (iZ sd)] : List Value).toArray) below meth c s.heap [] 0 0 (MQ below (vp_Si (fun r => r = iZ (if (0 ≤ pe ∧ pe < V (Int.toNat (V 0 3)) 7) ∧ (0 ≤ sy ∧ sy < V (Int.toNat (V 0 3)) 8) ∧ (0 ≤ fe ∧ fe ≤ 3) ∧ (0 ≤ nn ∧ nn ≤ 3) ∧ (0 ≤ sd ∧ sd ≤ 1) then 1 else 0))) (([.ref (a 0), .int (iZ pe), .int (iZ sy), .int (iZ fe), .int (iZ nn), .int (iZ sd)] : List Value).toArray) s 0 0 (fun _ => False)) (F0 m 58 ls [.int (iZ v9)]) := by
    intro v9 hv9 ls hl
    exact mq_ret hx hb hr (z_nbool (by first | omega | (split <;> omega))) (by first | omega | rfl | ((repeat' split) <;> first | rfl | omega) | (subst_vars; first | rfl | omega | ((repeat' split) <;> first | rfl | omega))) dX7_isLetOff_58 hlocks rfl
  refine z_ifb_eq (P := (0 ≤ pe ∧ pe < V (Int.toNat (V 0 3)) 7)) (tgt := 57) hx hb dX7_isLetOff_8 (by decide) (fun c1 => ?_) (fun c1 => ?_)
  · refine lv_iconst (v := iZ 0) hx hb dX7_isLetOff_57 (by decide) ?_
    exact K10 0 (by first | rfl | (rw [if_neg c1]; done) | omega | (subst_vars; first | rfl | (rw [if_neg c1]; done) | omega)) ls (lv_sub hl [] rfl)
  · refine lv_aload_n hx hb dX7_isLetOff_11 rfl (lv_at hl 0 rfl) ?_
    refine kq_get (i := 0) hx hb hts hin_X7 hown hK hP (by decide) (cE_0 rfl) rfl 3 (by decide) (hts (.fieldLink RX7 29 "WordFletchers" "told" "LWordFletchers$Told;") (List.mem_cons_of_mem _ (List.mem_append_left _ (List.mem_append_left _ (List.mem_of_getElem? (i := 0) rfl))))) rfl dX7_isLetOff_12 ?_
    refine lv_iload_n hx hb dX7_isLetOff_15 rfl (lv_at hl 2 rfl) ?_
    refine kq_ci (i := (Int.toNat (V 0 3))) (As := [.int (iZ sy)]) (rest := []) ⟨hx, hb, hml, hown, hts⟩ hK hP hN hS (isTo.l0 (by assumption)) (cE_15 (isTo.s0 (by assumption))) rfl (K_X6_hasSaying l D C a b V (Int.toNat (V 0 3)) (by assumption) sy (by omega) (by omega)) (cwV 1 hts gX7_isLetOff_X6_hasSaying rfl rfl rfl (by decide +kernel) ⟨Nat.le_of_ble_eq_true rfl, Nat.le_of_ble_eq_true rfl⟩) rfl rfl hl.1 (Nat.le_of_ble_eq_true rfl) ⟨Nat.le_of_ble_eq_true rfl, Nat.le_of_ble_eq_true rfl⟩ dX7_isLetOff_16 ?_
    refine z_ifb_eq (P := (0 ≤ sy ∧ sy < V (Int.toNat (V 0 3)) 8)) (tgt := 57) hx hb dX7_isLetOff_19 (by decide) (fun c2 => ?_) (fun c2 => ?_)
    · refine lv_iconst (v := iZ 0) hx hb dX7_isLetOff_57 (by decide) ?_
      exact K10 0 (by first | rfl | (rw [if_pos c1, if_neg c2]; done) | omega | (subst_vars; first | rfl | (rw [if_pos c1, if_neg c2]; done) | omega)) ls (lv_sub hl [] rfl)
    · refine W.eq (g2 := F0 m 22 ls []) rfl ?_
      refine lv_iload_n hx hb dX7_isLetOff_22 rfl (lv_at hl 3 rfl) ?_
      refine z_if_lt (x := fe) (tgt := 57) hx hb (by omega) dX7_isLetOff_23 (by decide) (fun c3 => ?_) (fun c3 => ?_)
      · refine lv_iconst (v := iZ 0) hx hb dX7_isLetOff_57 (by decide) ?_
        exact K10 0 (by first | rfl | (rw [if_pos c1, if_pos c2, if_pos c3]; done) | omega | (subst_vars; first | rfl | (rw [if_pos c1, if_pos c2, if_pos c3]; done) | omega)) ls (lv_sub hl [] rfl)
      · refine lv_iload_n hx hb dX7_isLetOff_26 rfl (lv_at hl 3 rfl) ?_
        refine lv_iconst (v := iZ 4) hx hb dX7_isLetOff_27 (by decide) ?_
        refine z_icmp_ge (x := fe) (y := 4) (tgt := 57) hx hb (by omega) (by omega) dX7_isLetOff_28 (by decide) (fun c4 => ?_) (fun c4 => ?_)
        · refine lv_iconst (v := iZ 0) hx hb dX7_isLetOff_57 (by decide) ?_
          exact K10 0 (by first | rfl | (rw [if_pos c1, if_pos c2, if_neg c3, if_pos c4]; done) | omega | (subst_vars; first | rfl | (rw [if_pos c1, if_pos c2, if_neg c3, if_pos c4]; done) | omega)) ls (lv_sub hl [] rfl)
        · refine lv_iload hx hb dX7_isLetOff_31 (lv_at hl 4 rfl) ?_
          refine z_if_lt (x := nn) (tgt := 57) hx hb (by omega) dX7_isLetOff_33 (by decide) (fun c5 => ?_) (fun c5 => ?_)
          · refine lv_iconst (v := iZ 0) hx hb dX7_isLetOff_57 (by decide) ?_
            exact K10 0 (by first | rfl | (rw [if_pos c1, if_pos c2, if_neg c3, if_neg c4, if_pos c5]; done) | omega | (subst_vars; first | rfl | (rw [if_pos c1, if_pos c2, if_neg c3, if_neg c4, if_pos c5]; done) | omega)) ls (lv_sub hl [] rfl)
          · refine lv_iload hx hb dX7_isLetOff_36 (lv_at hl 4 rfl) ?_
            refine lv_iconst (v := iZ 3) hx hb dX7_isLetOff_38 (by decide) ?_
            refine W.eq (g2 := F0 m 39 ls [.int (iZ 3), .int (iZ nn)]) rfl ?_
            refine z_icmp_gt (x := nn) (y := 3) (tgt := 57) hx hb (by omega) (by omega) dX7_isLetOff_39 (by decide) (fun c6 => ?_) (fun c6 => ?_)
            · refine lv_iconst (v := iZ 0) hx hb dX7_isLetOff_57 (by decide) ?_
              exact K10 0 (by first | rfl | (rw [if_pos c1, if_pos c2, if_neg c3, if_neg c4, if_neg c5, if_pos c6]; done) | omega | (subst_vars; first | rfl | (rw [if_pos c1, if_pos c2, if_neg c3, if_neg c4, if_neg c5, if_pos c6]; done) | omega)) ls (lv_sub hl [] rfl)
            · refine lv_iload hx hb dX7_isLetOff_42 (lv_at hl 5 rfl) ?_
              refine z_if_lt (x := sd) (tgt := 57) hx hb (by omega) dX7_isLetOff_44 (by decide) (fun c7 => ?_) (fun c7 => ?_)
              · refine lv_iconst (v := iZ 0) hx hb dX7_isLetOff_57 (by decide) ?_
                exact K10 0 (by first | rfl | (rw [if_pos c1, if_pos c2, if_neg c3, if_neg c4, if_neg c5, if_neg c6, if_pos c7]; done) | omega | (subst_vars; first | rfl | (rw [if_pos c1, if_pos c2, if_neg c3, if_neg c4, if_neg c5, if_neg c6, if_pos c7]; done) | omega)) ls (lv_sub hl [] rfl)
              · refine lv_iload hx hb dX7_isLetOff_47 (lv_at hl 5 rfl) ?_
                refine lv_iconst (v := iZ 1) hx hb dX7_isLetOff_49 (by decide) ?_
                refine z_icmp_gt (x := sd) (y := 1) (tgt := 57) hx hb (by omega) (by omega) dX7_isLetOff_50 (by decide) (fun c8 => ?_) (fun c8 => ?_)
                · refine lv_iconst (v := iZ 0) hx hb dX7_isLetOff_57 (by decide) ?_
                  exact K10 0 (by first | rfl | (rw [if_pos c1, if_pos c2, if_neg c3, if_neg c4, if_neg c5, if_neg c6, if_neg c7, if_pos c8]; done) | omega | (subst_vars; first | rfl | (rw [if_pos c1, if_pos c2, if_neg c3, if_neg c4, if_neg c5, if_neg c6, if_neg c7, if_pos c8]; done) | omega)) ls (lv_sub hl [] rfl)
                · refine lv_iconst (v := iZ 1) hx hb dX7_isLetOff_53 (by decide) ?_
                  refine lv_goto (tgt := 58) hx hb dX7_isLetOff_54 (by decide) ?_
                  exact K10 1 (by first | rfl | (rw [if_pos c1, if_pos c2, if_neg c3, if_neg c4, if_neg c5, if_neg c6, if_neg c7, if_neg c8]; done) | omega | (subst_vars; first | rfl | (rw [if_pos c1, if_pos c2, if_neg c3, if_neg c4, if_neg c5, if_neg c6, if_neg c7, if_neg c8]; done) | omega)) ls (lv_sub hl [] rfl)
set_option maxHeartbeats 4000000 in
set_option maxRecDepth 100000 in
theorem K_X7_areTwo (l : Launch) (D : va_G) (C : cC) (a b : Nat → Nat) (V : Nat → Nat → Int) (pe : Int) (ot : Int) (hI : cI V) (h1 : -2147483648 ≤ pe ∧ pe < 2147483648) (h2 : -2147483648 ≤ ot ∧ ot < 2147483648) : Met l yX7_areTwo wsX7_areTwo ({ frames := 1, cells := 0, slots := 0, locals := 21 }) (va_Pc [.ref (a 0), .int (iZ pe), .int (iZ ot)] (cOk D C a b V)) (vp_Si (fun r => r = iZ (if ((0 ≤ pe ∧ pe < V (Int.toNat (V 0 3)) 7) ∧ (0 ≤ ot ∧ ot < V (Int.toNat (V 0 3)) 7) ∧ ¬ (pe = ot)) then 1 else 0))) 0 0 (fun _ => False) := by
  refine Met.ofW (cc := cX7_areTwo) (maxL := 3) (ret := (some .boolean)) (by decide) rfl ?_
  intro p e s m args below meth c s₁ B hml hv
  obtain ⟨rfl, hP, hK, hN⟩ := hv
  have hx := B.exec
  have hb := B.bytes
  have hr := B.returns
  have hts := atoms_spec (ws := wsX7_areTwo) B.pre
  have hown : s.vm.findClass RX7 = some m.cls := findClass_of_methodNamed B.named
  have hlocks := B.notSynchronized
  have hin_X7 : ∀ w ∈ wsX70, w ∈ wsX7_areTwo := fun _ w_h => (List.mem_cons_of_mem _ (List.mem_append_left _ (List.mem_append_right _ w_h)))
  have hin_X6 : ∀ w ∈ wsX60, w ∈ wsX7_areTwo := fun _ w_h => (List.mem_cons_of_mem _ (List.mem_append_right _ w_h))
  have hl := lv_entry ([.ref (a 0), .int (iZ pe), .int (iZ ot)]) (n := 3) (Nat.le_of_ble_eq_true rfl)
  rw [lg_entry_eq]
  generalize (lg_sl ([.ref (a 0), .int (iZ pe), .int (iZ ot)]) ++ List.replicate (3 - (lg_sl ([.ref (a 0), .int (iZ pe), .int (iZ ot)])).length) Slot.unset).toArray = ls at hl ⊢
  replace hl : lv_has ls 3 [(0, .ref (a 0)), (1, .int (iZ pe)), (2, .int (iZ ot))] := hl
  have hS : va_S (cA a) s.heap s.heap [] := va_S.rf
  obtain ⟨hto, hto4, hne, htx, hT, hM, hpa, hpi, hki, hsz, hsg, hby⟩ := id hI
  have hnt := hT.now
  have hnm := hM.now
  refine W.eq (g2 := F0 m 0 ls []) rfl ?_
  refine lv_aload_n hx hb dX7_areTwo_0 rfl (lv_at hl 0 rfl) ?_
  refine kq_get (i := 0) hx hb hts hin_X7 hown hK hP (by decide) (cE_0 rfl) rfl 3 (by decide) (hts (.fieldLink RX7 29 "WordFletchers" "told" "LWordFletchers$Told;") (List.mem_cons_of_mem _ (List.mem_append_left _ (List.mem_append_left _ (List.mem_of_getElem? (i := 0) rfl))))) rfl dX7_areTwo_1 ?_
  refine lv_iload_n hx hb dX7_areTwo_4 rfl (lv_at hl 1 rfl) ?_
  refine kq_ci (i := (Int.toNat (V 0 3))) (As := [.int (iZ pe)]) (rest := []) ⟨hx, hb, hml, hown, hts⟩ hK hP hN hS (isTo.l0 (by assumption)) (cE_15 (isTo.s0 (by assumption))) rfl (K_X6_hasOne l D C a b V (Int.toNat (V 0 3)) (by assumption) pe (by omega) (by omega)) (cwV 1 hts gX7_areTwo_X6_hasOne rfl rfl rfl (by decide +kernel) ⟨Nat.le_of_ble_eq_true rfl, Nat.le_of_ble_eq_true rfl⟩) rfl rfl hl.1 (Nat.le_of_ble_eq_true rfl) ⟨Nat.le_of_ble_eq_true rfl, Nat.le_of_ble_eq_true rfl⟩ dX7_areTwo_5 ?_
  have K5 : ∀ (v4 : Int), (v4 = (if (0 ≤ pe ∧ pe < V (Int.toNat (V 0 3)) 7) then (if (0 ≤ ot ∧ ot < V (Int.toNat (V 0 3)) 7) then (if pe = ot then 0 else 1) else 0) else 0)) → ∀ ls : Array Slot, lv_has ls 3 [] → W p l e ((headSpec wsX7_areTwo ({ frames := 1, cells := 0, slots := 0, locals := 21 })).room) s m (([.ref (a 0), .int (iZ pe), .int (iZ ot)] : List Value).toArray) below meth c s.heap [] 0 0 (MQ below (vp_Si (fun r => r = iZ (if ((0 ≤ pe ∧ pe < V (Int.toNat (V 0 3)) 7) ∧ (0 ≤ ot ∧ ot < V (Int.toNat (V 0 3)) 7) ∧ ¬ (pe = ot)) then 1 else 0))) (([.ref (a 0), .int (iZ pe), .int (iZ ot)] : List Value).toArray) s 0 0 (fun _ => False)) (F0 m 32 ls [.int (iZ v4)]) := by
    intro v4 hv4 ls hl
    exact mq_ret hx hb hr (z_nbool (by first | omega | (split <;> omega))) (by first | omega | rfl | ((repeat' split) <;> first | rfl | omega) | (subst_vars; first | rfl | omega | ((repeat' split) <;> first | rfl | omega))) dX7_areTwo_32 hlocks rfl
  refine z_ifb_eq (P := (0 ≤ pe ∧ pe < V (Int.toNat (V 0 3)) 7)) (tgt := 31) hx hb dX7_areTwo_8 (by decide) (fun c1 => ?_) (fun c1 => ?_)
  · refine lv_iconst (v := iZ 0) hx hb dX7_areTwo_31 (by decide) ?_
    exact K5 0 (by first | rfl | (rw [if_neg c1]; done) | omega | (subst_vars; first | rfl | (rw [if_neg c1]; done) | omega)) ls (lv_sub hl [] rfl)
  · refine lv_aload_n hx hb dX7_areTwo_11 rfl (lv_at hl 0 rfl) ?_
    refine kq_get (i := 0) hx hb hts hin_X7 hown hK hP (by decide) (cE_0 rfl) rfl 3 (by decide) (hts (.fieldLink RX7 29 "WordFletchers" "told" "LWordFletchers$Told;") (List.mem_cons_of_mem _ (List.mem_append_left _ (List.mem_append_left _ (List.mem_of_getElem? (i := 0) rfl))))) rfl dX7_areTwo_12 ?_
    refine lv_iload_n hx hb dX7_areTwo_15 rfl (lv_at hl 2 rfl) ?_
    refine kq_ci (i := (Int.toNat (V 0 3))) (As := [.int (iZ ot)]) (rest := []) ⟨hx, hb, hml, hown, hts⟩ hK hP hN hS (isTo.l0 (by assumption)) (cE_15 (isTo.s0 (by assumption))) rfl (K_X6_hasOne l D C a b V (Int.toNat (V 0 3)) (by assumption) ot (by omega) (by omega)) (cwV 1 hts gX7_areTwo_X6_hasOne rfl rfl rfl (by decide +kernel) ⟨Nat.le_of_ble_eq_true rfl, Nat.le_of_ble_eq_true rfl⟩) rfl rfl hl.1 (Nat.le_of_ble_eq_true rfl) ⟨Nat.le_of_ble_eq_true rfl, Nat.le_of_ble_eq_true rfl⟩ dX7_areTwo_16 ?_
    refine z_ifb_eq (P := (0 ≤ ot ∧ ot < V (Int.toNat (V 0 3)) 7)) (tgt := 31) hx hb dX7_areTwo_19 (by decide) (fun c2 => ?_) (fun c2 => ?_)
    · refine lv_iconst (v := iZ 0) hx hb dX7_areTwo_31 (by decide) ?_
      exact K5 0 (by first | rfl | (rw [if_pos c1, if_neg c2]; done) | omega | (subst_vars; first | rfl | (rw [if_pos c1, if_neg c2]; done) | omega)) ls (lv_sub hl [] rfl)
    · refine W.eq (g2 := F0 m 22 ls []) rfl ?_
      refine lv_iload_n hx hb dX7_areTwo_22 rfl (lv_at hl 1 rfl) ?_
      refine lv_iload_n hx hb dX7_areTwo_23 rfl (lv_at hl 2 rfl) ?_
      refine z_icmp_eq (x := pe) (y := ot) (tgt := 31) hx hb (by omega) (by omega) dX7_areTwo_24 (by decide) (fun c3 => ?_) (fun c3 => ?_)
      · refine lv_iconst (v := iZ 0) hx hb dX7_areTwo_31 (by decide) ?_
        exact K5 0 (by first | rfl | (rw [if_pos c1, if_pos c2, if_pos c3]; done) | omega | (subst_vars; first | rfl | (rw [if_pos c1, if_pos c2, if_pos c3]; done) | omega)) ls (lv_sub hl [] rfl)
      · refine lv_iconst (v := iZ 1) hx hb dX7_areTwo_27 (by decide) ?_
        refine lv_goto (tgt := 32) hx hb dX7_areTwo_28 (by decide) ?_
        exact K5 1 (by first | rfl | (rw [if_pos c1, if_pos c2, if_neg c3]; done) | omega | (subst_vars; first | rfl | (rw [if_pos c1, if_pos c2, if_neg c3]; done) | omega)) ls (lv_sub hl [] rfl)
set_option maxHeartbeats 4000000 in
set_option maxRecDepth 100000 in
theorem K_X7_landingNow (l : Launch) (D : va_G) (C : cC) (a b : Nat → Nat) (V : Nat → Nat → Int) (pe : Int) (sy : Int) (sh : Int) (hI : cI V) (h1 : 0 ≤ pe ∧ pe < V (Int.toNat (V 0 3)) 7) (h2 : 0 ≤ sy ∧ sy < V (Int.toNat (V 0 3)) 8) (h3 : 0 ≤ sh ∧ sh / 100 ≤ 3 ∧ sh / 10 % 10 ≤ 3 ∧ sh % 10 ≤ 1) (h5 : -2147483648 ≤ sh ∧ sh < 2147483648) : Met l yX7_landingNow wsX7_landingNow ({ frames := 4, cells := 0, slots := 0, locals := 86 }) (va_Pc [.ref (a 0), .int (iZ pe), .int (iZ sy), .int (iZ sh)] (cOk D C a b V)) (vp_Si (fun r => r = iZ (c_la V pe sy sh (c_wind V 0)))) 0 0 (fun _ => False) := by
  refine Met.ofW (cc := cX7_landingNow) (maxL := 4) (ret := (some .int)) (by decide) rfl ?_
  intro p e s m args below meth c s₁ B hml hv
  obtain ⟨rfl, hP, hK, hN⟩ := hv
  have hx := B.exec
  have hb := B.bytes
  have hr := B.returns
  have hts := atoms_spec (ws := wsX7_landingNow) B.pre
  have hown : s.vm.findClass RX7 = some m.cls := findClass_of_methodNamed B.named
  have hlocks := B.notSynchronized
  have hin_X7 : ∀ w ∈ wsX70, w ∈ wsX7_landingNow := fun _ w_h => (List.mem_cons_of_mem _ (List.mem_append_left _ (List.mem_append_left _ (List.mem_append_right _ w_h))))
  have hin_X2 : ∀ w ∈ wsX20, w ∈ wsX7_landingNow := fun _ w_h => (List.mem_cons_of_mem _ (List.mem_append_left _ (List.mem_append_right _ w_h)))
  have hin_X6 : ∀ w ∈ wsX60, w ∈ wsX7_landingNow := fun _ w_h => (List.mem_cons_of_mem _ (List.mem_append_right _ w_h))
  have hl := lv_entry ([.ref (a 0), .int (iZ pe), .int (iZ sy), .int (iZ sh)]) (n := 4) (Nat.le_of_ble_eq_true rfl)
  rw [lg_entry_eq]
  generalize (lg_sl ([.ref (a 0), .int (iZ pe), .int (iZ sy), .int (iZ sh)]) ++ List.replicate (4 - (lg_sl ([.ref (a 0), .int (iZ pe), .int (iZ sy), .int (iZ sh)])).length) Slot.unset).toArray = ls at hl ⊢
  replace hl : lv_has ls 4 [(0, .ref (a 0)), (1, .int (iZ pe)), (2, .int (iZ sy)), (3, .int (iZ sh))] := hl
  have hS : va_S (cA a) s.heap s.heap [] := va_S.rf
  obtain ⟨hto, hto4, hne, htx, hT, hM, hpa, hpi, hki, hsz, hsg, hby⟩ := id hI
  have hnt := hT.now
  have hnm := hM.now
  have hcw := c_wind_bd hI 0
  refine lv_aload_n hx hb dX7_landingNow_0 rfl (lv_at hl 0 rfl) ?_
  refine kq_get (i := 0) hx hb hts hin_X7 hown hK hP (by decide) (cE_0 rfl) rfl 3 (by decide) (hts (.fieldLink RX7 29 "WordFletchers" "told" "LWordFletchers$Told;") (List.mem_cons_of_mem _ (List.mem_append_left _ (List.mem_append_left _ (List.mem_append_left _ (List.mem_append_left _ (List.mem_of_getElem? (i := 0) rfl))))))) rfl dX7_landingNow_1 ?_
  refine lv_iload_n hx hb dX7_landingNow_4 rfl (lv_at hl 1 rfl) ?_
  refine lv_iload_n hx hb dX7_landingNow_5 rfl (lv_at hl 2 rfl) ?_
  refine lv_iload_n hx hb dX7_landingNow_6 rfl (lv_at hl 3 rfl) ?_
  refine W.eq (g2 := F0 m 7 ls [.int (iZ sh), .int (iZ sy), .int (iZ pe), .ref (a (Int.toNat (V 0 3)))]) rfl ?_
  refine lv_aload_n hx hb dX7_landingNow_7 rfl (lv_at hl 0 rfl) ?_
  refine lv_iconst (v := iZ 0) hx hb dX7_landingNow_8 (by decide) ?_
  refine kq_ci (i := 0) (As := [.int (iZ 0)]) (rest := [.int (iZ sh), .int (iZ sy), .int (iZ pe), .ref (a (Int.toNat (V 0 3)))]) ⟨hx, hb, hml, hown, hts⟩ hK hP hN hS (by decide) (cE_0 rfl) rfl (K_X7_windIn l D C a b V 0 (by assumption) (by omega) (by omega) (by omega)) (cwV 1 hts gX7_landingNow_X7_windIn rfl rfl rfl (by decide +kernel) ⟨Nat.le_of_ble_eq_true rfl, Nat.le_of_ble_eq_true rfl⟩) rfl rfl hl.1 (Nat.le_of_ble_eq_true rfl) ⟨Nat.le_of_ble_eq_true rfl, Nat.le_of_ble_eq_true rfl⟩ dX7_landingNow_9 ?_
  refine lv_aload_n hx hb dX7_landingNow_12 rfl (lv_at hl 0 rfl) ?_
  refine kq_get (i := 0) hx hb hts hin_X7 hown hK hP (by decide) (cE_0 rfl) rfl 5 (by decide) (hts (.fieldLink RX7 39 "WordFletchers" "moment" "LWordFletchers$Moment;") (List.mem_cons_of_mem _ (List.mem_append_left _ (List.mem_append_left _ (List.mem_append_left _ (List.mem_append_left _ (List.mem_of_getElem? (i := 1) rfl))))))) rfl dX7_landingNow_13 ?_
  refine kq_get (i := 39) hx hb hts hin_X2 hown hK hP (isMo.l0 isMo_39) (cE_26 (isMo.s0 isMo_39)) rfl 1 (by decide) (hts (.fieldLink RX7 177 "WordFletchers$Moment" "damp" "I") (List.mem_cons_of_mem _ (List.mem_append_left _ (List.mem_append_left _ (List.mem_append_left _ (List.mem_append_left _ (List.mem_of_getElem? (i := 2) rfl))))))) rfl dX7_landingNow_16 ?_
  refine kq_ci (i := (Int.toNat (V 0 3))) (As := [.int (iZ pe), .int (iZ sy), .int (iZ sh), .int (iZ (c_wind V 0)), .int (iZ (V 39 1))]) (rest := []) ⟨hx, hb, hml, hown, hts⟩ hK hP hN hS (isTo.l0 (by assumption)) (cE_15 (isTo.s0 (by assumption))) rfl (K_X6_landing l D C a b V (Int.toNat (V 0 3)) (by assumption) pe sy sh (c_wind V 0) (V 39 1) (by assumption) (by omega) (by omega) (by omega) (by omega) (by omega) (by omega)) (cwV 5 hts gX7_landingNow_X6_landing rfl rfl rfl (by decide +kernel) ⟨Nat.le_of_ble_eq_true rfl, Nat.le_of_ble_eq_true rfl⟩) rfl rfl hl.1 (Nat.le_of_ble_eq_true rfl) ⟨Nat.le_of_ble_eq_true rfl, Nat.le_of_ble_eq_true rfl⟩ dX7_landingNow_19 ?_
  have hld := s_land_bd (V ((Int.toNat (V 0 3)) + 1) (Int.toNat pe)) (V ((Int.toNat (V 0 3)) + 4) (Int.toNat sy)) (V ((Int.toNat (V 0 3)) + 3) (Int.toNat sy)) (V 39 1) (sh / 100) (sh / 10 % 10) (sh % 10) (c_wind V 0)
  exact mq_ret hx hb hr rfl rfl dX7_landingNow_22 hlocks rfl
set_option maxHeartbeats 4000000 in
set_option maxRecDepth 100000 in
theorem K_X7_lands (l : Launch) (D : va_G) (C : cC) (a b : Nat → Nat) (V : Nat → Nat → Int) (pe : Int) (sy : Int) (fe : Int) (nn : Int) (sd : Int) (hI : cI V) (h0 : -2147483648 ≤ pe ∧ pe < 2147483648) (h1 : -2147483648 ≤ sy ∧ sy < 2147483648) (h2 : -2147483648 ≤ fe ∧ fe < 2147483648) (h3 : -2147483648 ≤ nn ∧ nn < 2147483648) (h4 : -2147483648 ≤ sd ∧ sd < 2147483648) : Met l yX7_lands wsX7_lands ({ frames := 5, cells := 0, slots := 0, locals := 109 }) (va_Pc [.ref (a 0), .int (iZ pe), .int (iZ sy), .int (iZ fe), .int (iZ nn), .int (iZ sd)] (cOk D C a b V)) (vp_Si (fun r => r = iZ (if (0 ≤ pe ∧ pe < V (Int.toNat (V 0 3)) 7) ∧ (0 ≤ sy ∧ sy < V (Int.toNat (V 0 3)) 8) ∧ (0 ≤ fe ∧ fe ≤ 3) ∧ (0 ≤ nn ∧ nn ≤ 3) ∧ (0 ≤ sd ∧ sd ≤ 1) then c_la V pe sy (100 * fe + 10 * nn + sd) (c_wind V 0) else -1))) 0 0 (fun _ => False) := by
  refine Met.ofW (cc := cX7_lands) (maxL := 6) (ret := (some .int)) (by decide) rfl ?_
  intro p e s m args below meth c s₁ B hml hv
  obtain ⟨rfl, hP, hK, hN⟩ := hv
  have hx := B.exec
  have hb := B.bytes
  have hr := B.returns
  have hts := atoms_spec (ws := wsX7_lands) B.pre
  have hown : s.vm.findClass RX7 = some m.cls := findClass_of_methodNamed B.named
  have hlocks := B.notSynchronized
  have hin_X7 : ∀ w ∈ wsX70, w ∈ wsX7_lands := fun _ w_h => (List.mem_cons_of_mem _ (List.mem_append_left _ (List.mem_append_left _ (List.mem_append_right _ w_h))))
  have hin_X6 : ∀ w ∈ wsX60, w ∈ wsX7_lands := fun _ w_h => (List.mem_cons_of_mem _ (List.mem_append_left _ (List.mem_append_right _ w_h)))
  have hin_X2 : ∀ w ∈ wsX20, w ∈ wsX7_lands := fun _ w_h => (List.mem_cons_of_mem _ (List.mem_append_right _ w_h))
  have hl := lv_entry ([.ref (a 0), .int (iZ pe), .int (iZ sy), .int (iZ fe), .int (iZ nn), .int (iZ sd)]) (n := 6) (Nat.le_of_ble_eq_true rfl)
  rw [lg_entry_eq]
  generalize (lg_sl ([.ref (a 0), .int (iZ pe), .int (iZ sy), .int (iZ fe), .int (iZ nn), .int (iZ sd)]) ++ List.replicate (6 - (lg_sl ([.ref (a 0), .int (iZ pe), .int (iZ sy), .int (iZ fe), .int (iZ nn), .int (iZ sd)])).length) Slot.unset).toArray = ls at hl ⊢
  replace hl : lv_has ls 6 [(0, .ref (a 0)), (1, .int (iZ pe)), (2, .int (iZ sy)), (3, .int (iZ fe)), (4, .int (iZ nn)), (5, .int (iZ sd))] := hl
  have hS : va_S (cA a) s.heap s.heap [] := va_S.rf
  obtain ⟨hto, hto4, hne, htx, hT, hM, hpa, hpi, hki, hsz, hsg, hby⟩ := id hI
  have hnt := hT.now
  have hnm := hM.now
  refine lv_aload_n hx hb dX7_lands_0 rfl (lv_at hl 0 rfl) ?_
  refine lv_iload_n hx hb dX7_lands_1 rfl (lv_at hl 1 rfl) ?_
  refine lv_iload_n hx hb dX7_lands_2 rfl (lv_at hl 2 rfl) ?_
  refine lv_iload_n hx hb dX7_lands_3 rfl (lv_at hl 3 rfl) ?_
  refine W.eq (g2 := F0 m 4 ls [.int (iZ fe), .int (iZ sy), .int (iZ pe), .ref (a 0)]) rfl ?_
  refine lv_iload hx hb dX7_lands_4 (lv_at hl 4 rfl) ?_
  refine lv_iload hx hb dX7_lands_6 (lv_at hl 5 rfl) ?_
  refine kq_ci (i := 0) (As := [.int (iZ pe), .int (iZ sy), .int (iZ fe), .int (iZ nn), .int (iZ sd)]) (rest := []) ⟨hx, hb, hml, hown, hts⟩ hK hP hN hS (by decide) (cE_0 rfl) rfl (K_X7_isLetOff l D C a b V pe sy fe nn sd hI (by omega) (by omega) (by omega) (by omega) (by omega)) (cwV 5 hts gX7_lands_X7_isLetOff rfl rfl rfl (by decide +kernel) ⟨Nat.le_of_ble_eq_true rfl, Nat.le_of_ble_eq_true rfl⟩) rfl rfl hl.1 (Nat.le_of_ble_eq_true rfl) ⟨Nat.le_of_ble_eq_true rfl, Nat.le_of_ble_eq_true rfl⟩ dX7_lands_8 ?_
  refine z_ifb_ne (P := (0 ≤ pe ∧ pe < V (Int.toNat (V 0 3)) 7) ∧ (0 ≤ sy ∧ sy < V (Int.toNat (V 0 3)) 8) ∧ (0 ≤ fe ∧ fe ≤ 3) ∧ (0 ≤ nn ∧ nn ≤ 3) ∧ (0 ≤ sd ∧ sd ≤ 1)) (tgt := 16) hx hb dX7_lands_11 (by decide) (fun c1 => ?_) (fun c1 => ?_)
  · refine lv_aload_n hx hb dX7_lands_16 rfl (lv_at hl 0 rfl) ?_
    refine lv_iload_n hx hb dX7_lands_17 rfl (lv_at hl 1 rfl) ?_
    refine lv_iload_n hx hb dX7_lands_18 rfl (lv_at hl 2 rfl) ?_
    refine lv_iload_n hx hb dX7_lands_19 rfl (lv_at hl 3 rfl) ?_
    refine lv_iload hx hb dX7_lands_20 (lv_at hl 4 rfl) ?_
    refine lv_iload hx hb dX7_lands_22 (lv_at hl 5 rfl) ?_
    refine kq_cs (As := [.int (iZ fe), .int (iZ nn), .int (iZ sd)]) (rest := [.int (iZ sy), .int (iZ pe), .ref (a 0)]) ⟨hx, hb, hml, hown, hts⟩ (K_X7_shotOf l fe nn sd (by omega) (by omega) (by omega)) (va_cwS 3 hts gX7_lands_X7_shotOf rfl rfl rfl (by decide +kernel) ⟨Nat.le_of_ble_eq_true rfl, Nat.le_of_ble_eq_true rfl⟩) rfl rfl hl.1 (Nat.le_of_ble_eq_true rfl) ⟨Nat.le_of_ble_eq_true rfl, Nat.le_of_ble_eq_true rfl⟩ dX7_lands_24 ?_
    refine kq_ci (i := 0) (As := [.int (iZ pe), .int (iZ sy), .int (iZ (100 * fe + 10 * nn + sd))]) (rest := []) ⟨hx, hb, hml, hown, hts⟩ hK hP hN hS (by decide) (cE_0 rfl) rfl (K_X7_landingNow l D C a b V pe sy (100 * fe + 10 * nn + sd) hI (by omega) (by omega) (by omega) (by omega)) (cwV 3 hts gX7_lands_X7_landingNow rfl rfl rfl (by decide +kernel) ⟨Nat.le_of_ble_eq_true rfl, Nat.le_of_ble_eq_true rfl⟩) rfl rfl hl.1 (Nat.le_of_ble_eq_true rfl) ⟨Nat.le_of_ble_eq_true rfl, Nat.le_of_ble_eq_true rfl⟩ dX7_lands_27 ?_
    have hcl := c_la_bd V pe sy (100 * fe + 10 * nn + sd) (c_wind V 0)
    have hco := c_la_or V pe sy (100 * fe + 10 * nn + sd) (c_wind V 0)
    refine W.eq (g2 := F0 m 30 ls [.int (iZ (c_la V pe sy (100 * fe + 10 * nn + sd) (c_wind V 0)))]) rfl ?_
    exact mq_ret hx hb hr rfl (by first | exact (if_pos (by omega)).symm | exact (if_neg (by omega)).symm) dX7_lands_30 hlocks rfl
  · refine lv_iconst (v := iZ (-1)) hx hb dX7_lands_14 (by decide) ?_
    exact mq_ret hx hb hr rfl (by first | exact (if_pos (by omega)).symm | exact (if_neg (by omega)).symm) dX7_lands_15 hlocks rfl
set_option maxHeartbeats 4000000 in
set_option maxRecDepth 100000 in
theorem K_X7_one (l : Launch) (D : va_G) (C : cC) (a b : Nat → Nat) (V : Nat → Nat → Int) (pe : Int) (wh : Int) (hI : cI V) (h1 : -2147483648 ≤ pe ∧ pe < 2147483648) (h2 : -2147483648 ≤ wh ∧ wh < 2147483648) : Met l yX7_one wsX7_one ({ frames := 1, cells := 0, slots := 0, locals := 21 }) (va_Pc [.ref (a 0), .int (iZ pe), .int (iZ wh)] (cOk D C a b V)) (vp_Si (fun r => r = iZ (c_one V pe wh))) 0 0 (fun _ => False) := by
  refine Met.ofW (cc := cX7_one) (maxL := 3) (ret := (some .int)) (by decide) rfl ?_
  intro p e s m args below meth c s₁ B hml hv
  obtain ⟨rfl, hP, hK, hN⟩ := hv
  have hx := B.exec
  have hb := B.bytes
  have hr := B.returns
  have hts := atoms_spec (ws := wsX7_one) B.pre
  have hown : s.vm.findClass RX7 = some m.cls := findClass_of_methodNamed B.named
  have hlocks := B.notSynchronized
  have hin_X7 : ∀ w ∈ wsX70, w ∈ wsX7_one := fun _ w_h => (List.mem_cons_of_mem _ (List.mem_append_left _ (List.mem_append_left _ (List.mem_append_right _ w_h))))
  have hin_X6 : ∀ w ∈ wsX60, w ∈ wsX7_one := fun _ w_h => (List.mem_cons_of_mem _ (List.mem_append_left _ (List.mem_append_right _ w_h)))
  have hin_X2 : ∀ w ∈ wsX20, w ∈ wsX7_one := fun _ w_h => (List.mem_cons_of_mem _ (List.mem_append_right _ w_h))
  have hl := lv_entry ([.ref (a 0), .int (iZ pe), .int (iZ wh)]) (n := 3) (Nat.le_of_ble_eq_true rfl)
  rw [lg_entry_eq]
  generalize (lg_sl ([.ref (a 0), .int (iZ pe), .int (iZ wh)]) ++ List.replicate (3 - (lg_sl ([.ref (a 0), .int (iZ pe), .int (iZ wh)])).length) Slot.unset).toArray = ls at hl ⊢
  replace hl : lv_has ls 3 [(0, .ref (a 0)), (1, .int (iZ pe)), (2, .int (iZ wh))] := hl
  have hS : va_S (cA a) s.heap s.heap [] := va_S.rf
  obtain ⟨hto, hto4, hne, htx, hT, hM, hpa, hpi, hki, hsz, hsg, hby⟩ := id hI
  have hnt := hT.now
  have hnm := hM.now
  refine lv_aload_n hx hb dX7_one_0 rfl (lv_at hl 0 rfl) ?_
  refine kq_get (i := 0) hx hb hts hin_X7 hown hK hP (by decide) (cE_0 rfl) rfl 3 (by decide) (hts (.fieldLink RX7 29 "WordFletchers" "told" "LWordFletchers$Told;") (List.mem_cons_of_mem _ (List.mem_append_left _ (List.mem_append_left _ (List.mem_append_left _ (List.mem_of_getElem? (i := 0) rfl)))))) rfl dX7_one_1 ?_
  refine lv_iload_n hx hb dX7_one_4 rfl (lv_at hl 1 rfl) ?_
  refine kq_ci (i := (Int.toNat (V 0 3))) (As := [.int (iZ pe)]) (rest := []) ⟨hx, hb, hml, hown, hts⟩ hK hP hN hS (isTo.l0 (by assumption)) (cE_15 (isTo.s0 (by assumption))) rfl (K_X6_hasOne l D C a b V (Int.toNat (V 0 3)) (by assumption) pe (by omega) (by omega)) (cwV 1 hts gX7_one_X6_hasOne rfl rfl rfl (by decide +kernel) ⟨Nat.le_of_ble_eq_true rfl, Nat.le_of_ble_eq_true rfl⟩) rfl rfl hl.1 (Nat.le_of_ble_eq_true rfl) ⟨Nat.le_of_ble_eq_true rfl, Nat.le_of_ble_eq_true rfl⟩ dX7_one_5 ?_
  refine z_ifb_ne (P := (0 ≤ pe ∧ pe < V (Int.toNat (V 0 3)) 7)) (tgt := 13) hx hb dX7_one_8 (by decide) (fun c1 => ?_) (fun c1 => ?_)
  · refine lv_iload_n hx hb dX7_one_13 rfl (lv_at hl 2 rfl) ?_
    by_cases c2 : wh = 0
    · refine lv_tableIn (off := 26) (tgt := 40) hx hb dX7_one_14 (by rw [iZ_toInt (by omega)]; omega) (by rw [iZ_toInt (by omega)]; omega) (by rw [iZ_toInt (by omega), c2]; rfl) (by decide) ?_
      refine lv_aload_n hx hb dX7_one_40 rfl (lv_at hl 0 rfl) ?_
      refine kq_get (i := 0) hx hb hts hin_X7 hown hK hP (by decide) (cE_0 rfl) rfl 3 (by decide) (hts (.fieldLink RX7 29 "WordFletchers" "told" "LWordFletchers$Told;") (List.mem_cons_of_mem _ (List.mem_append_left _ (List.mem_append_left _ (List.mem_append_left _ (List.mem_of_getElem? (i := 0) rfl)))))) rfl dX7_one_41 ?_
      refine W.eq (g2 := F0 m 44 ls [.ref (a (Int.toNat (V 0 3)))]) rfl ?_
      refine kq_get (i := (Int.toNat (V 0 3))) hx hb hts hin_X6 hown hK hP (isTo.l0 (by assumption)) (cE_15 (isTo.s0 (by assumption))) rfl 0 (by decide) (hts (.fieldLink RX7 96 "WordFletchers$Told" "place" "[I") (List.mem_cons_of_mem _ (List.mem_append_left _ (List.mem_append_left _ (List.mem_append_left _ (List.mem_of_getElem? (i := 1) rfl)))))) rfl dX7_one_44 ?_
      refine lv_iload_n hx hb dX7_one_47 rfl (lv_at hl 1 rfl) ?_
      refine kq_iald (i := ((Int.toNat (V 0 3)) + 1)) hx hb hK hP (isTo.l1 (by assumption)) (n := 6) (cE_16 (isTo.s1 (by assumption))) (by decide) (Int.toNat pe) rfl (by omega) dX7_one_48 ?_
      exact mq_ret hx hb hr rfl (by unfold c_one; subst_vars; (repeat' split) <;> first | rfl | omega) dX7_one_49 hlocks rfl
    by_cases c3 : wh = 1
    · refine lv_tableIn (off := 36) (tgt := 50) hx hb dX7_one_14 (by rw [iZ_toInt (by omega)]; omega) (by rw [iZ_toInt (by omega)]; omega) (by rw [iZ_toInt (by omega), c3]; rfl) (by decide) ?_
      refine lv_aload_n hx hb dX7_one_50 rfl (lv_at hl 0 rfl) ?_
      refine kq_get (i := 0) hx hb hts hin_X7 hown hK hP (by decide) (cE_0 rfl) rfl 3 (by decide) (hts (.fieldLink RX7 29 "WordFletchers" "told" "LWordFletchers$Told;") (List.mem_cons_of_mem _ (List.mem_append_left _ (List.mem_append_left _ (List.mem_append_left _ (List.mem_of_getElem? (i := 0) rfl)))))) rfl dX7_one_51 ?_
      refine kq_get (i := (Int.toNat (V 0 3))) hx hb hts hin_X6 hown hK hP (isTo.l0 (by assumption)) (cE_15 (isTo.s0 (by assumption))) rfl 1 (by decide) (hts (.fieldLink RX7 99 "WordFletchers$Told" "ear" "[I") (List.mem_cons_of_mem _ (List.mem_append_left _ (List.mem_append_left _ (List.mem_append_left _ (List.mem_of_getElem? (i := 2) rfl)))))) rfl dX7_one_54 ?_
      refine lv_iload_n hx hb dX7_one_57 rfl (lv_at hl 1 rfl) ?_
      refine kq_iald (i := ((Int.toNat (V 0 3)) + 2)) hx hb hK hP (isTo.l2 (by assumption)) (n := 6) (cE_17 (isTo.s2 (by assumption))) (by decide) (Int.toNat pe) rfl (by omega) dX7_one_58 ?_
      exact mq_ret hx hb hr rfl (by unfold c_one; subst_vars; (repeat' split) <;> first | rfl | omega) dX7_one_59 hlocks rfl
    by_cases c4 : wh = 2
    · refine lv_tableIn (off := 46) (tgt := 60) hx hb dX7_one_14 (by rw [iZ_toInt (by omega)]; omega) (by rw [iZ_toInt (by omega)]; omega) (by rw [iZ_toInt (by omega), c4]; rfl) (by decide) ?_
      refine lv_aload_n hx hb dX7_one_60 rfl (lv_at hl 0 rfl) ?_
      refine kq_get (i := 0) hx hb hts hin_X7 hown hK hP (by decide) (cE_0 rfl) rfl 5 (by decide) (hts (.fieldLink RX7 39 "WordFletchers" "moment" "LWordFletchers$Moment;") (List.mem_cons_of_mem _ (List.mem_append_left _ (List.mem_append_left _ (List.mem_append_left _ (List.mem_of_getElem? (i := 3) rfl)))))) rfl dX7_one_61 ?_
      refine W.eq (g2 := F0 m 64 ls [.ref (a 39)]) rfl ?_
      refine kq_get (i := 39) hx hb hts hin_X2 hown hK hP (isMo.l0 isMo_39) (cE_26 (isMo.s0 isMo_39)) rfl 4 (by decide) (hts (.fieldLink RX7 102 "WordFletchers$Moment" "knows" "[I") (List.mem_cons_of_mem _ (List.mem_append_left _ (List.mem_append_left _ (List.mem_append_left _ (List.mem_of_getElem? (i := 4) rfl)))))) rfl dX7_one_64 ?_
      refine lv_iload_n hx hb dX7_one_67 rfl (lv_at hl 1 rfl) ?_
      refine kq_iald (i := 41) hx hb hK hP (isMo.l2 isMo_39) (n := 6) (cE_28 (isMo.s2 isMo_39)) (by decide) (Int.toNat pe) rfl (by omega) dX7_one_68 ?_
      exact mq_ret hx hb hr rfl (by unfold c_one; subst_vars; (repeat' split) <;> first | rfl | omega) dX7_one_69 hlocks rfl
    refine lv_tableOut (tgt := 70) hx hb dX7_one_14 (by rw [iZ_toInt (by omega)]; omega) (by decide) ?_
    refine lv_iconst (v := iZ (-1)) hx hb dX7_one_70 (by decide) ?_
    exact mq_ret hx hb hr rfl (by unfold c_one; subst_vars; (repeat' split) <;> first | rfl | omega) dX7_one_71 hlocks rfl
  · refine lv_iconst (v := iZ (-1)) hx hb dX7_one_11 (by decide) ?_
    exact mq_ret hx hb hr rfl (by unfold c_one; subst_vars; (repeat' split) <;> first | rfl | omega) dX7_one_12 hlocks rfl
set_option maxHeartbeats 4000000 in
set_option maxRecDepth 100000 in
theorem K_X7_saying (l : Launch) (D : va_G) (C : cC) (a b : Nat → Nat) (V : Nat → Nat → Int) (sy : Int) (wh : Int) (hI : cI V) (h1 : -2147483648 ≤ sy ∧ sy < 2147483648) (h2 : -2147483648 ≤ wh ∧ wh < 2147483648) : Met l yX7_saying wsX7_saying ({ frames := 3, cells := 0, slots := 0, locals := 66 }) (va_Pc [.ref (a 0), .int (iZ sy), .int (iZ wh)] (cOk D C a b V)) (vp_Si (fun r => r = iZ (c_say V sy wh))) 0 0 (fun _ => False) := by
  refine Met.ofW (cc := cX7_saying) (maxL := 3) (ret := (some .int)) (by decide) rfl ?_
  intro p e s m args below meth c s₁ B hml hv
  obtain ⟨rfl, hP, hK, hN⟩ := hv
  have hx := B.exec
  have hb := B.bytes
  have hr := B.returns
  have hts := atoms_spec (ws := wsX7_saying) B.pre
  have hown : s.vm.findClass RX7 = some m.cls := findClass_of_methodNamed B.named
  have hlocks := B.notSynchronized
  have hin_X7 : ∀ w ∈ wsX70, w ∈ wsX7_saying := fun _ w_h => (List.mem_cons_of_mem _ (List.mem_append_left _ (List.mem_append_left _ (List.mem_append_right _ w_h))))
  have hin_X6 : ∀ w ∈ wsX60, w ∈ wsX7_saying := fun _ w_h => (List.mem_cons_of_mem _ (List.mem_append_left _ (List.mem_append_right _ w_h)))
  have hin_X2 : ∀ w ∈ wsX20, w ∈ wsX7_saying := fun _ w_h => (List.mem_cons_of_mem _ (List.mem_append_right _ w_h))
  have hl := lv_entry ([.ref (a 0), .int (iZ sy), .int (iZ wh)]) (n := 3) (Nat.le_of_ble_eq_true rfl)
  rw [lg_entry_eq]
  generalize (lg_sl ([.ref (a 0), .int (iZ sy), .int (iZ wh)]) ++ List.replicate (3 - (lg_sl ([.ref (a 0), .int (iZ sy), .int (iZ wh)])).length) Slot.unset).toArray = ls at hl ⊢
  replace hl : lv_has ls 3 [(0, .ref (a 0)), (1, .int (iZ sy)), (2, .int (iZ wh))] := hl
  have hS : va_S (cA a) s.heap s.heap [] := va_S.rf
  obtain ⟨hto, hto4, hne, htx, hT, hM, hpa, hpi, hki, hsz, hsg, hby⟩ := id hI
  have hnt := hT.now
  have hnm := hM.now
  refine lv_aload_n hx hb dX7_saying_0 rfl (lv_at hl 0 rfl) ?_
  refine kq_get (i := 0) hx hb hts hin_X7 hown hK hP (by decide) (cE_0 rfl) rfl 3 (by decide) (hts (.fieldLink RX7 29 "WordFletchers" "told" "LWordFletchers$Told;") (List.mem_cons_of_mem _ (List.mem_append_left _ (List.mem_append_left _ (List.mem_append_left _ (List.mem_of_getElem? (i := 0) rfl)))))) rfl dX7_saying_1 ?_
  refine lv_iload_n hx hb dX7_saying_4 rfl (lv_at hl 1 rfl) ?_
  refine kq_ci (i := (Int.toNat (V 0 3))) (As := [.int (iZ sy)]) (rest := []) ⟨hx, hb, hml, hown, hts⟩ hK hP hN hS (isTo.l0 (by assumption)) (cE_15 (isTo.s0 (by assumption))) rfl (K_X6_hasSaying l D C a b V (Int.toNat (V 0 3)) (by assumption) sy (by omega) (by omega)) (cwV 1 hts gX7_saying_X6_hasSaying rfl rfl rfl (by decide +kernel) ⟨Nat.le_of_ble_eq_true rfl, Nat.le_of_ble_eq_true rfl⟩) rfl rfl hl.1 (Nat.le_of_ble_eq_true rfl) ⟨Nat.le_of_ble_eq_true rfl, Nat.le_of_ble_eq_true rfl⟩ dX7_saying_5 ?_
  refine W.eq (g2 := F0 m 8 ls [.int (iZ (if (0 ≤ sy ∧ sy < V (Int.toNat (V 0 3)) 8) then 1 else 0))]) rfl ?_
  refine z_ifb_ne (P := (0 ≤ sy ∧ sy < V (Int.toNat (V 0 3)) 8)) (tgt := 13) hx hb dX7_saying_8 (by decide) (fun c1 => ?_) (fun c1 => ?_)
  · refine lv_iload_n hx hb dX7_saying_13 rfl (lv_at hl 2 rfl) ?_
    by_cases c2 : wh = 0
    · refine lv_tableIn (off := 30) (tgt := 44) hx hb dX7_saying_14 (by rw [iZ_toInt (by omega)]; omega) (by rw [iZ_toInt (by omega)]; omega) (by rw [iZ_toInt (by omega), c2]; rfl) (by decide) ?_
      refine lv_aload_n hx hb dX7_saying_44 rfl (lv_at hl 0 rfl) ?_
      refine kq_get (i := 0) hx hb hts hin_X7 hown hK hP (by decide) (cE_0 rfl) rfl 3 (by decide) (hts (.fieldLink RX7 29 "WordFletchers" "told" "LWordFletchers$Told;") (List.mem_cons_of_mem _ (List.mem_append_left _ (List.mem_append_left _ (List.mem_append_left _ (List.mem_of_getElem? (i := 0) rfl)))))) rfl dX7_saying_45 ?_
      refine kq_get (i := (Int.toNat (V 0 3))) hx hb hts hin_X6 hown hK hP (isTo.l0 (by assumption)) (cE_15 (isTo.s0 (by assumption))) rfl 2 (by decide) (hts (.fieldLink RX7 108 "WordFletchers$Told" "weight" "[I") (List.mem_cons_of_mem _ (List.mem_append_left _ (List.mem_append_left _ (List.mem_append_left _ (List.mem_of_getElem? (i := 1) rfl)))))) rfl dX7_saying_48 ?_
      refine lv_iload_n hx hb dX7_saying_51 rfl (lv_at hl 1 rfl) ?_
      refine kq_iald (i := ((Int.toNat (V 0 3)) + 3)) hx hb hK hP (isTo.l3 (by assumption)) (n := 6) (cE_18 (isTo.s3 (by assumption))) (by decide) (Int.toNat sy) rfl (by omega) dX7_saying_52 ?_
      exact mq_ret hx hb hr rfl (by unfold c_say; subst_vars; (repeat' split) <;> first | rfl | omega) dX7_saying_53 hlocks rfl
    by_cases c3 : wh = 1
    · refine lv_tableIn (off := 40) (tgt := 54) hx hb dX7_saying_14 (by rw [iZ_toInt (by omega)]; omega) (by rw [iZ_toInt (by omega)]; omega) (by rw [iZ_toInt (by omega), c3]; rfl) (by decide) ?_
      refine lv_aload_n hx hb dX7_saying_54 rfl (lv_at hl 0 rfl) ?_
      refine kq_get (i := 0) hx hb hts hin_X7 hown hK hP (by decide) (cE_0 rfl) rfl 3 (by decide) (hts (.fieldLink RX7 29 "WordFletchers" "told" "LWordFletchers$Told;") (List.mem_cons_of_mem _ (List.mem_append_left _ (List.mem_append_left _ (List.mem_append_left _ (List.mem_of_getElem? (i := 0) rfl)))))) rfl dX7_saying_55 ?_
      refine kq_get (i := (Int.toNat (V 0 3))) hx hb hts hin_X6 hown hK hP (isTo.l0 (by assumption)) (cE_15 (isTo.s0 (by assumption))) rfl 3 (by decide) (hts (.fieldLink RX7 111 "WordFletchers$Told" "twist" "[I") (List.mem_cons_of_mem _ (List.mem_append_left _ (List.mem_append_left _ (List.mem_append_left _ (List.mem_of_getElem? (i := 2) rfl)))))) rfl dX7_saying_58 ?_
      refine W.eq (g2 := F0 m 61 ls [.ref (a ((Int.toNat (V 0 3)) + 4))]) rfl ?_
      refine lv_iload_n hx hb dX7_saying_61 rfl (lv_at hl 1 rfl) ?_
      refine kq_iald (i := ((Int.toNat (V 0 3)) + 4)) hx hb hK hP (isTo.l4 (by assumption)) (n := 6) (cE_19 (isTo.s4 (by assumption))) (by decide) (Int.toNat sy) rfl (by omega) dX7_saying_62 ?_
      exact mq_ret hx hb hr rfl (by unfold c_say; subst_vars; (repeat' split) <;> first | rfl | omega) dX7_saying_63 hlocks rfl
    by_cases c4 : wh = 2
    · refine lv_tableIn (off := 50) (tgt := 64) hx hb dX7_saying_14 (by rw [iZ_toInt (by omega)]; omega) (by rw [iZ_toInt (by omega)]; omega) (by rw [iZ_toInt (by omega), c4]; rfl) (by decide) ?_
      refine lv_aload_n hx hb dX7_saying_64 rfl (lv_at hl 0 rfl) ?_
      refine kq_get (i := 0) hx hb hts hin_X7 hown hK hP (by decide) (cE_0 rfl) rfl 3 (by decide) (hts (.fieldLink RX7 29 "WordFletchers" "told" "LWordFletchers$Told;") (List.mem_cons_of_mem _ (List.mem_append_left _ (List.mem_append_left _ (List.mem_append_left _ (List.mem_of_getElem? (i := 0) rfl)))))) rfl dX7_saying_65 ?_
      refine kq_get (i := (Int.toNat (V 0 3))) hx hb hts hin_X6 hown hK hP (isTo.l0 (by assumption)) (cE_15 (isTo.s0 (by assumption))) rfl 4 (by decide) (hts (.fieldLink RX7 114 "WordFletchers$Told" "first" "[I") (List.mem_cons_of_mem _ (List.mem_append_left _ (List.mem_append_left _ (List.mem_append_left _ (List.mem_of_getElem? (i := 3) rfl)))))) rfl dX7_saying_68 ?_
      refine lv_iload_n hx hb dX7_saying_71 rfl (lv_at hl 1 rfl) ?_
      refine kq_iald (i := ((Int.toNat (V 0 3)) + 5)) hx hb hK hP (isTo.l5 (by assumption)) (n := 6) (cE_20 (isTo.s5 (by assumption))) (by decide) (Int.toNat sy) rfl (by omega) dX7_saying_72 ?_
      exact mq_ret hx hb hr rfl (by unfold c_say; subst_vars; (repeat' split) <;> first | rfl | omega) dX7_saying_73 hlocks rfl
    by_cases c5 : wh = 3
    · refine lv_tableIn (off := 60) (tgt := 74) hx hb dX7_saying_14 (by rw [iZ_toInt (by omega)]; omega) (by rw [iZ_toInt (by omega)]; omega) (by rw [iZ_toInt (by omega), c5]; rfl) (by decide) ?_
      refine lv_aload_n hx hb dX7_saying_74 rfl (lv_at hl 0 rfl) ?_
      refine kq_get (i := 0) hx hb hts hin_X7 hown hK hP (by decide) (cE_0 rfl) rfl 5 (by decide) (hts (.fieldLink RX7 39 "WordFletchers" "moment" "LWordFletchers$Moment;") (List.mem_cons_of_mem _ (List.mem_append_left _ (List.mem_append_left _ (List.mem_append_left _ (List.mem_of_getElem? (i := 4) rfl)))))) rfl dX7_saying_75 ?_
      refine lv_iload_n hx hb dX7_saying_78 rfl (lv_at hl 1 rfl) ?_
      refine W.eq (g2 := F0 m 79 ls [.int (iZ sy), .ref (a 39)]) rfl ?_
      refine kq_ci (i := 39) (As := [.int (iZ sy)]) (rest := []) ⟨hx, hb, hml, hown, hts⟩ hK hP hN hS (isMo.l0 isMo_39) (cE_26 (isMo.s0 isMo_39)) rfl (K_X2_whoKnows l D C a b V 39 isMo_39 sy (by assumption) (by omega)) (cwV 1 hts gX7_saying_X2_whoKnows rfl rfl rfl (by decide +kernel) ⟨Nat.le_of_ble_eq_true rfl, Nat.le_of_ble_eq_true rfl⟩) rfl rfl hl.1 (Nat.le_of_ble_eq_true rfl) ⟨Nat.le_of_ble_eq_true rfl, Nat.le_of_ble_eq_true rfl⟩ dX7_saying_79 ?_
      have hwk := s_wkN_bd (V 41) sy
      exact mq_ret hx hb hr rfl (by unfold c_say; subst_vars; (repeat' split) <;> first | rfl | omega) dX7_saying_82 hlocks rfl
    refine lv_tableOut (tgt := 83) hx hb dX7_saying_14 (by rw [iZ_toInt (by omega)]; omega) (by decide) ?_
    refine lv_iconst (v := iZ (-1)) hx hb dX7_saying_83 (by decide) ?_
    exact mq_ret hx hb hr rfl (by unfold c_say; subst_vars; (repeat' split) <;> first | rfl | omega) dX7_saying_84 hlocks rfl
  · refine lv_iconst (v := iZ (-1)) hx hb dX7_saying_11 (by decide) ?_
    exact mq_ret hx hb hr rfl (by unfold c_say; subst_vars; (repeat' split) <;> first | rfl | omega) dX7_saying_12 hlocks rfl
set_option maxHeartbeats 4000000 in
set_option maxRecDepth 100000 in
theorem K_X7_call (l : Launch) (D : va_G) (C : cC) (a b : Nat → Nat) (V : Nat → Nat → Int) (pe : Int) (ot : Int) (sy : Int) (hI : cI V) (h0 : -2147483648 ≤ pe ∧ pe < 2147483648) (h1 : -2147483648 ≤ ot ∧ ot < 2147483648) (h2 : -2147483648 ≤ sy ∧ sy < 2147483648) : Met l yX7_call wsX7_call ({ frames := 5, cells := 0, slots := 0, locals := 109 }) (va_Pc [.ref (a 0), .int (iZ pe), .int (iZ ot), .int (iZ sy)] (cOk D C a b V)) (vp_Si (fun r => r = iZ (c_call V pe ot sy))) 0 0 (fun _ => False) := by
  refine Met.ofW (cc := cX7_call) (maxL := 8) (ret := (some .int)) (by decide) rfl ?_
  intro p e s m args below meth c s₁ B hml hv
  obtain ⟨rfl, hP, hK, hN⟩ := hv
  have hx := B.exec
  have hb := B.bytes
  have hr := B.returns
  have hts := atoms_spec (ws := wsX7_call) B.pre
  have hown : s.vm.findClass RX7 = some m.cls := findClass_of_methodNamed B.named
  have hlocks := B.notSynchronized
  have hin_X7 : ∀ w ∈ wsX70, w ∈ wsX7_call := fun _ w_h => (List.mem_cons_of_mem _ (List.mem_append_left _ (List.mem_append_left _ (List.mem_append_right _ w_h))))
  have hin_X6 : ∀ w ∈ wsX60, w ∈ wsX7_call := fun _ w_h => (List.mem_cons_of_mem _ (List.mem_append_left _ (List.mem_append_right _ w_h)))
  have hin_X2 : ∀ w ∈ wsX20, w ∈ wsX7_call := fun _ w_h => (List.mem_cons_of_mem _ (List.mem_append_right _ w_h))
  have hl := lv_entry ([.ref (a 0), .int (iZ pe), .int (iZ ot), .int (iZ sy)]) (n := 8) (Nat.le_of_ble_eq_true rfl)
  rw [lg_entry_eq]
  generalize (lg_sl ([.ref (a 0), .int (iZ pe), .int (iZ ot), .int (iZ sy)]) ++ List.replicate (8 - (lg_sl ([.ref (a 0), .int (iZ pe), .int (iZ ot), .int (iZ sy)])).length) Slot.unset).toArray = ls at hl ⊢
  replace hl : lv_has ls 8 [(0, .ref (a 0)), (1, .int (iZ pe)), (2, .int (iZ ot)), (3, .int (iZ sy))] := hl
  have hS : va_S (cA a) s.heap s.heap [] := va_S.rf
  obtain ⟨hto, hto4, hne, htx, hT, hM, hpa, hpi, hki, hsz, hsg, hby⟩ := id hI
  have hnt := hT.now
  have hnm := hM.now
  refine lv_aload_n hx hb dX7_call_0 rfl (lv_at hl 0 rfl) ?_
  refine lv_iload_n hx hb dX7_call_1 rfl (lv_at hl 1 rfl) ?_
  refine lv_iload_n hx hb dX7_call_2 rfl (lv_at hl 2 rfl) ?_
  refine kq_ci (i := 0) (As := [.int (iZ pe), .int (iZ ot)]) (rest := []) ⟨hx, hb, hml, hown, hts⟩ hK hP hN hS (by decide) (cE_0 rfl) rfl (K_X7_areTwo l D C a b V pe ot hI (by omega) (by omega)) (cwV 2 hts gX7_call_X7_areTwo rfl rfl rfl (by decide +kernel) ⟨Nat.le_of_ble_eq_true rfl, Nat.le_of_ble_eq_true rfl⟩) rfl rfl hl.1 (Nat.le_of_ble_eq_true rfl) ⟨Nat.le_of_ble_eq_true rfl, Nat.le_of_ble_eq_true rfl⟩ dX7_call_3 ?_
  refine z_ifb_eq (P := ((0 ≤ pe ∧ pe < V (Int.toNat (V 0 3)) 7) ∧ (0 ≤ ot ∧ ot < V (Int.toNat (V 0 3)) 7) ∧ ¬ (pe = ot))) (tgt := 20) hx hb dX7_call_6 (by decide) (fun c1 => ?_) (fun c1 => ?_)
  · refine lv_iconst (v := iZ (-1)) hx hb dX7_call_20 (by decide) ?_
    refine W.eq (g2 := F0 m 21 ls [.int (iZ (-1))]) rfl ?_
    exact mq_ret hx hb hr rfl (by first | (rw [i2, zfindL_step _ ⟨i1.1, by omega⟩]; exact (if_pos (decide_eq_true (by assumption))).symm) | (have q : kk = 26 := (by omega); rw [i2, q]; rfl) | (unfold c_call; rw [if_neg (by omega)])) dX7_call_21 hlocks rfl
  · refine lv_aload_n hx hb dX7_call_9 rfl (lv_at hl 0 rfl) ?_
    refine kq_get (i := 0) hx hb hts hin_X7 hown hK hP (by decide) (cE_0 rfl) rfl 3 (by decide) (hts (.fieldLink RX7 29 "WordFletchers" "told" "LWordFletchers$Told;") (List.mem_cons_of_mem _ (List.mem_append_left _ (List.mem_append_left _ (List.mem_append_left _ (List.mem_append_left _ (List.mem_of_getElem? (i := 0) rfl))))))) rfl dX7_call_10 ?_
    refine lv_iload_n hx hb dX7_call_13 rfl (lv_at hl 3 rfl) ?_
    refine kq_ci (i := (Int.toNat (V 0 3))) (As := [.int (iZ sy)]) (rest := []) ⟨hx, hb, hml, hown, hts⟩ hK hP hN hS (isTo.l0 (by assumption)) (cE_15 (isTo.s0 (by assumption))) rfl (K_X6_hasSaying l D C a b V (Int.toNat (V 0 3)) (by assumption) sy (by omega) (by omega)) (cwV 1 hts gX7_call_X6_hasSaying rfl rfl rfl (by decide +kernel) ⟨Nat.le_of_ble_eq_true rfl, Nat.le_of_ble_eq_true rfl⟩) rfl rfl hl.1 (Nat.le_of_ble_eq_true rfl) ⟨Nat.le_of_ble_eq_true rfl, Nat.le_of_ble_eq_true rfl⟩ dX7_call_14 ?_
    refine z_ifb_ne (P := (0 ≤ sy ∧ sy < V (Int.toNat (V 0 3)) 8)) (tgt := 22) hx hb dX7_call_17 (by decide) (fun c2 => ?_) (fun c2 => ?_)
    · refine va_gets hx hb hN.2.2.2.2.2.1 hS hown (hts (.fieldLink RX7 194 "WordFletchers" "SHOTS_BY_HOW_MANY" "[I") (List.mem_cons_of_mem _ (List.mem_append_left _ (List.mem_append_left _ (List.mem_append_left _ (List.mem_append_left _ (List.mem_of_getElem? (i := 1) rfl))))))) (fun _ h9 => h9) dX7_call_22 ?_
      refine lv_astore (lv' := [(4, .ref (b 2)), (0, .ref (a 0)), (1, .int (iZ pe)), (2, .int (iZ ot)), (3, .int (iZ sy))]) hx hb dX7_call_25 hl (by decide) rfl (fun ls hl => ?_)
      refine lv_aload hx hb dX7_call_27 (lv_at hl 0 rfl) ?_
      refine kq_slen (d := 2) (n := 26) (f := cMan) hx hb hN.2.2.2.2.2.2.2.2.1 (hN.2.2.2.2.2.2.2.2.2.1 2 (by decide)) hS dX7_call_29 ?_
      refine lv_istore (lv' := [(5, .int (iZ 26)), (4, .ref (b 2)), (0, .ref (a 0)), (1, .int (iZ pe)), (2, .int (iZ ot)), (3, .int (iZ sy))]) hx hb dX7_call_30 hl (by decide) rfl (fun ls hl => ?_)
      refine lv_iconst (v := iZ 0) hx hb dX7_call_32 (by decide) ?_
      refine W.eq (g2 := F0 m 33 ls [.int (iZ 0)]) rfl ?_
      refine lv_istore (lv' := [(6, .int (iZ 0)), (5, .int (iZ 26)), (4, .ref (b 2)), (0, .ref (a 0)), (1, .int (iZ pe)), (2, .int (iZ ot)), (3, .int (iZ sy))]) hx hb dX7_call_33 hl (by decide) rfl (fun ls hl => ?_)
      replace hl : lv_has ls 8 [(6, .int (iZ (0 : Int))), (5, .int (iZ 26)), (4, .ref (b 2)), (0, .ref (a 0)), (1, .int (iZ pe)), (2, .int (iZ ot)), (3, .int (iZ sy))] := lv_sub hl [0, 1, 2, 3, 4, 5, 6] rfl
      revert ls
      refine z_loop (σ := Int) (fun x9 => (0 ≤ x9 ∧ x9 ≤ 26) ∧ (c_call V pe ot sy = zfindL (fun q => decide (c_hrd V pe ot sy q (c_wind V 0))) (shN.drop (Int.toNat x9)))) (fun x9 => [(6, .int (iZ x9)), (5, .int (iZ 26)), (4, .ref (b 2)), (0, .ref (a 0)), (1, .int (iZ pe)), (2, .int (iZ ot)), (3, .int (iZ sy))]) 8 (fun x9 => (26 - x9).toNat) (0 : Int) ⟨(by show 0 ≤ (0 : Int) ∧ (0 : Int) ≤ 26; omega), (by show c_call V pe ot sy = zfindL (fun q => decide (c_hrd V pe ot sy q (c_wind V 0))) (shN.drop (Int.toNat (0 : Int))); unfold c_call; rw [if_pos (by omega)]; rfl)⟩ ?_
      rintro kk hI9 ih35 ls hl
      obtain ⟨i1, i2⟩ := hI9
      replace i1 : 0 ≤ kk ∧ kk ≤ 26 := i1
      replace i2 : c_call V pe ot sy = zfindL (fun q => decide (c_hrd V pe ot sy q (c_wind V 0))) (shN.drop (Int.toNat kk)) := i2
      replace hl : lv_has ls 8 [(6, .int (iZ kk)), (5, .int (iZ 26)), (4, .ref (b 2)), (0, .ref (a 0)), (1, .int (iZ pe)), (2, .int (iZ ot)), (3, .int (iZ sy))] := hl
      have hmn := cMan_ok (k := kk)
      refine lv_iload hx hb dX7_call_35 (lv_at hl 0 rfl) ?_
      refine lv_iload hx hb dX7_call_37 (lv_at hl 1 rfl) ?_
      refine z_icmp_ge (x := kk) (y := 26) (tgt := 77) hx hb (by omega) (by omega) dX7_call_39 (by decide) (fun c3 => ?_) (fun c3 => ?_)
      · refine lv_bipush (v := iZ (-9)) hx hb dX7_call_77 (by decide) ?_
        exact mq_ret hx hb hr rfl (by first | (rw [i2, zfindL_step _ ⟨i1.1, by omega⟩]; exact (if_pos (decide_eq_true (by assumption))).symm) | (have q : kk = 26 := (by omega); rw [i2, q]; rfl) | (unfold c_call; rw [if_neg (by omega)])) dX7_call_79 hlocks rfl
      · refine lv_aload hx hb dX7_call_42 (lv_at hl 2 rfl) ?_
        refine lv_iload hx hb dX7_call_44 (lv_at hl 0 rfl) ?_
        refine kq_sald (d := 2) (n := 26) (f := cMan) hx hb hN.2.2.2.2.2.2.2.2.1 (hN.2.2.2.2.2.2.2.2.2.1 2 (by decide)) hS (by decide) (Int.toNat kk) rfl (by omega) dX7_call_46 ?_
        have hkn9 := hmn ⟨by omega, by omega⟩
        refine lv_istore (lv' := [(7, .int (iZ (cMan (Int.toNat kk)))), (6, .int (iZ kk)), (5, .int (iZ 26)), (4, .ref (b 2)), (0, .ref (a 0)), (1, .int (iZ pe)), (2, .int (iZ ot)), (3, .int (iZ sy))]) hx hb dX7_call_47 hl (by decide) rfl (fun ls hl => ?_)
        refine lv_aload_n hx hb dX7_call_49 rfl (lv_at hl 4 rfl) ?_
        refine kq_get (i := 0) hx hb hts hin_X7 hown hK hP (by decide) (cE_0 rfl) rfl 3 (by decide) (hts (.fieldLink RX7 29 "WordFletchers" "told" "LWordFletchers$Told;") (List.mem_cons_of_mem _ (List.mem_append_left _ (List.mem_append_left _ (List.mem_append_left _ (List.mem_append_left _ (List.mem_of_getElem? (i := 0) rfl))))))) rfl dX7_call_50 ?_
        refine W.eq (g2 := F0 m 53 ls [.ref (a (Int.toNat (V 0 3)))]) rfl ?_
        refine lv_iload_n hx hb dX7_call_53 rfl (lv_at hl 6 rfl) ?_
        refine lv_aload_n hx hb dX7_call_54 rfl (lv_at hl 4 rfl) ?_
        refine lv_iload_n hx hb dX7_call_55 rfl (lv_at hl 5 rfl) ?_
        refine lv_iload_n hx hb dX7_call_56 rfl (lv_at hl 7 rfl) ?_
        refine lv_iload hx hb dX7_call_57 (lv_at hl 0 rfl) ?_
        refine kq_ci (i := 0) (As := [.int (iZ pe), .int (iZ sy), .int (iZ (cMan (Int.toNat kk)))]) (rest := [.int (iZ ot), .ref (a (Int.toNat (V 0 3)))]) ⟨hx, hb, hml, hown, hts⟩ hK hP hN hS (by decide) (cE_0 rfl) rfl (K_X7_landingNow l D C a b V pe sy (cMan (Int.toNat kk)) hI (by omega) (by omega) (by omega) (by omega)) (cwV 3 hts gX7_call_X7_landingNow rfl rfl rfl (by decide +kernel) ⟨Nat.le_of_ble_eq_true rfl, Nat.le_of_ble_eq_true rfl⟩) rfl rfl hl.1 (Nat.le_of_ble_eq_true rfl) ⟨Nat.le_of_ble_eq_true rfl, Nat.le_of_ble_eq_true rfl⟩ dX7_call_59 ?_
        have hcl := c_la_bd V pe sy (cMan (Int.toNat kk)) (c_wind V 0)
        have hco := c_la_or V pe sy (cMan (Int.toNat kk)) (c_wind V 0)
        refine kq_ci (i := (Int.toNat (V 0 3))) (As := [.int (iZ ot), .int (iZ (c_la V pe sy (cMan (Int.toNat kk)) (c_wind V 0)))]) (rest := []) ⟨hx, hb, hml, hown, hts⟩ hK hP hN hS (isTo.l0 (by assumption)) (cE_15 (isTo.s0 (by assumption))) rfl (K_X6_hears l D C a b V (Int.toNat (V 0 3)) (by assumption) ot (c_la V pe sy (cMan (Int.toNat kk)) (c_wind V 0)) (by assumption) (by omega) (by omega)) (cwV 2 hts gX7_call_X6_hears rfl rfl rfl (by decide +kernel) ⟨Nat.le_of_ble_eq_true rfl, Nat.le_of_ble_eq_true rfl⟩) rfl rfl hl.1 (Nat.le_of_ble_eq_true rfl) ⟨Nat.le_of_ble_eq_true rfl, Nat.le_of_ble_eq_true rfl⟩ dX7_call_62 ?_
        refine z_ifb_eq (P := (s_hear (V ((Int.toNat (V 0 3)) + 1) (Int.toNat ot)) (V ((Int.toNat (V 0 3)) + 2) (Int.toNat ot)) (c_la V pe sy (cMan (Int.toNat kk)) (c_wind V 0)))) (tgt := 71) hx hb dX7_call_65 (by decide) (fun c4 => ?_) (fun c4 => ?_)
        · refine lv_iinc (v := iZ (kk + 1)) (lv' := [(6, .int (iZ (kk + 1))), (7, .int (iZ (cMan (Int.toNat kk)))), (5, .int (iZ 26)), (4, .ref (b 2)), (0, .ref (a 0)), (1, .int (iZ pe)), (2, .int (iZ ot)), (3, .int (iZ sy))]) hx hb dX7_call_71 hl (k := 1) rfl (iZ_add _ _) (by decide) rfl (fun ls hl => ?_)
          refine lv_goto (tgt := 35) hx hb dX7_call_74 (by decide) ?_
          exact ih35 (kk + 1) ⟨(by show 0 ≤ (kk + 1) ∧ (kk + 1) ≤ 26; omega), (by show c_call V pe ot sy = zfindL (fun q => decide (c_hrd V pe ot sy q (c_wind V 0))) (shN.drop (Int.toNat (kk + 1))); rw [i2, zfindL_step _ ⟨i1.1, by omega⟩]; exact if_neg (fun h9 => absurd (of_decide_eq_true h9) (by assumption)))⟩ (by show (26 - (kk + 1)).toNat < (26 - kk).toNat; omega) ls (lv_sub hl [0, 2, 3, 4, 5, 6, 7] rfl)
        · refine lv_iload hx hb dX7_call_68 (lv_at hl 0 rfl) ?_
          exact mq_ret hx hb hr rfl (by first | (rw [i2, zfindL_step _ ⟨i1.1, by omega⟩]; exact (if_pos (decide_eq_true (by assumption))).symm) | (have q : kk = 26 := (by omega); rw [i2, q]; rfl) | (unfold c_call; rw [if_neg (by omega)])) dX7_call_70 hlocks rfl
    · refine W.eq (g2 := F0 m 20 ls []) rfl ?_
      refine lv_iconst (v := iZ (-1)) hx hb dX7_call_20 (by decide) ?_
      exact mq_ret hx hb hr rfl (by first | (rw [i2, zfindL_step _ ⟨i1.1, by omega⟩]; exact (if_pos (decide_eq_true (by assumption))).symm) | (have q : kk = 26 := (by omega); rw [i2, q]; rfl) | (unfold c_call; rw [if_neg (by omega)])) dX7_call_21 hlocks rfl
set_option maxHeartbeats 4000000 in
set_option maxRecDepth 100000 in
theorem K_X7_waits (l : Launch) (D : va_G) (C : cC) (a b : Nat → Nat) (V : Nat → Nat → Int) (pe : Int) (ot : Int) (sy : Int) (sh : Int) (hI : cI V) (h0 : -2147483648 ≤ pe ∧ pe < 2147483648) (h1 : -2147483648 ≤ ot ∧ ot < 2147483648) (h2 : -2147483648 ≤ sy ∧ sy < 2147483648) (h3 : -2147483648 ≤ sh ∧ sh < 2147483648) : Met l yX7_waits wsX7_waits ({ frames := 4, cells := 0, slots := 0, locals := 86 }) (va_Pc [.ref (a 0), .int (iZ pe), .int (iZ ot), .int (iZ sy), .int (iZ sh)] (cOk D C a b V)) (vp_Si (fun r => r = iZ (c_waits V pe ot sy sh))) 0 0 (fun _ => False) := by
  refine Met.ofW (cc := cX7_waits) (maxL := 6) (ret := (some .int)) (by decide) rfl ?_
  intro p e s m args below meth c s₁ B hml hv
  obtain ⟨rfl, hP, hK, hN⟩ := hv
  have hx := B.exec
  have hb := B.bytes
  have hr := B.returns
  have hts := atoms_spec (ws := wsX7_waits) B.pre
  have hown : s.vm.findClass RX7 = some m.cls := findClass_of_methodNamed B.named
  have hlocks := B.notSynchronized
  have hin_X7 : ∀ w ∈ wsX70, w ∈ wsX7_waits := fun _ w_h => (List.mem_cons_of_mem _ (List.mem_append_left _ (List.mem_append_left _ (List.mem_append_right _ w_h))))
  have hin_X2 : ∀ w ∈ wsX20, w ∈ wsX7_waits := fun _ w_h => (List.mem_cons_of_mem _ (List.mem_append_left _ (List.mem_append_right _ w_h)))
  have hin_X6 : ∀ w ∈ wsX60, w ∈ wsX7_waits := fun _ w_h => (List.mem_cons_of_mem _ (List.mem_append_right _ w_h))
  have hl := lv_entry ([.ref (a 0), .int (iZ pe), .int (iZ ot), .int (iZ sy), .int (iZ sh)]) (n := 6) (Nat.le_of_ble_eq_true rfl)
  rw [lg_entry_eq]
  generalize (lg_sl ([.ref (a 0), .int (iZ pe), .int (iZ ot), .int (iZ sy), .int (iZ sh)]) ++ List.replicate (6 - (lg_sl ([.ref (a 0), .int (iZ pe), .int (iZ ot), .int (iZ sy), .int (iZ sh)])).length) Slot.unset).toArray = ls at hl ⊢
  replace hl : lv_has ls 6 [(0, .ref (a 0)), (1, .int (iZ pe)), (2, .int (iZ ot)), (3, .int (iZ sy)), (4, .int (iZ sh))] := hl
  have hS : va_S (cA a) s.heap s.heap [] := va_S.rf
  obtain ⟨hto, hto4, hne, htx, hT, hM, hpa, hpi, hki, hsz, hsg, hby⟩ := id hI
  have hnt := hT.now
  have hnm := hM.now
  refine lv_aload_n hx hb dX7_waits_0 rfl (lv_at hl 0 rfl) ?_
  refine lv_iload_n hx hb dX7_waits_1 rfl (lv_at hl 1 rfl) ?_
  refine lv_iload_n hx hb dX7_waits_2 rfl (lv_at hl 2 rfl) ?_
  refine kq_ci (i := 0) (As := [.int (iZ pe), .int (iZ ot)]) (rest := []) ⟨hx, hb, hml, hown, hts⟩ hK hP hN hS (by decide) (cE_0 rfl) rfl (K_X7_areTwo l D C a b V pe ot hI (by omega) (by omega)) (cwV 2 hts gX7_waits_X7_areTwo rfl rfl rfl (by decide +kernel) ⟨Nat.le_of_ble_eq_true rfl, Nat.le_of_ble_eq_true rfl⟩) rfl rfl hl.1 (Nat.le_of_ble_eq_true rfl) ⟨Nat.le_of_ble_eq_true rfl, Nat.le_of_ble_eq_true rfl⟩ dX7_waits_3 ?_
  refine z_ifb_eq (P := ((0 ≤ pe ∧ pe < V (Int.toNat (V 0 3)) 7) ∧ (0 ≤ ot ∧ ot < V (Int.toNat (V 0 3)) 7) ∧ ¬ (pe = ot))) (tgt := 28) hx hb dX7_waits_6 (by decide) (fun c1 => ?_) (fun c1 => ?_)
  · refine lv_iconst (v := iZ (-1)) hx hb dX7_waits_28 (by decide) ?_
    exact mq_ret hx hb hr rfl (by first | (have q : nn = 13 := (by omega); rw [i2, q]; rfl) | (rw [i2, zfind_step _ 13 _ (by omega)]; exact (if_pos (decide_eq_true (by assumption))).symm) | (unfold c_waits; rw [if_neg (by omega)])) dX7_waits_29 hlocks rfl
  · refine lv_aload_n hx hb dX7_waits_9 rfl (lv_at hl 0 rfl) ?_
    refine kq_get (i := 0) hx hb hts hin_X7 hown hK hP (by decide) (cE_0 rfl) rfl 3 (by decide) (hts (.fieldLink RX7 29 "WordFletchers" "told" "LWordFletchers$Told;") (List.mem_cons_of_mem _ (List.mem_append_left _ (List.mem_append_left _ (List.mem_append_left _ (List.mem_append_left _ (List.mem_of_getElem? (i := 0) rfl))))))) rfl dX7_waits_10 ?_
    refine lv_iload_n hx hb dX7_waits_13 rfl (lv_at hl 3 rfl) ?_
    refine W.eq (g2 := F0 m 14 ls [.int (iZ sy), .ref (a (Int.toNat (V 0 3)))]) rfl ?_
    refine kq_ci (i := (Int.toNat (V 0 3))) (As := [.int (iZ sy)]) (rest := []) ⟨hx, hb, hml, hown, hts⟩ hK hP hN hS (isTo.l0 (by assumption)) (cE_15 (isTo.s0 (by assumption))) rfl (K_X6_hasSaying l D C a b V (Int.toNat (V 0 3)) (by assumption) sy (by omega) (by omega)) (cwV 1 hts gX7_waits_X6_hasSaying rfl rfl rfl (by decide +kernel) ⟨Nat.le_of_ble_eq_true rfl, Nat.le_of_ble_eq_true rfl⟩) rfl rfl hl.1 (Nat.le_of_ble_eq_true rfl) ⟨Nat.le_of_ble_eq_true rfl, Nat.le_of_ble_eq_true rfl⟩ dX7_waits_14 ?_
    refine z_ifb_eq (P := (0 ≤ sy ∧ sy < V (Int.toNat (V 0 3)) 8)) (tgt := 28) hx hb dX7_waits_17 (by decide) (fun c2 => ?_) (fun c2 => ?_)
    · refine lv_iconst (v := iZ (-1)) hx hb dX7_waits_28 (by decide) ?_
      exact mq_ret hx hb hr rfl (by first | (have q : nn = 13 := (by omega); rw [i2, q]; rfl) | (rw [i2, zfind_step _ 13 _ (by omega)]; exact (if_pos (decide_eq_true (by assumption))).symm) | (unfold c_waits; rw [if_neg (by omega)])) dX7_waits_29 hlocks rfl
    · refine lv_iload hx hb dX7_waits_20 (lv_at hl 4 rfl) ?_
      refine kq_cs (As := [.int (iZ sh)]) (rest := []) ⟨hx, hb, hml, hown, hts⟩ (K_X7_isShot l sh (by omega)) (va_cwS 1 hts gX7_waits_X7_isShot rfl rfl rfl (by decide +kernel) ⟨Nat.le_of_ble_eq_true rfl, Nat.le_of_ble_eq_true rfl⟩) rfl rfl hl.1 (Nat.le_of_ble_eq_true rfl) ⟨Nat.le_of_ble_eq_true rfl, Nat.le_of_ble_eq_true rfl⟩ dX7_waits_22 ?_
      refine z_ifb_ne (P := (0 ≤ sh ∧ sh / 100 ≤ 3 ∧ sh / 10 % 10 ≤ 3 ∧ sh % 10 ≤ 1)) (tgt := 30) hx hb dX7_waits_25 (by decide) (fun c3 => ?_) (fun c3 => ?_)
      · refine lv_iconst (v := iZ 0) hx hb dX7_waits_30 (by decide) ?_
        refine lv_istore (lv' := [(5, .int (iZ 0)), (0, .ref (a 0)), (1, .int (iZ pe)), (2, .int (iZ ot)), (3, .int (iZ sy)), (4, .int (iZ sh))]) hx hb dX7_waits_31 hl (by decide) rfl (fun ls hl => ?_)
        replace hl : lv_has ls 6 [(5, .int (iZ (0 : Int))), (0, .ref (a 0)), (1, .int (iZ pe)), (2, .int (iZ ot)), (3, .int (iZ sy)), (4, .int (iZ sh))] := lv_sub hl [0, 1, 2, 3, 4, 5] rfl
        revert ls
        refine z_loop (σ := Int) (fun x9 => (0 ≤ x9 ∧ x9 ≤ 13) ∧ (c_waits V pe ot sy sh = zfind (fun q => decide (c_hrd V pe ot sy sh (c_wind V q))) (13 - x9).toNat x9)) (fun x9 => [(5, .int (iZ x9)), (0, .ref (a 0)), (1, .int (iZ pe)), (2, .int (iZ ot)), (3, .int (iZ sy)), (4, .int (iZ sh))]) 6 (fun x9 => (13 - x9).toNat) (0 : Int) ⟨(by show 0 ≤ (0 : Int) ∧ (0 : Int) ≤ 13; omega), (by show c_waits V pe ot sy sh = zfind (fun q => decide (c_hrd V pe ot sy sh (c_wind V q))) (13 - (0 : Int)).toNat (0 : Int); unfold c_waits; rw [if_pos (by omega)]; rfl)⟩ ?_
        rintro nn hI9 ih33 ls hl
        obtain ⟨i1, i2⟩ := hI9
        replace i1 : 0 ≤ nn ∧ nn ≤ 13 := i1
        replace i2 : c_waits V pe ot sy sh = zfind (fun q => decide (c_hrd V pe ot sy sh (c_wind V q))) (13 - nn).toNat nn := i2
        replace hl : lv_has ls 6 [(5, .int (iZ nn)), (0, .ref (a 0)), (1, .int (iZ pe)), (2, .int (iZ ot)), (3, .int (iZ sy)), (4, .int (iZ sh))] := hl
        have hcw := c_wind_bd hI nn
        refine lv_iload hx hb dX7_waits_33 (lv_at hl 0 rfl) ?_
        refine lv_bipush (v := iZ 12) hx hb dX7_waits_35 (by decide) ?_
        refine z_icmp_gt (x := nn) (y := 12) (tgt := 84) hx hb (by omega) (by omega) dX7_waits_37 (by decide) (fun c4 => ?_) (fun c4 => ?_)
        · refine W.eq (g2 := F0 m 84 ls []) rfl ?_
          refine lv_bipush (v := iZ (-9)) hx hb dX7_waits_84 (by decide) ?_
          exact mq_ret hx hb hr rfl (by first | (have q : nn = 13 := (by omega); rw [i2, q]; rfl) | (rw [i2, zfind_step _ 13 _ (by omega)]; exact (if_pos (decide_eq_true (by assumption))).symm) | (unfold c_waits; rw [if_neg (by omega)])) dX7_waits_86 hlocks rfl
        · refine lv_aload_n hx hb dX7_waits_40 rfl (lv_at hl 1 rfl) ?_
          refine kq_get (i := 0) hx hb hts hin_X7 hown hK hP (by decide) (cE_0 rfl) rfl 3 (by decide) (hts (.fieldLink RX7 29 "WordFletchers" "told" "LWordFletchers$Told;") (List.mem_cons_of_mem _ (List.mem_append_left _ (List.mem_append_left _ (List.mem_append_left _ (List.mem_append_left _ (List.mem_of_getElem? (i := 0) rfl))))))) rfl dX7_waits_41 ?_
          refine lv_iload_n hx hb dX7_waits_44 rfl (lv_at hl 3 rfl) ?_
          refine lv_aload_n hx hb dX7_waits_45 rfl (lv_at hl 1 rfl) ?_
          refine kq_get (i := 0) hx hb hts hin_X7 hown hK hP (by decide) (cE_0 rfl) rfl 3 (by decide) (hts (.fieldLink RX7 29 "WordFletchers" "told" "LWordFletchers$Told;") (List.mem_cons_of_mem _ (List.mem_append_left _ (List.mem_append_left _ (List.mem_append_left _ (List.mem_append_left _ (List.mem_of_getElem? (i := 0) rfl))))))) rfl dX7_waits_46 ?_
          refine lv_iload_n hx hb dX7_waits_49 rfl (lv_at hl 2 rfl) ?_
          refine lv_iload_n hx hb dX7_waits_50 rfl (lv_at hl 4 rfl) ?_
          refine lv_iload hx hb dX7_waits_51 (lv_at hl 5 rfl) ?_
          refine lv_aload_n hx hb dX7_waits_53 rfl (lv_at hl 1 rfl) ?_
          refine lv_iload hx hb dX7_waits_54 (lv_at hl 0 rfl) ?_
          refine W.eq (g2 := F0 m 56 ls [.int (iZ nn), .ref (a 0), .int (iZ sh), .int (iZ sy), .int (iZ pe), .ref (a (Int.toNat (V 0 3))), .int (iZ ot), .ref (a (Int.toNat (V 0 3)))]) rfl ?_
          refine kq_ci (i := 0) (As := [.int (iZ nn)]) (rest := [.int (iZ sh), .int (iZ sy), .int (iZ pe), .ref (a (Int.toNat (V 0 3))), .int (iZ ot), .ref (a (Int.toNat (V 0 3)))]) ⟨hx, hb, hml, hown, hts⟩ hK hP hN hS (by decide) (cE_0 rfl) rfl (K_X7_windIn l D C a b V nn (by assumption) (by omega) (by omega) (by omega)) (cwV 1 hts gX7_waits_X7_windIn rfl rfl rfl (by decide +kernel) ⟨Nat.le_of_ble_eq_true rfl, Nat.le_of_ble_eq_true rfl⟩) rfl rfl hl.1 (Nat.le_of_ble_eq_true rfl) ⟨Nat.le_of_ble_eq_true rfl, Nat.le_of_ble_eq_true rfl⟩ dX7_waits_56 ?_
          refine lv_aload_n hx hb dX7_waits_59 rfl (lv_at hl 1 rfl) ?_
          refine kq_get (i := 0) hx hb hts hin_X7 hown hK hP (by decide) (cE_0 rfl) rfl 5 (by decide) (hts (.fieldLink RX7 39 "WordFletchers" "moment" "LWordFletchers$Moment;") (List.mem_cons_of_mem _ (List.mem_append_left _ (List.mem_append_left _ (List.mem_append_left _ (List.mem_append_left _ (List.mem_of_getElem? (i := 1) rfl))))))) rfl dX7_waits_60 ?_
          refine kq_get (i := 39) hx hb hts hin_X2 hown hK hP (isMo.l0 isMo_39) (cE_26 (isMo.s0 isMo_39)) rfl 1 (by decide) (hts (.fieldLink RX7 177 "WordFletchers$Moment" "damp" "I") (List.mem_cons_of_mem _ (List.mem_append_left _ (List.mem_append_left _ (List.mem_append_left _ (List.mem_append_left _ (List.mem_of_getElem? (i := 2) rfl))))))) rfl dX7_waits_63 ?_
          refine kq_ci (i := (Int.toNat (V 0 3))) (As := [.int (iZ pe), .int (iZ sy), .int (iZ sh), .int (iZ (c_wind V nn)), .int (iZ (V 39 1))]) (rest := [.int (iZ ot), .ref (a (Int.toNat (V 0 3)))]) ⟨hx, hb, hml, hown, hts⟩ hK hP hN hS (isTo.l0 (by assumption)) (cE_15 (isTo.s0 (by assumption))) rfl (K_X6_landing l D C a b V (Int.toNat (V 0 3)) (by assumption) pe sy sh (c_wind V nn) (V 39 1) (by assumption) (by omega) (by omega) (by omega) (by omega) (by omega) (by omega)) (cwV 5 hts gX7_waits_X6_landing rfl rfl rfl (by decide +kernel) ⟨Nat.le_of_ble_eq_true rfl, Nat.le_of_ble_eq_true rfl⟩) rfl rfl hl.1 (Nat.le_of_ble_eq_true rfl) ⟨Nat.le_of_ble_eq_true rfl, Nat.le_of_ble_eq_true rfl⟩ dX7_waits_66 ?_
          have hld := s_land_bd (V ((Int.toNat (V 0 3)) + 1) (Int.toNat pe)) (V ((Int.toNat (V 0 3)) + 4) (Int.toNat sy)) (V ((Int.toNat (V 0 3)) + 3) (Int.toNat sy)) (V 39 1) (sh / 100) (sh / 10 % 10) (sh % 10) (c_wind V nn)
          refine kq_ci (i := (Int.toNat (V 0 3))) (As := [.int (iZ ot), .int (iZ (s_land (V ((Int.toNat (V 0 3)) + 1) (Int.toNat pe)) (V ((Int.toNat (V 0 3)) + 4) (Int.toNat sy)) (V ((Int.toNat (V 0 3)) + 3) (Int.toNat sy)) (V 39 1) (sh / 100) (sh / 10 % 10) (sh % 10) (c_wind V nn)))]) (rest := []) ⟨hx, hb, hml, hown, hts⟩ hK hP hN hS (isTo.l0 (by assumption)) (cE_15 (isTo.s0 (by assumption))) rfl (K_X6_hears l D C a b V (Int.toNat (V 0 3)) (by assumption) ot (s_land (V ((Int.toNat (V 0 3)) + 1) (Int.toNat pe)) (V ((Int.toNat (V 0 3)) + 4) (Int.toNat sy)) (V ((Int.toNat (V 0 3)) + 3) (Int.toNat sy)) (V 39 1) (sh / 100) (sh / 10 % 10) (sh % 10) (c_wind V nn)) (by assumption) (by omega) (by omega)) (cwV 2 hts gX7_waits_X6_hears rfl rfl rfl (by decide +kernel) ⟨Nat.le_of_ble_eq_true rfl, Nat.le_of_ble_eq_true rfl⟩) rfl rfl hl.1 (Nat.le_of_ble_eq_true rfl) ⟨Nat.le_of_ble_eq_true rfl, Nat.le_of_ble_eq_true rfl⟩ dX7_waits_69 ?_
          refine z_ifb_eq (P := (s_hear (V ((Int.toNat (V 0 3)) + 1) (Int.toNat ot)) (V ((Int.toNat (V 0 3)) + 2) (Int.toNat ot)) (s_land (V ((Int.toNat (V 0 3)) + 1) (Int.toNat pe)) (V ((Int.toNat (V 0 3)) + 4) (Int.toNat sy)) (V ((Int.toNat (V 0 3)) + 3) (Int.toNat sy)) (V 39 1) (sh / 100) (sh / 10 % 10) (sh % 10) (c_wind V nn)))) (tgt := 78) hx hb dX7_waits_72 (by decide) (fun c5 => ?_) (fun c5 => ?_)
          · refine lv_iinc (v := iZ (nn + 1)) (lv' := [(5, .int (iZ (nn + 1))), (0, .ref (a 0)), (1, .int (iZ pe)), (2, .int (iZ ot)), (3, .int (iZ sy)), (4, .int (iZ sh))]) hx hb dX7_waits_78 hl (k := 0) rfl (iZ_add _ _) (by decide) rfl (fun ls hl => ?_)
            refine lv_goto (tgt := 33) hx hb dX7_waits_81 (by decide) ?_
            exact ih33 (nn + 1) ⟨(by show 0 ≤ (nn + 1) ∧ (nn + 1) ≤ 13; omega), (by show c_waits V pe ot sy sh = zfind (fun q => decide (c_hrd V pe ot sy sh (c_wind V q))) (13 - (nn + 1)).toNat (nn + 1); rw [i2, zfind_step _ 13 _ (by omega)]; exact if_neg (fun h9 => absurd (of_decide_eq_true h9) (by assumption)))⟩ (by show (13 - (nn + 1)).toNat < (13 - nn).toNat; omega) ls (lv_sub hl [0, 1, 2, 3, 4, 5] rfl)
          · refine lv_iload hx hb dX7_waits_75 (lv_at hl 0 rfl) ?_
            exact mq_ret hx hb hr rfl (by first | (have q : nn = 13 := (by omega); rw [i2, q]; rfl) | (rw [i2, zfind_step _ 13 _ (by omega)]; exact (if_pos (decide_eq_true (by assumption))).symm) | (unfold c_waits; rw [if_neg (by omega)])) dX7_waits_77 hlocks rfl
      · refine lv_iconst (v := iZ (-1)) hx hb dX7_waits_28 (by decide) ?_
        refine W.eq (g2 := F0 m 29 ls [.int (iZ (-1))]) rfl ?_
        exact mq_ret hx hb hr rfl (by first | (have q : nn = 13 := (by omega); rw [i2, q]; rfl) | (rw [i2, zfind_step _ 13 _ (by omega)]; exact (if_pos (decide_eq_true (by assumption))).symm) | (unfold c_waits; rw [if_neg (by omega)])) dX7_waits_29 hlocks rfl
set_option maxHeartbeats 4000000 in
set_option maxRecDepth 100000 in
theorem K_X7_commonDivisor (l : Launch) (x : Int) (y : Int) (h1 : 0 ≤ x ∧ x ≤ 6) (h2 : 0 ≤ y ∧ y ≤ 6) : Met l yX7_commonDivisor wsX7_commonDivisor ({ frames := 1, cells := 0, slots := 0, locals := 24 }) (va_Pc [.int (iZ x), .int (iZ y)] (fun _ => True)) (vp_Si (fun r => r = iZ (c_gcd x y))) 0 0 (fun _ => False) := by
  refine Met.ofW (cc := cX7_commonDivisor) (maxL := 3) (ret := (some .int)) (by decide) rfl ?_
  intro p e s m args below meth c s₁ B hml hv
  obtain ⟨rfl, -⟩ := hv
  have hx := B.exec
  have hb := B.bytes
  have hr := B.returns
  have hts := atoms_spec (ws := wsX7_commonDivisor) B.pre
  have hown : s.vm.findClass RX7 = some m.cls := findClass_of_methodNamed B.named
  have hlocks := B.notSynchronized
  have hl := lv_entry ([.int (iZ x), .int (iZ y)]) (n := 3) (Nat.le_of_ble_eq_true rfl)
  rw [lg_entry_eq]
  generalize (lg_sl ([.int (iZ x), .int (iZ y)]) ++ List.replicate (3 - (lg_sl ([.int (iZ x), .int (iZ y)])).length) Slot.unset).toArray = ls at hl ⊢
  replace hl : lv_has ls 3 [(0, .int (iZ x)), (1, .int (iZ y))] := hl
  refine lv_iload_n hx hb dX7_commonDivisor_0 rfl (lv_at hl 0 rfl) ?_
  refine lv_iload_n hx hb dX7_commonDivisor_1 rfl (lv_at hl 1 rfl) ?_
  refine kq_max (x := x) (y := y) hx hb (hml.trans hl.1.symm) hown (hts (.methodLink RX7 248 Lib.Math.max.name) (List.mem_cons_of_mem _ (List.mem_of_getElem? (i := 0) rfl))) (hts (.static Lib.Math.max.name) (List.mem_cons_of_mem _ (List.mem_of_getElem? (i := 1) rfl))) (hts (.initialized "java/lang/Math") (List.mem_cons_of_mem _ (List.mem_of_getElem? (i := 2) rfl))) (hts (.code Lib.Math.max.name Lib.Math.max.code 2 (some .int)) (List.mem_cons_of_mem _ (List.mem_of_getElem? (i := 3) rfl))) (Nat.le_of_ble_eq_true rfl) (Nat.le_of_ble_eq_true rfl) (Nat.le_of_ble_eq_true rfl) (Nat.le_of_ble_eq_true rfl) (by omega) (by omega) dX7_commonDivisor_2 ?_
  refine lv_istore_n (lv' := [(2, .int (iZ (if x < y then y else x))), (0, .int (iZ x)), (1, .int (iZ y))]) hx hb dX7_commonDivisor_5 rfl hl (by decide) rfl (fun ls hl => ?_)
  replace hl : lv_has ls 3 [(2, .int (iZ (if x < y then y else x))), (0, .int (iZ x)), (1, .int (iZ y))] := lv_sub hl [0, 1, 2] rfl
  revert ls
  refine z_loop (σ := Int) (fun x9 => (0 ≤ x9 ∧ x9 ≤ 6) ∧ (c_gcd x y = c_cdN x y (Int.toNat x9))) (fun x9 => [(2, .int (iZ x9)), (0, .int (iZ x)), (1, .int (iZ y))]) 3 (fun x9 => x9.toNat) (if x < y then y else x) ⟨(by show 0 ≤ (if x < y then y else x) ∧ (if x < y then y else x) ≤ 6; omega), (by show c_gcd x y = c_cdN x y (Int.toNat (if x < y then y else x)); rfl)⟩ ?_
  rintro d hI9 ih6 ls hl
  obtain ⟨i1, i2⟩ := hI9
  replace i1 : 0 ≤ d ∧ d ≤ 6 := i1
  replace i2 : c_gcd x y = c_cdN x y (Int.toNat d) := i2
  replace hl : lv_has ls 3 [(2, .int (iZ d)), (0, .int (iZ x)), (1, .int (iZ y))] := hl
  refine lv_iload_n hx hb dX7_commonDivisor_6 rfl (lv_at hl 0 rfl) ?_
  refine lv_iconst (v := iZ 1) hx hb dX7_commonDivisor_7 (by decide) ?_
  refine z_icmp_le (x := d) (y := 1) (tgt := 31) hx hb (by omega) (by omega) dX7_commonDivisor_8 (by decide) (fun c1 => ?_) (fun c1 => ?_)
  · refine lv_iconst (v := iZ 1) hx hb dX7_commonDivisor_31 (by decide) ?_
    exact mq_ret hx hb hr rfl (by first | (rw [i2, c_cdN_le _ _ (by omega)]; done) | (rw [i2, c_cdN_gt _ _ (by omega)]; exact (if_pos ⟨by omega, by omega⟩).symm)) dX7_commonDivisor_32 hlocks rfl
  · refine lv_iload_n hx hb dX7_commonDivisor_11 rfl (lv_at hl 1 rfl) ?_
    refine lv_iload_n hx hb dX7_commonDivisor_12 rfl (lv_at hl 0 rfl) ?_
    refine W.eq (g2 := F0 m 13 ls [.int (iZ d), .int (iZ x)]) rfl ?_
    refine z_irem hx hb (by omega) (by omega) dX7_commonDivisor_13 ?_
    have hm1 := z_mod (x := x) (y := d) (by omega)
    refine z_if_ne (x := (x % d)) (tgt := 25) hx hb (by omega) dX7_commonDivisor_14 (by decide) (fun c2 => ?_) (fun c2 => ?_)
    · refine lv_iinc (v := iZ (d + (-1))) (lv' := [(2, .int (iZ (d + (-1)))), (0, .int (iZ x)), (1, .int (iZ y))]) hx hb dX7_commonDivisor_25 hl (k := 0) rfl (iZ_add _ _) (by decide) rfl (fun ls hl => ?_)
      refine lv_goto (tgt := 6) hx hb dX7_commonDivisor_28 (by decide) ?_
      exact ih6 (d + (-1)) ⟨(by show 0 ≤ (d + (-1)) ∧ (d + (-1)) ≤ 6; omega), (by show c_gcd x y = c_cdN x y (Int.toNat (d + (-1))); rw [i2, c_cdN_gt _ _ (by omega)]; exact if_neg (fun h9 => by omega))⟩ (by show (d + (-1)).toNat < d.toNat; omega) ls (lv_sub hl [0, 1, 2] rfl)
    · refine lv_iload_n hx hb dX7_commonDivisor_17 rfl (lv_at hl 2 rfl) ?_
      refine lv_iload_n hx hb dX7_commonDivisor_18 rfl (lv_at hl 0 rfl) ?_
      refine z_irem hx hb (by omega) (by omega) dX7_commonDivisor_19 ?_
      have hm2 := z_mod (x := y) (y := d) (by omega)
      refine z_if_ne (x := (y % d)) (tgt := 25) hx hb (by omega) dX7_commonDivisor_20 (by decide) (fun c3 => ?_) (fun c3 => ?_)
      · refine lv_iinc (v := iZ (d + (-1))) (lv' := [(2, .int (iZ (d + (-1)))), (0, .int (iZ x)), (1, .int (iZ y))]) hx hb dX7_commonDivisor_25 hl (k := 0) rfl (iZ_add _ _) (by decide) rfl (fun ls hl => ?_)
        refine lv_goto (tgt := 6) hx hb dX7_commonDivisor_28 (by decide) ?_
        exact ih6 (d + (-1)) ⟨(by show 0 ≤ (d + (-1)) ∧ (d + (-1)) ≤ 6; omega), (by show c_gcd x y = c_cdN x y (Int.toNat (d + (-1))); rw [i2, c_cdN_gt _ _ (by omega)]; exact if_neg (fun h9 => by omega))⟩ (by show (d + (-1)).toNat < d.toNat; omega) ls (lv_sub hl [0, 1, 2] rfl)
      · refine lv_iload_n hx hb dX7_commonDivisor_23 rfl (lv_at hl 0 rfl) ?_
        exact mq_ret hx hb hr rfl (by first | (rw [i2, c_cdN_le _ _ (by omega)]; done) | (rw [i2, c_cdN_gt _ _ (by omega)]; exact (if_pos ⟨by omega, by omega⟩).symm)) dX7_commonDivisor_24 hlocks rfl
set_option maxHeartbeats 20000000 in
set_option maxRecDepth 100000 in
theorem K_X7_odds (l : Launch) (D : va_G) (C : cC) (a b : Nat → Nat) (V : Nat → Nat → Int) (pe : Int) (ot : Int) (sy : Int) (sh : Int) (wh : Int) (hI : cI V) (h0 : -2147483648 ≤ pe ∧ pe < 2147483648) (h1 : -2147483648 ≤ ot ∧ ot < 2147483648) (h2 : -2147483648 ≤ sy ∧ sy < 2147483648) (h3 : -2147483648 ≤ sh ∧ sh < 2147483648) (h4 : -2147483648 ≤ wh ∧ wh < 2147483648) : Met l yX7_odds wsX7_odds ({ frames := 3, cells := 0, slots := 0, locals := 81 }) (va_Pc [.ref (a 0), .int (iZ pe), .int (iZ ot), .int (iZ sy), .int (iZ sh), .int (iZ wh)] (cOk D C a b V)) (vp_Si (fun r => r = iZ (c_odds V pe ot sy sh wh))) 0 0 (fun _ => False) := by
  refine Met.ofW (cc := cX7_odds) (maxL := 8) (ret := (some .int)) (by decide) rfl ?_
  intro p e s m args below meth c s₁ B hml hv
  obtain ⟨rfl, hP, hK, hN⟩ := hv
  have hx := B.exec
  have hb := B.bytes
  have hr := B.returns
  have hts := atoms_spec (ws := wsX7_odds) B.pre
  have hown : s.vm.findClass RX7 = some m.cls := findClass_of_methodNamed B.named
  have hlocks := B.notSynchronized
  have hin_X7 : ∀ w ∈ wsX70, w ∈ wsX7_odds := fun _ w_h => (List.mem_cons_of_mem _ (List.mem_append_left _ (List.mem_append_left _ (List.mem_append_right _ w_h))))
  have hin_X6 : ∀ w ∈ wsX60, w ∈ wsX7_odds := fun _ w_h => (List.mem_cons_of_mem _ (List.mem_append_left _ (List.mem_append_right _ w_h)))
  have hin_X2 : ∀ w ∈ wsX20, w ∈ wsX7_odds := fun _ w_h => (List.mem_cons_of_mem _ (List.mem_append_right _ w_h))
  have hl := lv_entry ([.ref (a 0), .int (iZ pe), .int (iZ ot), .int (iZ sy), .int (iZ sh), .int (iZ wh)]) (n := 8) (Nat.le_of_ble_eq_true rfl)
  rw [lg_entry_eq]
  generalize (lg_sl ([.ref (a 0), .int (iZ pe), .int (iZ ot), .int (iZ sy), .int (iZ sh), .int (iZ wh)]) ++ List.replicate (8 - (lg_sl ([.ref (a 0), .int (iZ pe), .int (iZ ot), .int (iZ sy), .int (iZ sh), .int (iZ wh)])).length) Slot.unset).toArray = ls at hl ⊢
  replace hl : lv_has ls 8 [(0, .ref (a 0)), (1, .int (iZ pe)), (2, .int (iZ ot)), (3, .int (iZ sy)), (4, .int (iZ sh)), (5, .int (iZ wh))] := hl
  have hS : va_S (cA a) s.heap s.heap [] := va_S.rf
  obtain ⟨hto, hto4, hne, htx, hT, hM, hpa, hpi, hki, hsz, hsg, hby⟩ := id hI
  have hnt := hT.now
  have hnm := hM.now
  refine W.eq (g2 := F0 m 0 ls []) rfl ?_
  refine lv_aload_n hx hb dX7_odds_0 rfl (lv_at hl 0 rfl) ?_
  refine lv_iload_n hx hb dX7_odds_1 rfl (lv_at hl 1 rfl) ?_
  refine lv_iload_n hx hb dX7_odds_2 rfl (lv_at hl 2 rfl) ?_
  refine kq_ci (i := 0) (As := [.int (iZ pe), .int (iZ ot)]) (rest := []) ⟨hx, hb, hml, hown, hts⟩ hK hP hN hS (by decide) (cE_0 rfl) rfl (K_X7_areTwo l D C a b V pe ot hI (by omega) (by omega)) (cwV 2 hts gX7_odds_X7_areTwo rfl rfl rfl (by decide +kernel) ⟨Nat.le_of_ble_eq_true rfl, Nat.le_of_ble_eq_true rfl⟩) rfl rfl hl.1 (Nat.le_of_ble_eq_true rfl) ⟨Nat.le_of_ble_eq_true rfl, Nat.le_of_ble_eq_true rfl⟩ dX7_odds_3 ?_
  refine z_ifb_eq (P := ((0 ≤ pe ∧ pe < V (Int.toNat (V 0 3)) 7) ∧ (0 ≤ ot ∧ ot < V (Int.toNat (V 0 3)) 7) ∧ ¬ (pe = ot))) (tgt := 39) hx hb dX7_odds_6 (by decide) (fun c1 => ?_) (fun c1 => ?_)
  · refine lv_iconst (v := iZ (-1)) hx hb dX7_odds_39 (by decide) ?_
    exact mq_ret hx hb hr rfl (by unfold c_odds; first | exact (if_neg (by omega)).symm | (refine Eq.trans ?_ (if_pos (by omega)).symm; rw [← hup]; unfold c_wct; congr 1 <;> first | assumption | omega | rfl)) dX7_odds_40 hlocks rfl
  · refine lv_aload_n hx hb dX7_odds_9 rfl (lv_at hl 0 rfl) ?_
    refine kq_get (i := 0) hx hb hts hin_X7 hown hK hP (by decide) (cE_0 rfl) rfl 3 (by decide) (hts (.fieldLink RX7 29 "WordFletchers" "told" "LWordFletchers$Told;") (List.mem_cons_of_mem _ (List.mem_append_left _ (List.mem_append_left _ (List.mem_append_left _ (List.mem_append_left _ (List.mem_of_getElem? (i := 0) rfl))))))) rfl dX7_odds_10 ?_
    refine lv_iload_n hx hb dX7_odds_13 rfl (lv_at hl 3 rfl) ?_
    refine kq_ci (i := (Int.toNat (V 0 3))) (As := [.int (iZ sy)]) (rest := []) ⟨hx, hb, hml, hown, hts⟩ hK hP hN hS (isTo.l0 (by assumption)) (cE_15 (isTo.s0 (by assumption))) rfl (K_X6_hasSaying l D C a b V (Int.toNat (V 0 3)) (by assumption) sy (by omega) (by omega)) (cwV 1 hts gX7_odds_X6_hasSaying rfl rfl rfl (by decide +kernel) ⟨Nat.le_of_ble_eq_true rfl, Nat.le_of_ble_eq_true rfl⟩) rfl rfl hl.1 (Nat.le_of_ble_eq_true rfl) ⟨Nat.le_of_ble_eq_true rfl, Nat.le_of_ble_eq_true rfl⟩ dX7_odds_14 ?_
    refine z_ifb_eq (P := (0 ≤ sy ∧ sy < V (Int.toNat (V 0 3)) 8)) (tgt := 39) hx hb dX7_odds_17 (by decide) (fun c2 => ?_) (fun c2 => ?_)
    · refine W.eq (g2 := F0 m 39 ls []) rfl ?_
      refine lv_iconst (v := iZ (-1)) hx hb dX7_odds_39 (by decide) ?_
      exact mq_ret hx hb hr rfl (by unfold c_odds; first | exact (if_neg (by omega)).symm | (refine Eq.trans ?_ (if_pos (by omega)).symm; rw [← hup]; unfold c_wct; congr 1 <;> first | assumption | omega | rfl)) dX7_odds_40 hlocks rfl
    · refine lv_iload hx hb dX7_odds_20 (lv_at hl 4 rfl) ?_
      refine kq_cs (As := [.int (iZ sh)]) (rest := []) ⟨hx, hb, hml, hown, hts⟩ (K_X7_isShot l sh (by omega)) (va_cwS 1 hts gX7_odds_X7_isShot rfl rfl rfl (by decide +kernel) ⟨Nat.le_of_ble_eq_true rfl, Nat.le_of_ble_eq_true rfl⟩) rfl rfl hl.1 (Nat.le_of_ble_eq_true rfl) ⟨Nat.le_of_ble_eq_true rfl, Nat.le_of_ble_eq_true rfl⟩ dX7_odds_22 ?_
      refine z_ifb_eq (P := (0 ≤ sh ∧ sh / 100 ≤ 3 ∧ sh / 10 % 10 ≤ 3 ∧ sh % 10 ≤ 1)) (tgt := 39) hx hb dX7_odds_25 (by decide) (fun c3 => ?_) (fun c3 => ?_)
      · refine lv_iconst (v := iZ (-1)) hx hb dX7_odds_39 (by decide) ?_
        exact mq_ret hx hb hr rfl (by unfold c_odds; first | exact (if_neg (by omega)).symm | (refine Eq.trans ?_ (if_pos (by omega)).symm; rw [← hup]; unfold c_wct; congr 1 <;> first | assumption | omega | rfl)) dX7_odds_40 hlocks rfl
      · refine lv_iload hx hb dX7_odds_28 (lv_at hl 5 rfl) ?_
        refine z_if_lt (x := wh) (tgt := 39) hx hb (by omega) dX7_odds_30 (by decide) (fun c4 => ?_) (fun c4 => ?_)
        · refine lv_iconst (v := iZ (-1)) hx hb dX7_odds_39 (by decide) ?_
          exact mq_ret hx hb hr rfl (by unfold c_odds; first | exact (if_neg (by omega)).symm | (refine Eq.trans ?_ (if_pos (by omega)).symm; rw [← hup]; unfold c_wct; congr 1 <;> first | assumption | omega | rfl)) dX7_odds_40 hlocks rfl
        · refine lv_iload hx hb dX7_odds_33 (lv_at hl 5 rfl) ?_
          refine W.eq (g2 := F0 m 35 ls [.int (iZ wh)]) rfl ?_
          refine lv_iconst (v := iZ 1) hx hb dX7_odds_35 (by decide) ?_
          refine z_icmp_le (x := wh) (y := 1) (tgt := 41) hx hb (by omega) (by omega) dX7_odds_36 (by decide) (fun c5 => ?_) (fun c5 => ?_)
          · refine lv_iconst (v := iZ 0) hx hb dX7_odds_41 (by decide) ?_
            refine lv_istore (lv' := [(6, .int (iZ 0)), (0, .ref (a 0)), (1, .int (iZ pe)), (2, .int (iZ ot)), (3, .int (iZ sy)), (4, .int (iZ sh)), (5, .int (iZ wh))]) hx hb dX7_odds_42 hl (by decide) rfl (fun ls hl => ?_)
            refine lv_iconst (v := iZ 0) hx hb dX7_odds_44 (by decide) ?_
            refine lv_istore (lv' := [(7, .int (iZ 0)), (6, .int (iZ 0)), (0, .ref (a 0)), (1, .int (iZ pe)), (2, .int (iZ ot)), (3, .int (iZ sy)), (4, .int (iZ sh)), (5, .int (iZ wh))]) hx hb dX7_odds_45 hl (by decide) rfl (fun ls hl => ?_)
            replace hl : lv_has ls 8 [(7, .int (iZ (0 : Int))), (6, .int (iZ (0 : Int))), (0, .ref (a 0)), (1, .int (iZ pe)), (2, .int (iZ ot)), (3, .int (iZ sy)), (4, .int (iZ sh)), (5, .int (iZ wh))] := lv_sub hl [0, 1, 2, 3, 4, 5, 6, 7] rfl
            revert ls
            refine z_loop (σ := Int × Int) (fun x9 => (0 ≤ x9.2 ∧ x9.2 ≤ (if 1 < V (Int.toNat (V 0 3)) 9 then V (Int.toNat (V 0 3)) 9 else 1)) ∧ (x9.1 = c_odN V pe ot sy sh (Int.toNat x9.2))) (fun x9 => [(7, .int (iZ (x9.2))), (6, .int (iZ (x9.1))), (0, .ref (a 0)), (1, .int (iZ pe)), (2, .int (iZ ot)), (3, .int (iZ sy)), (4, .int (iZ sh)), (5, .int (iZ wh))]) 8 (fun x9 => ((if 1 < V (Int.toNat (V 0 3)) 9 then V (Int.toNat (V 0 3)) 9 else 1) - x9.2).toNat) ((0 : Int), (0 : Int)) ⟨(by show 0 ≤ (0 : Int) ∧ (0 : Int) ≤ (if 1 < V (Int.toNat (V 0 3)) 9 then V (Int.toNat (V 0 3)) 9 else 1); omega), (by show (0 : Int) = c_odN V pe ot sy sh (Int.toNat (0 : Int)); rfl)⟩ ?_
            rintro ⟨up, kk⟩ hI9 ih47 ls hl
            obtain ⟨i1, i2⟩ := hI9
            replace i1 : 0 ≤ kk ∧ kk ≤ (if 1 < V (Int.toNat (V 0 3)) 9 then V (Int.toNat (V 0 3)) 9 else 1) := i1
            replace i2 : up = c_odN V pe ot sy sh (Int.toNat kk) := i2
            replace hl : lv_has ls 8 [(7, .int (iZ kk)), (6, .int (iZ up)), (0, .ref (a 0)), (1, .int (iZ pe)), (2, .int (iZ ot)), (3, .int (iZ sy)), (4, .int (iZ sh)), (5, .int (iZ wh))] := hl
            have hob := c_odN_bd V pe ot sy sh (Int.toNat kk)
            refine lv_iload hx hb dX7_odds_47 (lv_at hl 0 rfl) ?_
            refine lv_aload_n hx hb dX7_odds_49 rfl (lv_at hl 2 rfl) ?_
            refine kq_get (i := 0) hx hb hts hin_X7 hown hK hP (by decide) (cE_0 rfl) rfl 3 (by decide) (hts (.fieldLink RX7 29 "WordFletchers" "told" "LWordFletchers$Told;") (List.mem_cons_of_mem _ (List.mem_append_left _ (List.mem_append_left _ (List.mem_append_left _ (List.mem_append_left _ (List.mem_of_getElem? (i := 0) rfl))))))) rfl dX7_odds_50 ?_
            refine kq_ci (i := (Int.toNat (V 0 3))) (As := []) (rest := [.int (iZ kk)]) ⟨hx, hb, hml, hown, hts⟩ hK hP hN hS (isTo.l0 (by assumption)) (cE_15 (isTo.s0 (by assumption))) rfl (K_X6_windCount l D C a b V (Int.toNat (V 0 3)) (by assumption) (by omega)) (cwV 0 hts gX7_odds_X6_windCount rfl rfl rfl (by decide +kernel) ⟨Nat.le_of_ble_eq_true rfl, Nat.le_of_ble_eq_true rfl⟩) rfl rfl hl.1 (Nat.le_of_ble_eq_true rfl) ⟨Nat.le_of_ble_eq_true rfl, Nat.le_of_ble_eq_true rfl⟩ dX7_odds_53 ?_
            refine z_icmp_ge (x := kk) (y := if 1 < V (Int.toNat (V 0 3)) 9 then V (Int.toNat (V 0 3)) 9 else 1) (tgt := 107) hx hb (by omega) (by omega) dX7_odds_56 (by decide) (fun c6 => ?_) (fun c6 => ?_)
            · have hkk : kk = (if 1 < V (Int.toNat (V 0 3)) 9 then V (Int.toNat (V 0 3)) 9 else 1) := by omega
              have hup : up = c_od V pe ot sy sh := by rw [i2, hkk]; rfl
              refine lv_iconst (v := iZ 1) hx hb dX7_odds_107 (by decide) ?_
              refine W.eq (g2 := F0 m 108 ls [.int (iZ 1)]) rfl ?_
              refine lv_iload hx hb dX7_odds_108 (lv_at hl 1 rfl) ?_
              refine lv_aload_n hx hb dX7_odds_110 rfl (lv_at hl 2 rfl) ?_
              refine kq_get (i := 0) hx hb hts hin_X7 hown hK hP (by decide) (cE_0 rfl) rfl 3 (by decide) (hts (.fieldLink RX7 29 "WordFletchers" "told" "LWordFletchers$Told;") (List.mem_cons_of_mem _ (List.mem_append_left _ (List.mem_append_left _ (List.mem_append_left _ (List.mem_append_left _ (List.mem_of_getElem? (i := 0) rfl))))))) rfl dX7_odds_111 ?_
              refine kq_ci (i := (Int.toNat (V 0 3))) (As := []) (rest := [.int (iZ up), .int (iZ 1)]) ⟨hx, hb, hml, hown, hts⟩ hK hP hN hS (isTo.l0 (by assumption)) (cE_15 (isTo.s0 (by assumption))) rfl (K_X6_windCount l D C a b V (Int.toNat (V 0 3)) (by assumption) (by omega)) (cwV 0 hts gX7_odds_X6_windCount rfl rfl rfl (by decide +kernel) ⟨Nat.le_of_ble_eq_true rfl, Nat.le_of_ble_eq_true rfl⟩) rfl rfl hl.1 (Nat.le_of_ble_eq_true rfl) ⟨Nat.le_of_ble_eq_true rfl, Nat.le_of_ble_eq_true rfl⟩ dX7_odds_114 ?_
              refine kq_cs (As := [.int (iZ up), .int (iZ (if 1 < V (Int.toNat (V 0 3)) 9 then V (Int.toNat (V 0 3)) 9 else 1))]) (rest := [.int (iZ 1)]) ⟨hx, hb, hml, hown, hts⟩ (K_X7_commonDivisor l up (if 1 < V (Int.toNat (V 0 3)) 9 then V (Int.toNat (V 0 3)) 9 else 1) (by omega) (by omega)) (va_cwS 2 hts gX7_odds_X7_commonDivisor rfl rfl rfl (by decide +kernel) ⟨Nat.le_of_ble_eq_true rfl, Nat.le_of_ble_eq_true rfl⟩) rfl rfl hl.1 (Nat.le_of_ble_eq_true rfl) ⟨Nat.le_of_ble_eq_true rfl, Nat.le_of_ble_eq_true rfl⟩ dX7_odds_117 ?_
              have hgc := c_gcd_bd6 up (if 1 < V (Int.toNat (V 0 3)) 9 then V (Int.toNat (V 0 3)) 9 else 1) (by omega) (by omega)
              refine kq_max (x := 1) (y := c_gcd up (if 1 < V (Int.toNat (V 0 3)) 9 then V (Int.toNat (V 0 3)) 9 else 1)) hx hb (hml.trans hl.1.symm) hown (hts (.methodLink RX7 248 Lib.Math.max.name) (List.mem_cons_of_mem _ (List.mem_append_left _ (List.mem_append_left _ (List.mem_append_left _ (List.mem_append_left _ (List.mem_of_getElem? (i := 4) rfl))))))) (hts (.static Lib.Math.max.name) (List.mem_cons_of_mem _ (List.mem_append_left _ (List.mem_append_left _ (List.mem_append_left _ (List.mem_append_left _ (List.mem_of_getElem? (i := 5) rfl))))))) (hts (.initialized "java/lang/Math") (List.mem_cons_of_mem _ (List.mem_append_left _ (List.mem_append_left _ (List.mem_append_left _ (List.mem_append_left _ (List.mem_of_getElem? (i := 6) rfl))))))) (hts (.code Lib.Math.max.name Lib.Math.max.code 2 (some .int)) (List.mem_cons_of_mem _ (List.mem_append_left _ (List.mem_append_left _ (List.mem_append_left _ (List.mem_append_left _ (List.mem_of_getElem? (i := 7) rfl))))))) (Nat.le_of_ble_eq_true rfl) (Nat.le_of_ble_eq_true rfl) (Nat.le_of_ble_eq_true rfl) (Nat.le_of_ble_eq_true rfl) (by omega) (by omega) dX7_odds_120 ?_
              refine lv_istore (lv' := [(7, .int (iZ (if 1 < (c_gcd up (if 1 < V (Int.toNat (V 0 3)) 9 then V (Int.toNat (V 0 3)) 9 else 1)) then (c_gcd up (if 1 < V (Int.toNat (V 0 3)) 9 then V (Int.toNat (V 0 3)) 9 else 1)) else 1))), (6, .int (iZ up)), (0, .ref (a 0)), (1, .int (iZ pe)), (2, .int (iZ ot)), (3, .int (iZ sy)), (4, .int (iZ sh)), (5, .int (iZ wh))]) hx hb dX7_odds_123 hl (by decide) rfl (fun ls hl => ?_)
              refine lv_iload hx hb dX7_odds_125 (lv_at hl 7 rfl) ?_
              have K10 : ∀ (v9 : Int), (v9 = (if wh = 0 then up else if 1 < V (Int.toNat (V 0 3)) 9 then V (Int.toNat (V 0 3)) 9 else 1)) → ∀ ls : Array Slot, lv_has ls 8 [(7, .int (iZ (if 1 < (c_gcd up (if 1 < V (Int.toNat (V 0 3)) 9 then V (Int.toNat (V 0 3)) 9 else 1)) then (c_gcd up (if 1 < V (Int.toNat (V 0 3)) 9 then V (Int.toNat (V 0 3)) 9 else 1)) else 1)))] → W p l e ((headSpec wsX7_odds ({ frames := 3, cells := 0, slots := 0, locals := 81 })).room) s m (([.ref (a 0), .int (iZ pe), .int (iZ ot), .int (iZ sy), .int (iZ sh), .int (iZ wh)] : List Value).toArray) below meth c s.heap [] 0 0 (MQ below (vp_Si (fun r => r = iZ (c_odds V pe ot sy sh wh))) (([.ref (a 0), .int (iZ pe), .int (iZ ot), .int (iZ sy), .int (iZ sh), .int (iZ wh)] : List Value).toArray) s 0 0 (fun _ => False)) (F0 m 142 ls [.int (iZ v9)]) := by
                intro v9 hv9 ls hl
                refine lv_iload hx hb dX7_odds_142 (lv_at hl 0 rfl) ?_
                refine z_idiv hx hb (by omega) (by omega) dX7_odds_144 ?_
                exact mq_ret hx hb hr rfl (by unfold c_odds; first | exact (if_neg (by omega)).symm | (refine Eq.trans ?_ (if_pos (by omega)).symm; rw [← hup]; unfold c_wct; congr 1 <;> first | assumption | omega | rfl)) dX7_odds_145 hlocks rfl
              refine z_if_ne (x := wh) (tgt := 135) hx hb (by omega) dX7_odds_127 (by decide) (fun c8 => ?_) (fun c8 => ?_)
              · refine lv_aload_n hx hb dX7_odds_135 rfl (lv_at hl 2 rfl) ?_
                refine kq_get (i := 0) hx hb hts hin_X7 hown hK hP (by decide) (cE_0 rfl) rfl 3 (by decide) (hts (.fieldLink RX7 29 "WordFletchers" "told" "LWordFletchers$Told;") (List.mem_cons_of_mem _ (List.mem_append_left _ (List.mem_append_left _ (List.mem_append_left _ (List.mem_append_left _ (List.mem_of_getElem? (i := 0) rfl))))))) rfl dX7_odds_136 ?_
                refine kq_ci (i := (Int.toNat (V 0 3))) (As := []) (rest := []) ⟨hx, hb, hml, hown, hts⟩ hK hP hN hS (isTo.l0 (by assumption)) (cE_15 (isTo.s0 (by assumption))) rfl (K_X6_windCount l D C a b V (Int.toNat (V 0 3)) (by assumption) (by omega)) (cwV 0 hts gX7_odds_X6_windCount rfl rfl rfl (by decide +kernel) ⟨Nat.le_of_ble_eq_true rfl, Nat.le_of_ble_eq_true rfl⟩) rfl rfl hl.1 (Nat.le_of_ble_eq_true rfl) ⟨Nat.le_of_ble_eq_true rfl, Nat.le_of_ble_eq_true rfl⟩ dX7_odds_139 ?_
                exact K10 (if 1 < V (Int.toNat (V 0 3)) 9 then V (Int.toNat (V 0 3)) 9 else 1) (by first | rfl | (rw [if_neg c8]; done) | omega | (subst_vars; first | rfl | (rw [if_neg c8]; done) | omega)) ls (lv_sub hl [0] rfl)
              · refine W.eq (g2 := F0 m 130 ls []) rfl ?_
                refine lv_iload hx hb dX7_odds_130 (lv_at hl 1 rfl) ?_
                refine lv_goto (tgt := 142) hx hb dX7_odds_132 (by decide) ?_
                exact K10 up (by first | rfl | (rw [if_pos c8]; done) | omega | (subst_vars; first | rfl | (rw [if_pos c8]; done) | omega)) ls (lv_sub hl [0] rfl)
            · refine lv_aload_n hx hb dX7_odds_59 rfl (lv_at hl 2 rfl) ?_
              refine kq_get (i := 0) hx hb hts hin_X7 hown hK hP (by decide) (cE_0 rfl) rfl 3 (by decide) (hts (.fieldLink RX7 29 "WordFletchers" "told" "LWordFletchers$Told;") (List.mem_cons_of_mem _ (List.mem_append_left _ (List.mem_append_left _ (List.mem_append_left _ (List.mem_append_left _ (List.mem_of_getElem? (i := 0) rfl))))))) rfl dX7_odds_60 ?_
              refine lv_iload_n hx hb dX7_odds_63 rfl (lv_at hl 4 rfl) ?_
              refine lv_aload_n hx hb dX7_odds_64 rfl (lv_at hl 2 rfl) ?_
              refine kq_get (i := 0) hx hb hts hin_X7 hown hK hP (by decide) (cE_0 rfl) rfl 3 (by decide) (hts (.fieldLink RX7 29 "WordFletchers" "told" "LWordFletchers$Told;") (List.mem_cons_of_mem _ (List.mem_append_left _ (List.mem_append_left _ (List.mem_append_left _ (List.mem_append_left _ (List.mem_of_getElem? (i := 0) rfl))))))) rfl dX7_odds_65 ?_
              refine lv_iload_n hx hb dX7_odds_68 rfl (lv_at hl 3 rfl) ?_
              refine lv_iload_n hx hb dX7_odds_69 rfl (lv_at hl 5 rfl) ?_
              refine W.eq (g2 := F0 m 70 ls [.int (iZ sy), .int (iZ pe), .ref (a (Int.toNat (V 0 3))), .int (iZ ot), .ref (a (Int.toNat (V 0 3)))]) rfl ?_
              refine lv_iload hx hb dX7_odds_70 (lv_at hl 6 rfl) ?_
              refine lv_aload_n hx hb dX7_odds_72 rfl (lv_at hl 2 rfl) ?_
              refine kq_get (i := 0) hx hb hts hin_X7 hown hK hP (by decide) (cE_0 rfl) rfl 3 (by decide) (hts (.fieldLink RX7 29 "WordFletchers" "told" "LWordFletchers$Told;") (List.mem_cons_of_mem _ (List.mem_append_left _ (List.mem_append_left _ (List.mem_append_left _ (List.mem_append_left _ (List.mem_of_getElem? (i := 0) rfl))))))) rfl dX7_odds_73 ?_
              refine kq_get (i := (Int.toNat (V 0 3))) hx hb hts hin_X6 hown hK hP (isTo.l0 (by assumption)) (cE_15 (isTo.s0 (by assumption))) rfl 5 (by decide) (hts (.fieldLink RX7 242 "WordFletchers$Told" "winds" "[I") (List.mem_cons_of_mem _ (List.mem_append_left _ (List.mem_append_left _ (List.mem_append_left _ (List.mem_append_left _ (List.mem_of_getElem? (i := 1) rfl))))))) rfl dX7_odds_76 ?_
              refine lv_iload hx hb dX7_odds_79 (lv_at hl 0 rfl) ?_
              refine kq_iald (i := ((Int.toNat (V 0 3)) + 6)) hx hb hK hP (isTo.l6 (by assumption)) (n := 6) (cE_21 (isTo.s6 (by assumption))) (by decide) (Int.toNat kk) rfl (by omega) dX7_odds_81 ?_
              have hw9 := hT.wi (k := kk) ⟨by omega, by omega⟩
              refine lv_aload_n hx hb dX7_odds_82 rfl (lv_at hl 2 rfl) ?_
              refine kq_get (i := 0) hx hb hts hin_X7 hown hK hP (by decide) (cE_0 rfl) rfl 5 (by decide) (hts (.fieldLink RX7 39 "WordFletchers" "moment" "LWordFletchers$Moment;") (List.mem_cons_of_mem _ (List.mem_append_left _ (List.mem_append_left _ (List.mem_append_left _ (List.mem_append_left _ (List.mem_of_getElem? (i := 2) rfl))))))) rfl dX7_odds_83 ?_
              refine kq_get (i := 39) hx hb hts hin_X2 hown hK hP (isMo.l0 isMo_39) (cE_26 (isMo.s0 isMo_39)) rfl 1 (by decide) (hts (.fieldLink RX7 177 "WordFletchers$Moment" "damp" "I") (List.mem_cons_of_mem _ (List.mem_append_left _ (List.mem_append_left _ (List.mem_append_left _ (List.mem_append_left _ (List.mem_of_getElem? (i := 3) rfl))))))) rfl dX7_odds_86 ?_
              refine kq_ci (i := (Int.toNat (V 0 3))) (As := [.int (iZ pe), .int (iZ sy), .int (iZ sh), .int (iZ (V ((Int.toNat (V 0 3)) + 6) (Int.toNat kk))), .int (iZ (V 39 1))]) (rest := [.int (iZ ot), .ref (a (Int.toNat (V 0 3)))]) ⟨hx, hb, hml, hown, hts⟩ hK hP hN hS (isTo.l0 (by assumption)) (cE_15 (isTo.s0 (by assumption))) rfl (K_X6_landing l D C a b V (Int.toNat (V 0 3)) (by assumption) pe sy sh (V ((Int.toNat (V 0 3)) + 6) (Int.toNat kk)) (V 39 1) (by assumption) (by omega) (by omega) (by omega) (by omega) (by omega) (by omega)) (cwV 5 hts gX7_odds_X6_landing rfl rfl rfl (by decide +kernel) ⟨Nat.le_of_ble_eq_true rfl, Nat.le_of_ble_eq_true rfl⟩) rfl rfl hl.1 (Nat.le_of_ble_eq_true rfl) ⟨Nat.le_of_ble_eq_true rfl, Nat.le_of_ble_eq_true rfl⟩ dX7_odds_89 ?_
              have hld := s_land_bd (V ((Int.toNat (V 0 3)) + 1) (Int.toNat pe)) (V ((Int.toNat (V 0 3)) + 4) (Int.toNat sy)) (V ((Int.toNat (V 0 3)) + 3) (Int.toNat sy)) (V 39 1) (sh / 100) (sh / 10 % 10) (sh % 10) (V ((Int.toNat (V 0 3)) + 6) (Int.toNat kk))
              refine kq_ci (i := (Int.toNat (V 0 3))) (As := [.int (iZ ot), .int (iZ (s_land (V ((Int.toNat (V 0 3)) + 1) (Int.toNat pe)) (V ((Int.toNat (V 0 3)) + 4) (Int.toNat sy)) (V ((Int.toNat (V 0 3)) + 3) (Int.toNat sy)) (V 39 1) (sh / 100) (sh / 10 % 10) (sh % 10) (V ((Int.toNat (V 0 3)) + 6) (Int.toNat kk))))]) (rest := []) ⟨hx, hb, hml, hown, hts⟩ hK hP hN hS (isTo.l0 (by assumption)) (cE_15 (isTo.s0 (by assumption))) rfl (K_X6_hears l D C a b V (Int.toNat (V 0 3)) (by assumption) ot (s_land (V ((Int.toNat (V 0 3)) + 1) (Int.toNat pe)) (V ((Int.toNat (V 0 3)) + 4) (Int.toNat sy)) (V ((Int.toNat (V 0 3)) + 3) (Int.toNat sy)) (V 39 1) (sh / 100) (sh / 10 % 10) (sh % 10) (V ((Int.toNat (V 0 3)) + 6) (Int.toNat kk))) (by assumption) (by omega) (by omega)) (cwV 2 hts gX7_odds_X6_hears rfl rfl rfl (by decide +kernel) ⟨Nat.le_of_ble_eq_true rfl, Nat.le_of_ble_eq_true rfl⟩) rfl rfl hl.1 (Nat.le_of_ble_eq_true rfl) ⟨Nat.le_of_ble_eq_true rfl, Nat.le_of_ble_eq_true rfl⟩ dX7_odds_92 ?_
              refine z_ifb_eq (P := (s_hear (V ((Int.toNat (V 0 3)) + 1) (Int.toNat ot)) (V ((Int.toNat (V 0 3)) + 2) (Int.toNat ot)) (s_land (V ((Int.toNat (V 0 3)) + 1) (Int.toNat pe)) (V ((Int.toNat (V 0 3)) + 4) (Int.toNat sy)) (V ((Int.toNat (V 0 3)) + 3) (Int.toNat sy)) (V 39 1) (sh / 100) (sh / 10 % 10) (sh % 10) (V ((Int.toNat (V 0 3)) + 6) (Int.toNat kk))))) (tgt := 101) hx hb dX7_odds_95 (by decide) (fun c11 => ?_) (fun c11 => ?_)
              · refine W.eq (g2 := F0 m 101 ls []) rfl ?_
                refine lv_iinc (v := iZ (kk + 1)) (lv' := [(7, .int (iZ (kk + 1))), (6, .int (iZ up)), (0, .ref (a 0)), (1, .int (iZ pe)), (2, .int (iZ ot)), (3, .int (iZ sy)), (4, .int (iZ sh)), (5, .int (iZ wh))]) hx hb dX7_odds_101 hl (k := 0) rfl (iZ_add _ _) (by decide) rfl (fun ls hl => ?_)
                refine lv_goto (tgt := 47) hx hb dX7_odds_104 (by decide) ?_
                exact ih47 (up, (kk + 1)) ⟨(by show 0 ≤ (kk + 1) ∧ (kk + 1) ≤ (if 1 < V (Int.toNat (V 0 3)) 9 then V (Int.toNat (V 0 3)) 9 else 1); omega), (by show up = c_odN V pe ot sy sh (Int.toNat (kk + 1)); rw [c_odN_succ _ _ _ _ _ i1.1, ← i2]; first | (rw [if_pos (by assumption)]; done) | (rw [if_neg (by assumption)]; done))⟩ (by show ((if 1 < V (Int.toNat (V 0 3)) 9 then V (Int.toNat (V 0 3)) 9 else 1) - (kk + 1)).toNat < ((if 1 < V (Int.toNat (V 0 3)) 9 then V (Int.toNat (V 0 3)) 9 else 1) - kk).toNat; omega) ls (lv_sub hl [0, 1, 2, 3, 4, 5, 6, 7] rfl)
              · refine lv_iinc (v := iZ (up + 1)) (lv' := [(6, .int (iZ (up + 1))), (7, .int (iZ kk)), (0, .ref (a 0)), (1, .int (iZ pe)), (2, .int (iZ ot)), (3, .int (iZ sy)), (4, .int (iZ sh)), (5, .int (iZ wh))]) hx hb dX7_odds_98 hl (k := 1) rfl (iZ_add _ _) (by decide) rfl (fun ls hl => ?_)
                refine lv_iinc (v := iZ (kk + 1)) (lv' := [(7, .int (iZ (kk + 1))), (6, .int (iZ (up + 1))), (0, .ref (a 0)), (1, .int (iZ pe)), (2, .int (iZ ot)), (3, .int (iZ sy)), (4, .int (iZ sh)), (5, .int (iZ wh))]) hx hb dX7_odds_101 hl (k := 1) rfl (iZ_add _ _) (by decide) rfl (fun ls hl => ?_)
                refine lv_goto (tgt := 47) hx hb dX7_odds_104 (by decide) ?_
                exact ih47 ((up + 1), (kk + 1)) ⟨(by show 0 ≤ (kk + 1) ∧ (kk + 1) ≤ (if 1 < V (Int.toNat (V 0 3)) 9 then V (Int.toNat (V 0 3)) 9 else 1); omega), (by show (up + 1) = c_odN V pe ot sy sh (Int.toNat (kk + 1)); rw [c_odN_succ _ _ _ _ _ i1.1, ← i2]; first | (rw [if_pos (by assumption)]; done) | (rw [if_neg (by assumption)]; done))⟩ (by show ((if 1 < V (Int.toNat (V 0 3)) 9 then V (Int.toNat (V 0 3)) 9 else 1) - (kk + 1)).toNat < ((if 1 < V (Int.toNat (V 0 3)) 9 then V (Int.toNat (V 0 3)) 9 else 1) - kk).toNat; omega) ls (lv_sub hl [0, 1, 2, 3, 4, 5, 6, 7] rfl)
          · refine lv_iconst (v := iZ (-1)) hx hb dX7_odds_39 (by decide) ?_
            exact mq_ret hx hb hr rfl (by unfold c_odds; first | exact (if_neg (by omega)).symm | (refine Eq.trans ?_ (if_pos (by omega)).symm; rw [← hup]; unfold c_wct; congr 1 <;> first | assumption | omega | rfl)) dX7_odds_40 hlocks rfl
set_option maxHeartbeats 4000000 in
set_option maxRecDepth 100000 in
theorem K_X7_canBeAllSeen (l : Launch) (D : va_G) (C : cC) (a b : Nat → Nat) (V : Nat → Nat → Int) (pe : Int) (hI : cI V) (h1 : 0 ≤ pe ∧ pe < V (Int.toNat (V 0 3)) 7) : Met l yX7_canBeAllSeen wsX7_canBeAllSeen ({ frames := 4, cells := 0, slots := 0, locals := 111 }) (va_Pc [.ref (a 0), .int (iZ pe)] (cOk D C a b V)) (vp_Si (fun r => r = iZ (if c_cbN V pe (Int.toNat (V 4 4)) then 1 else 0))) 0 0 (fun _ => False) := by
  refine Met.ofW (cc := cX7_canBeAllSeen) (maxL := 5) (ret := (some .boolean)) (by decide) rfl ?_
  intro p e s m args below meth c s₁ B hml hv
  obtain ⟨rfl, hP, hK, hN⟩ := hv
  have hx := B.exec
  have hb := B.bytes
  have hr := B.returns
  have hts := atoms_spec (ws := wsX7_canBeAllSeen) B.pre
  have hown : s.vm.findClass RX7 = some m.cls := findClass_of_methodNamed B.named
  have hlocks := B.notSynchronized
  have hin_X7 : ∀ w ∈ wsX70, w ∈ wsX7_canBeAllSeen := fun _ w_h => (List.mem_cons_of_mem _ (List.mem_append_left _ (List.mem_append_left _ (List.mem_append_right _ w_h))))
  have hin_X4 : ∀ w ∈ wsX40, w ∈ wsX7_canBeAllSeen := fun _ w_h => (List.mem_cons_of_mem _ (List.mem_append_left _ (List.mem_append_right _ w_h)))
  have hin_X6 : ∀ w ∈ wsX60, w ∈ wsX7_canBeAllSeen := fun _ w_h => (List.mem_cons_of_mem _ (List.mem_append_right _ w_h))
  have hl := lv_entry ([.ref (a 0), .int (iZ pe)]) (n := 5) (Nat.le_of_ble_eq_true rfl)
  rw [lg_entry_eq]
  generalize (lg_sl ([.ref (a 0), .int (iZ pe)]) ++ List.replicate (5 - (lg_sl ([.ref (a 0), .int (iZ pe)])).length) Slot.unset).toArray = ls at hl ⊢
  replace hl : lv_has ls 5 [(0, .ref (a 0)), (1, .int (iZ pe))] := hl
  have hS : va_S (cA a) s.heap s.heap [] := va_S.rf
  obtain ⟨hto, hto4, hne, htx, hT, hM, hpa, hpi, hki, hsz, hsg, hby⟩ := id hI
  have hnt := hT.now
  have hnm := hM.now
  refine lv_iconst (v := iZ 0) hx hb dX7_canBeAllSeen_0 (by decide) ?_
  refine lv_istore_n (lv' := [(2, .int (iZ 0)), (0, .ref (a 0)), (1, .int (iZ pe))]) hx hb dX7_canBeAllSeen_1 rfl hl (by decide) rfl (fun ls hl => ?_)
  replace hl : lv_has ls 5 [(2, .int (iZ (0 : Int))), (0, .ref (a 0)), (1, .int (iZ pe))] := lv_sub hl [0, 1, 2] rfl
  revert ls
  refine z_loop (σ := Int) (fun x9 => (0 ≤ x9 ∧ x9 ≤ V 4 4) ∧ (c_cbN V pe (Int.toNat x9) = true)) (fun x9 => [(2, .int (iZ x9)), (0, .ref (a 0)), (1, .int (iZ pe))]) 5 (fun x9 => (V 4 4 - x9).toNat) (0 : Int) ⟨(by show 0 ≤ (0 : Int) ∧ (0 : Int) ≤ V 4 4; omega), (by show c_cbN V pe (Int.toNat (0 : Int)) = true; rfl)⟩ ?_
  rintro kk hI9 ih2 ls hl
  obtain ⟨i1, i2⟩ := hI9
  replace i1 : 0 ≤ kk ∧ kk ≤ V 4 4 := i1
  replace i2 : c_cbN V pe (Int.toNat kk) = true := i2
  replace hl : lv_has ls 5 [(2, .int (iZ kk)), (0, .ref (a 0)), (1, .int (iZ pe))] := hl
  have hsk := fun h9 : kk < V 4 4 => hsg (Int.toNat kk) (by omega)
  refine lv_iload_n hx hb dX7_canBeAllSeen_2 rfl (lv_at hl 0 rfl) ?_
  refine lv_aload_n hx hb dX7_canBeAllSeen_3 rfl (lv_at hl 1 rfl) ?_
  refine kq_get (i := 0) hx hb hts hin_X7 hown hK hP (by decide) (cE_0 rfl) rfl 8 (by decide) (hts (.fieldLink RX7 59 "WordFletchers" "sightings" "LWordFletchers$Sightings;") (List.mem_cons_of_mem _ (List.mem_append_left _ (List.mem_append_left _ (List.mem_append_left _ (List.mem_append_left _ (List.mem_of_getElem? (i := 0) rfl))))))) rfl dX7_canBeAllSeen_4 ?_
  refine W.eq (g2 := F0 m 7 ls [.ref (a 4), .int (iZ kk)]) rfl ?_
  refine kq_get (i := 4) hx hb hts hin_X4 hown hK hP (by decide) (cE_4 rfl) rfl 4 (by decide) (hts (.fieldLink RX7 251 "WordFletchers$Sightings" "size" "I") (List.mem_cons_of_mem _ (List.mem_append_left _ (List.mem_append_left _ (List.mem_append_left _ (List.mem_append_left _ (List.mem_of_getElem? (i := 1) rfl))))))) rfl dX7_canBeAllSeen_7 ?_
  refine z_icmp_ge (x := kk) (y := (V 4 4)) (tgt := 77) hx hb (by omega) (by omega) dX7_canBeAllSeen_10 (by decide) (fun c1 => ?_) (fun c1 => ?_)
  · refine lv_iconst (v := iZ 1) hx hb dX7_canBeAllSeen_77 (by decide) ?_
    exact mq_ret hx hb hr (z_nbool (by first | omega | (split <;> omega))) (by first | (have q : kk = V 4 4 := (by omega); rw [← q, i2]; rfl) | (rw [c_cbN_no V pe i1.1 (by omega) (by assumption)]; rfl)) dX7_canBeAllSeen_78 hlocks rfl
  · refine lv_aload_n hx hb dX7_canBeAllSeen_13 rfl (lv_at hl 1 rfl) ?_
    refine kq_get (i := 0) hx hb hts hin_X7 hown hK hP (by decide) (cE_0 rfl) rfl 8 (by decide) (hts (.fieldLink RX7 59 "WordFletchers" "sightings" "LWordFletchers$Sightings;") (List.mem_cons_of_mem _ (List.mem_append_left _ (List.mem_append_left _ (List.mem_append_left _ (List.mem_append_left _ (List.mem_of_getElem? (i := 0) rfl))))))) rfl dX7_canBeAllSeen_14 ?_
    refine kq_get (i := 4) hx hb hts hin_X4 hown hK hP (by decide) (cE_4 rfl) rfl 0 (by decide) (hts (.fieldLink RX7 326 "WordFletchers$Sightings" "saying" "[I") (List.mem_cons_of_mem _ (List.mem_append_left _ (List.mem_append_left _ (List.mem_append_left _ (List.mem_append_left _ (List.mem_of_getElem? (i := 2) rfl))))))) rfl dX7_canBeAllSeen_17 ?_
    refine lv_iload_n hx hb dX7_canBeAllSeen_20 rfl (lv_at hl 0 rfl) ?_
    refine kq_iald (i := 5) hx hb hK hP (by decide) (n := 4) (cE_5 rfl) (by decide) (Int.toNat kk) rfl (by omega) dX7_canBeAllSeen_21 ?_
    have hsk9 := hsk (by omega)
    have hlg := s_lgN_lt (fun sh => s_land (V (Int.toNat (V 0 3) + 1) (Int.toNat pe)) (V (Int.toNat (V 0 3) + 4) (Int.toNat (V 5 (Int.toNat kk)))) (V (Int.toNat (V 0 3) + 3) (Int.toNat (V 5 (Int.toNat kk)))) (V 8 (Int.toNat kk)) (sh / 100) (sh / 10 % 10) (sh % 10) (V 7 (Int.toNat kk))) (fun sh => by have := s_land_bd (V (Int.toNat (V 0 3) + 1) (Int.toNat pe)) (V (Int.toNat (V 0 3) + 4) (Int.toNat (V 5 (Int.toNat kk)))) (V (Int.toNat (V 0 3) + 3) (Int.toNat (V 5 (Int.toNat kk)))) (V 8 (Int.toNat kk)) (sh / 100) (sh / 10 % 10) (sh % 10) (V 7 (Int.toNat kk)); have := s_land_or (V (Int.toNat (V 0 3) + 1) (Int.toNat pe)) (V (Int.toNat (V 0 3) + 4) (Int.toNat (V 5 (Int.toNat kk)))) (V (Int.toNat (V 0 3) + 3) (Int.toNat (V 5 (Int.toNat kk)))) (V 8 (Int.toNat kk)) (sh / 100) (sh / 10 % 10) (sh % 10) (V 7 (Int.toNat kk)); omega) 26
    refine lv_istore_n (lv' := [(3, .int (iZ (V 5 (Int.toNat kk)))), (2, .int (iZ kk)), (0, .ref (a 0)), (1, .int (iZ pe))]) hx hb dX7_canBeAllSeen_22 rfl hl (by decide) rfl (fun ls hl => ?_)
    refine lv_aload_n hx hb dX7_canBeAllSeen_23 rfl (lv_at hl 2 rfl) ?_
    refine kq_get (i := 0) hx hb hts hin_X7 hown hK hP (by decide) (cE_0 rfl) rfl 3 (by decide) (hts (.fieldLink RX7 29 "WordFletchers" "told" "LWordFletchers$Told;") (List.mem_cons_of_mem _ (List.mem_append_left _ (List.mem_append_left _ (List.mem_append_left _ (List.mem_append_left _ (List.mem_of_getElem? (i := 3) rfl))))))) rfl dX7_canBeAllSeen_24 ?_
    refine W.eq (g2 := F0 m 27 ls [.ref (a (Int.toNat (V 0 3)))]) rfl ?_
    refine lv_iload_n hx hb dX7_canBeAllSeen_27 rfl (lv_at hl 3 rfl) ?_
    refine lv_iload_n hx hb dX7_canBeAllSeen_28 rfl (lv_at hl 0 rfl) ?_
    refine lv_aload_n hx hb dX7_canBeAllSeen_29 rfl (lv_at hl 2 rfl) ?_
    refine kq_get (i := 0) hx hb hts hin_X7 hown hK hP (by decide) (cE_0 rfl) rfl 8 (by decide) (hts (.fieldLink RX7 59 "WordFletchers" "sightings" "LWordFletchers$Sightings;") (List.mem_cons_of_mem _ (List.mem_append_left _ (List.mem_append_left _ (List.mem_append_left _ (List.mem_append_left _ (List.mem_of_getElem? (i := 0) rfl))))))) rfl dX7_canBeAllSeen_30 ?_
    refine kq_get (i := 4) hx hb hts hin_X4 hown hK hP (by decide) (cE_4 rfl) rfl 2 (by decide) (hts (.fieldLink RX7 329 "WordFletchers$Sightings" "wind" "[I") (List.mem_cons_of_mem _ (List.mem_append_left _ (List.mem_append_left _ (List.mem_append_left _ (List.mem_append_left _ (List.mem_of_getElem? (i := 4) rfl))))))) rfl dX7_canBeAllSeen_33 ?_
    refine lv_iload_n hx hb dX7_canBeAllSeen_36 rfl (lv_at hl 1 rfl) ?_
    refine kq_iald (i := 7) hx hb hK hP (by decide) (n := 4) (cE_7 rfl) (by decide) (Int.toNat kk) rfl (by omega) dX7_canBeAllSeen_37 ?_
    refine lv_aload_n hx hb dX7_canBeAllSeen_38 rfl (lv_at hl 2 rfl) ?_
    refine kq_get (i := 0) hx hb hts hin_X7 hown hK hP (by decide) (cE_0 rfl) rfl 8 (by decide) (hts (.fieldLink RX7 59 "WordFletchers" "sightings" "LWordFletchers$Sightings;") (List.mem_cons_of_mem _ (List.mem_append_left _ (List.mem_append_left _ (List.mem_append_left _ (List.mem_append_left _ (List.mem_of_getElem? (i := 0) rfl))))))) rfl dX7_canBeAllSeen_39 ?_
    refine kq_get (i := 4) hx hb hts hin_X4 hown hK hP (by decide) (cE_4 rfl) rfl 3 (by decide) (hts (.fieldLink RX7 332 "WordFletchers$Sightings" "damp" "[I") (List.mem_cons_of_mem _ (List.mem_append_left _ (List.mem_append_left _ (List.mem_append_left _ (List.mem_append_left _ (List.mem_of_getElem? (i := 5) rfl))))))) rfl dX7_canBeAllSeen_42 ?_
    refine lv_iload_n hx hb dX7_canBeAllSeen_45 rfl (lv_at hl 1 rfl) ?_
    refine kq_iald (i := 8) hx hb hK hP (by decide) (n := 4) (cE_8 rfl) (by decide) (Int.toNat kk) rfl (by omega) dX7_canBeAllSeen_46 ?_
    refine W.eq (g2 := F0 m 47 ls [.int (iZ (V 8 (Int.toNat kk))), .int (iZ (V 7 (Int.toNat kk))), .int (iZ (V 5 (Int.toNat kk))), .int (iZ pe), .ref (a (Int.toNat (V 0 3)))]) rfl ?_
    refine kq_ci (i := (Int.toNat (V 0 3))) (As := [.int (iZ pe), .int (iZ (V 5 (Int.toNat kk))), .int (iZ (V 7 (Int.toNat kk))), .int (iZ (V 8 (Int.toNat kk)))]) (rest := []) ⟨hx, hb, hml, hown, hts⟩ hK hP hN hS (isTo.l0 (by assumption)) (cE_15 (isTo.s0 (by assumption))) rfl (K_X6_landings l D C a b V (Int.toNat (V 0 3)) (by assumption) pe (V 5 (Int.toNat kk)) (V 7 (Int.toNat kk)) (V 8 (Int.toNat kk)) (by assumption) (by omega) (by omega) (by omega) (by omega)) (cwV 4 hts gX7_canBeAllSeen_X6_landings rfl rfl rfl (by decide +kernel) ⟨Nat.le_of_ble_eq_true rfl, Nat.le_of_ble_eq_true rfl⟩) rfl rfl hl.1 (Nat.le_of_ble_eq_true rfl) ⟨Nat.le_of_ble_eq_true rfl, Nat.le_of_ble_eq_true rfl⟩ dX7_canBeAllSeen_47 ?_
    refine lv_istore (lv' := [(4, .int (iZ (s_lgN (fun sh => s_land (V ((Int.toNat (V 0 3)) + 1) (Int.toNat pe)) (V ((Int.toNat (V 0 3)) + 4) (Int.toNat (V 5 (Int.toNat kk)))) (V ((Int.toNat (V 0 3)) + 3) (Int.toNat (V 5 (Int.toNat kk)))) (V 8 (Int.toNat kk)) (sh / 100) (sh / 10 % 10) (sh % 10) (V 7 (Int.toNat kk))) 26))), (3, .int (iZ (V 5 (Int.toNat kk)))), (2, .int (iZ kk)), (0, .ref (a 0)), (1, .int (iZ pe))]) hx hb dX7_canBeAllSeen_50 hl (by decide) rfl (fun ls hl => ?_)
    refine lv_iload hx hb dX7_canBeAllSeen_52 (lv_at hl 0 rfl) ?_
    refine lv_aload_n hx hb dX7_canBeAllSeen_54 rfl (lv_at hl 3 rfl) ?_
    refine kq_get (i := 0) hx hb hts hin_X7 hown hK hP (by decide) (cE_0 rfl) rfl 8 (by decide) (hts (.fieldLink RX7 59 "WordFletchers" "sightings" "LWordFletchers$Sightings;") (List.mem_cons_of_mem _ (List.mem_append_left _ (List.mem_append_left _ (List.mem_append_left _ (List.mem_append_left _ (List.mem_of_getElem? (i := 0) rfl))))))) rfl dX7_canBeAllSeen_55 ?_
    refine kq_get (i := 4) hx hb hts hin_X4 hown hK hP (by decide) (cE_4 rfl) rfl 1 (by decide) (hts (.fieldLink RX7 338 "WordFletchers$Sightings" "place" "[I") (List.mem_cons_of_mem _ (List.mem_append_left _ (List.mem_append_left _ (List.mem_append_left _ (List.mem_append_left _ (List.mem_of_getElem? (i := 6) rfl))))))) rfl dX7_canBeAllSeen_58 ?_
    refine lv_iload_n hx hb dX7_canBeAllSeen_61 rfl (lv_at hl 2 rfl) ?_
    refine kq_iald (i := 6) hx hb hK hP (by decide) (n := 4) (cE_6 rfl) (by decide) (Int.toNat kk) rfl (by omega) dX7_canBeAllSeen_62 ?_
    refine kq_cs (As := [.int (iZ (s_lgN (fun sh => s_land (V ((Int.toNat (V 0 3)) + 1) (Int.toNat pe)) (V ((Int.toNat (V 0 3)) + 4) (Int.toNat (V 5 (Int.toNat kk)))) (V ((Int.toNat (V 0 3)) + 3) (Int.toNat (V 5 (Int.toNat kk)))) (V 8 (Int.toNat kk)) (sh / 100) (sh / 10 % 10) (sh % 10) (V 7 (Int.toNat kk))) 26)), .int (iZ (V 6 (Int.toNat kk)))]) (rest := []) ⟨hx, hb, hml, hown, hts⟩ (K_X7_isIn l (s_lgN (fun sh => s_land (V ((Int.toNat (V 0 3)) + 1) (Int.toNat pe)) (V ((Int.toNat (V 0 3)) + 4) (Int.toNat (V 5 (Int.toNat kk)))) (V ((Int.toNat (V 0 3)) + 3) (Int.toNat (V 5 (Int.toNat kk)))) (V 8 (Int.toNat kk)) (sh / 100) (sh / 10 % 10) (sh % 10) (V 7 (Int.toNat kk))) 26) (V 6 (Int.toNat kk)) (by omega) (by omega)) (va_cwS 2 hts gX7_canBeAllSeen_X7_isIn rfl rfl rfl (by decide +kernel) ⟨Nat.le_of_ble_eq_true rfl, Nat.le_of_ble_eq_true rfl⟩) rfl rfl hl.1 (Nat.le_of_ble_eq_true rfl) ⟨Nat.le_of_ble_eq_true rfl, Nat.le_of_ble_eq_true rfl⟩ dX7_canBeAllSeen_63 ?_
    refine z_ifb_ne (P := ((s_lgN (fun sh => s_land (V ((Int.toNat (V 0 3)) + 1) (Int.toNat pe)) (V ((Int.toNat (V 0 3)) + 4) (Int.toNat (V 5 (Int.toNat kk)))) (V ((Int.toNat (V 0 3)) + 3) (Int.toNat (V 5 (Int.toNat kk)))) (V 8 (Int.toNat kk)) (sh / 100) (sh / 10 % 10) (sh % 10) (V 7 (Int.toNat kk))) 26) / zp (V 6 (Int.toNat kk)) % 2 = 1)) (tgt := 71) hx hb dX7_canBeAllSeen_66 (by decide) (fun c2 => ?_) (fun c2 => ?_)
    · refine lv_iinc (v := iZ (kk + 1)) (lv' := [(2, .int (iZ (kk + 1))), (4, .int (iZ (s_lgN (fun sh => s_land (V ((Int.toNat (V 0 3)) + 1) (Int.toNat pe)) (V ((Int.toNat (V 0 3)) + 4) (Int.toNat (V 5 (Int.toNat kk)))) (V ((Int.toNat (V 0 3)) + 3) (Int.toNat (V 5 (Int.toNat kk)))) (V 8 (Int.toNat kk)) (sh / 100) (sh / 10 % 10) (sh % 10) (V 7 (Int.toNat kk))) 26))), (3, .int (iZ (V 5 (Int.toNat kk)))), (0, .ref (a 0)), (1, .int (iZ pe))]) hx hb dX7_canBeAllSeen_71 hl (k := 2) rfl (iZ_add _ _) (by decide) rfl (fun ls hl => ?_)
      refine lv_goto (tgt := 2) hx hb dX7_canBeAllSeen_74 (by decide) ?_
      exact ih2 (kk + 1) ⟨(by show 0 ≤ (kk + 1) ∧ (kk + 1) ≤ V 4 4; omega), (by show c_cbN V pe (Int.toNat (kk + 1)) = true; rw [c_cbN_succ _ _ i1.1, i2, Bool.true_and]; exact decide_eq_true (by assumption))⟩ (by show (V 4 4 - (kk + 1)).toNat < (V 4 4 - kk).toNat; omega) ls (lv_sub hl [0, 3, 4] rfl)
    · refine W.eq (g2 := F0 m 69 ls []) rfl ?_
      refine lv_iconst (v := iZ 0) hx hb dX7_canBeAllSeen_69 (by decide) ?_
      exact mq_ret hx hb hr (z_nbool (by first | omega | (split <;> omega))) (by first | (have q : kk = V 4 4 := (by omega); rw [← q, i2]; rfl) | (rw [c_cbN_no V pe i1.1 (by omega) (by assumption)]; rfl)) dX7_canBeAllSeen_70 hlocks rfl
set_option maxHeartbeats 4000000 in
set_option maxRecDepth 100000 in
theorem K_X7_suspects (l : Launch) (D : va_G) (C : cC) (a b : Nat → Nat) (V : Nat → Nat → Int) (hI : cI V) : Met l yX7_suspects wsX7_suspects ({ frames := 5, cells := 0, slots := 0, locals := 135 }) (va_Pc [.ref (a 0)] (cOk D C a b V)) (vp_Si (fun r => r = iZ (c_suN V (Int.toNat (V (Int.toNat (V 0 3)) 7))))) 0 0 (fun _ => False) := by
  refine Met.ofW (cc := cX7_suspects) (maxL := 3) (ret := (some .int)) (by decide) rfl ?_
  intro p e s m args below meth c s₁ B hml hv
  obtain ⟨rfl, hP, hK, hN⟩ := hv
  have hx := B.exec
  have hb := B.bytes
  have hr := B.returns
  have hts := atoms_spec (ws := wsX7_suspects) B.pre
  have hown : s.vm.findClass RX7 = some m.cls := findClass_of_methodNamed B.named
  have hlocks := B.notSynchronized
  have hin_X7 : ∀ w ∈ wsX70, w ∈ wsX7_suspects := fun _ w_h => (List.mem_cons_of_mem _ (List.mem_append_left _ (List.mem_append_left _ (List.mem_append_right _ w_h))))
  have hin_X6 : ∀ w ∈ wsX60, w ∈ wsX7_suspects := fun _ w_h => (List.mem_cons_of_mem _ (List.mem_append_left _ (List.mem_append_right _ w_h)))
  have hin_X4 : ∀ w ∈ wsX40, w ∈ wsX7_suspects := fun _ w_h => (List.mem_cons_of_mem _ (List.mem_append_right _ w_h))
  have hl := lv_entry ([.ref (a 0)]) (n := 3) (Nat.le_of_ble_eq_true rfl)
  rw [lg_entry_eq]
  generalize (lg_sl ([.ref (a 0)]) ++ List.replicate (3 - (lg_sl ([.ref (a 0)])).length) Slot.unset).toArray = ls at hl ⊢
  replace hl : lv_has ls 3 [(0, .ref (a 0))] := hl
  have hS : va_S (cA a) s.heap s.heap [] := va_S.rf
  obtain ⟨hto, hto4, hne, htx, hT, hM, hpa, hpi, hki, hsz, hsg, hby⟩ := id hI
  have hnt := hT.now
  have hnm := hM.now
  refine lv_iconst (v := iZ 0) hx hb dX7_suspects_0 (by decide) ?_
  refine lv_istore_n (lv' := [(1, .int (iZ 0)), (0, .ref (a 0))]) hx hb dX7_suspects_1 rfl hl (by decide) rfl (fun ls hl => ?_)
  refine lv_iconst (v := iZ 0) hx hb dX7_suspects_2 (by decide) ?_
  refine lv_istore_n (lv' := [(2, .int (iZ 0)), (1, .int (iZ 0)), (0, .ref (a 0))]) hx hb dX7_suspects_3 rfl hl (by decide) rfl (fun ls hl => ?_)
  replace hl : lv_has ls 3 [(2, .int (iZ (0 : Int))), (1, .int (iZ (0 : Int))), (0, .ref (a 0))] := lv_sub hl [0, 1, 2] rfl
  revert ls
  refine z_loop (σ := Int × Int) (fun x9 => (0 ≤ x9.2 ∧ x9.2 ≤ V (Int.toNat (V 0 3)) 7) ∧ (x9.1 = c_suN V (Int.toNat x9.2))) (fun x9 => [(2, .int (iZ (x9.2))), (1, .int (iZ (x9.1))), (0, .ref (a 0))]) 3 (fun x9 => (V (Int.toNat (V 0 3)) 7 - x9.2).toNat) ((0 : Int), (0 : Int)) ⟨(by show 0 ≤ (0 : Int) ∧ (0 : Int) ≤ V (Int.toNat (V 0 3)) 7; omega), (by show (0 : Int) = c_suN V (Int.toNat (0 : Int)); rfl)⟩ ?_
  rintro ⟨st, kk⟩ hI9 ih4 ls hl
  obtain ⟨i1, i2⟩ := hI9
  replace i1 : 0 ≤ kk ∧ kk ≤ V (Int.toNat (V 0 3)) 7 := i1
  replace i2 : st = c_suN V (Int.toNat kk) := i2
  replace hl : lv_has ls 3 [(2, .int (iZ kk)), (1, .int (iZ st)), (0, .ref (a 0))] := hl
  have hbd := c_suN_nn V (Int.toNat kk)
  have hzp := zp_nn kk
  refine lv_iload_n hx hb dX7_suspects_4 rfl (lv_at hl 0 rfl) ?_
  refine lv_aload_n hx hb dX7_suspects_5 rfl (lv_at hl 2 rfl) ?_
  refine kq_get (i := 0) hx hb hts hin_X7 hown hK hP (by decide) (cE_0 rfl) rfl 3 (by decide) (hts (.fieldLink RX7 29 "WordFletchers" "told" "LWordFletchers$Told;") (List.mem_cons_of_mem _ (List.mem_append_left _ (List.mem_append_left _ (List.mem_append_left _ (List.mem_append_left _ (List.mem_of_getElem? (i := 0) rfl))))))) rfl dX7_suspects_6 ?_
  refine kq_get (i := (Int.toNat (V 0 3))) hx hb hts hin_X6 hown hK hP (isTo.l0 (by assumption)) (cE_15 (isTo.s0 (by assumption))) rfl 7 (by decide) (hts (.fieldLink RX7 298 "WordFletchers$Told" "people" "I") (List.mem_cons_of_mem _ (List.mem_append_left _ (List.mem_append_left _ (List.mem_append_left _ (List.mem_append_left _ (List.mem_of_getElem? (i := 1) rfl))))))) rfl dX7_suspects_9 ?_
  refine z_icmp_ge (x := kk) (y := (V (Int.toNat (V 0 3)) 7)) (tgt := 35) hx hb (by omega) (by omega) dX7_suspects_12 (by decide) (fun c1 => ?_) (fun c1 => ?_)
  · refine lv_iload_n hx hb dX7_suspects_35 rfl (lv_at hl 1 rfl) ?_
    exact mq_ret hx hb hr rfl (by have q : kk = V (Int.toNat (V 0 3)) 7 := (by omega); rw [i2, q]) dX7_suspects_36 hlocks rfl
  · refine lv_aload_n hx hb dX7_suspects_15 rfl (lv_at hl 2 rfl) ?_
    refine lv_iload_n hx hb dX7_suspects_16 rfl (lv_at hl 0 rfl) ?_
    refine kq_ci (i := 0) (As := [.int (iZ kk)]) (rest := []) ⟨hx, hb, hml, hown, hts⟩ hK hP hN hS (by decide) (cE_0 rfl) rfl (K_X7_canBeAllSeen l D C a b V kk hI (by omega)) (cwV 1 hts gX7_suspects_X7_canBeAllSeen rfl rfl rfl (by decide +kernel) ⟨Nat.le_of_ble_eq_true rfl, Nat.le_of_ble_eq_true rfl⟩) rfl rfl hl.1 (Nat.le_of_ble_eq_true rfl) ⟨Nat.le_of_ble_eq_true rfl, Nat.le_of_ble_eq_true rfl⟩ dX7_suspects_17 ?_
    refine z_ifb_eq (P := c_cbN V kk (Int.toNat (V 4 4))) (tgt := 29) hx hb dX7_suspects_20 (by decide) (fun c3 => ?_) (fun c3 => ?_)
    · refine lv_iinc (v := iZ (kk + 1)) (lv' := [(2, .int (iZ (kk + 1))), (1, .int (iZ st)), (0, .ref (a 0))]) hx hb dX7_suspects_29 hl (k := 0) rfl (iZ_add _ _) (by decide) rfl (fun ls hl => ?_)
      refine lv_goto (tgt := 4) hx hb dX7_suspects_32 (by decide) ?_
      exact ih4 (st, (kk + 1)) ⟨(by show 0 ≤ (kk + 1) ∧ (kk + 1) ≤ V (Int.toNat (V 0 3)) 7; omega), (by show st = c_suN V (Int.toNat (kk + 1)); rw [c_suN_succ _ i1.1, ← i2]; first | (rw [if_pos (by assumption)]; done) | (rw [if_neg (by assumption)]; done))⟩ (by show (V (Int.toNat (V 0 3)) 7 - (kk + 1)).toNat < (V (Int.toNat (V 0 3)) 7 - kk).toNat; omega) ls (lv_sub hl [0, 1, 2] rfl)
    · refine lv_iload_n hx hb dX7_suspects_23 rfl (lv_at hl 1 rfl) ?_
      refine lv_iconst (v := iZ 1) hx hb dX7_suspects_24 (by decide) ?_
      refine lv_iload_n hx hb dX7_suspects_25 rfl (lv_at hl 0 rfl) ?_
      refine W.eq (g2 := F0 m 26 ls [.int (iZ kk), .int (iZ 1), .int (iZ st)]) rfl ?_
      refine z_ishl1 hx hb (by omega) dX7_suspects_26 ?_
      refine z_ior hx hb (by omega) (by omega) dX7_suspects_27 ?_
      refine lv_istore_n (lv' := [(1, .int (iZ (zor st (zp kk)))), (2, .int (iZ kk)), (0, .ref (a 0))]) hx hb dX7_suspects_28 rfl hl (by decide) rfl (fun ls hl => ?_)
      refine lv_iinc (v := iZ (kk + 1)) (lv' := [(2, .int (iZ (kk + 1))), (1, .int (iZ (zor st (zp kk)))), (0, .ref (a 0))]) hx hb dX7_suspects_29 hl (k := 1) rfl (iZ_add _ _) (by decide) rfl (fun ls hl => ?_)
      refine lv_goto (tgt := 4) hx hb dX7_suspects_32 (by decide) ?_
      exact ih4 ((zor st (zp kk)), (kk + 1)) ⟨(by show 0 ≤ (kk + 1) ∧ (kk + 1) ≤ V (Int.toNat (V 0 3)) 7; omega), (by show (zor st (zp kk)) = c_suN V (Int.toNat (kk + 1)); rw [c_suN_succ _ i1.1, ← i2]; first | (rw [if_pos (by assumption)]; done) | (rw [if_neg (by assumption)]; done))⟩ (by show (V (Int.toNat (V 0 3)) 7 - (kk + 1)).toNat < (V (Int.toNat (V 0 3)) 7 - kk).toNat; omega) ls (lv_sub hl [0, 1, 2] rfl)
set_option maxHeartbeats 4000000 in
set_option maxRecDepth 100000 in
theorem K_X7_who (l : Launch) (D : va_G) (C : cC) (a b : Nat → Nat) (V : Nat → Nat → Int) (hI : cI V) : Met l yX7_who wsX7_who ({ frames := 6, cells := 0, slots := 0, locals := 157 }) (va_Pc [.ref (a 0)] (cOk D C a b V)) (vp_Si (fun r => r = iZ (c_suN V (Int.toNat (V (Int.toNat (V 0 3)) 7))))) 0 0 (fun _ => False) := by
  refine Met.ofW (cc := cX7_who) (maxL := 1) (ret := (some .int)) (by decide) rfl ?_
  intro p e s m args below meth c s₁ B hml hv
  obtain ⟨rfl, hP, hK, hN⟩ := hv
  have hx := B.exec
  have hb := B.bytes
  have hr := B.returns
  have hts := atoms_spec (ws := wsX7_who) B.pre
  have hown : s.vm.findClass RX7 = some m.cls := findClass_of_methodNamed B.named
  have hlocks := B.notSynchronized
  have hin_X7 : ∀ w ∈ wsX70, w ∈ wsX7_who := fun _ w_h => (List.mem_cons_of_mem _ (List.mem_append_left _ (List.mem_append_left _ (List.mem_append_right _ w_h))))
  have hin_X6 : ∀ w ∈ wsX60, w ∈ wsX7_who := fun _ w_h => (List.mem_cons_of_mem _ (List.mem_append_left _ (List.mem_append_right _ w_h)))
  have hin_X4 : ∀ w ∈ wsX40, w ∈ wsX7_who := fun _ w_h => (List.mem_cons_of_mem _ (List.mem_append_right _ w_h))
  have hl := lv_entry ([.ref (a 0)]) (n := 1) (Nat.le_of_ble_eq_true rfl)
  rw [lg_entry_eq]
  generalize (lg_sl ([.ref (a 0)]) ++ List.replicate (1 - (lg_sl ([.ref (a 0)])).length) Slot.unset).toArray = ls at hl ⊢
  replace hl : lv_has ls 1 [(0, .ref (a 0))] := hl
  have hS : va_S (cA a) s.heap s.heap [] := va_S.rf
  obtain ⟨hto, hto4, hne, htx, hT, hM, hpa, hpi, hki, hsz, hsg, hby⟩ := id hI
  have hnt := hT.now
  have hnm := hM.now
  refine lv_aload_n hx hb dX7_who_0 rfl (lv_at hl 0 rfl) ?_
  refine kq_ci (i := 0) (As := []) (rest := []) ⟨hx, hb, hml, hown, hts⟩ hK hP hN hS (by decide) (cE_0 rfl) rfl (K_X7_suspects l D C a b V  hI) (cwV 0 hts gX7_who_X7_suspects rfl rfl rfl (by decide +kernel) ⟨Nat.le_of_ble_eq_true rfl, Nat.le_of_ble_eq_true rfl⟩) rfl rfl hl.1 (Nat.le_of_ble_eq_true rfl) ⟨Nat.le_of_ble_eq_true rfl, Nat.le_of_ble_eq_true rfl⟩ dX7_who_1 ?_
  have hsu := c_suN_bd V (Int.toNat (V (Int.toNat (V 0 3)) 7)) (by omega)
  exact mq_ret hx hb hr rfl rfl dX7_who_4 hlocks rfl
