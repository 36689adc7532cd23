set_option maxHeartbeats 4000000 in
set_option maxRecDepth 100000 in
theorem K_X7_isIn (l : Launch) (st : Int) (kk : Int) (h1 : -2147483648 ≤ st ∧ st < 2147483648) (h2 : 0 ≤ kk ∧ kk ≤ 31) : Met l yX7_isIn wsX7_isIn ({ frames := 0, cells := 0, slots := 0, locals := 0 }) (va_Pc [.int (iZ st), .int (iZ kk)] (fun _ => True)) (vp_Si (fun r => r = iZ (if (st / zp kk % 2 = 1) then 1 else 0))) 0 0 (fun _ => False) := by
  refine Met.ofW (cc := cX7_isIn) (maxL := 2) (ret := (some .boolean)) (by decide) rfl ?_
  intro p e s m args below meth c s₁ B hml hv
  obtain ⟨rfl, -⟩ := hv
  have hx := B.exec
  have hb := B.bytes
  have hr := B.returns
  have hts := atoms_spec (ws := wsX7_isIn) B.pre
  have hown : s.vm.findClass RX7 = some m.cls := findClass_of_methodNamed B.named
  have hlocks := B.notSynchronized
  have hl := lv_entry ([.int (iZ st), .int (iZ kk)]) (n := 2) (Nat.le_of_ble_eq_true rfl)
  rw [lg_entry_eq]
  generalize (lg_sl ([.int (iZ st), .int (iZ kk)]) ++ List.replicate (2 - (lg_sl ([.int (iZ st), .int (iZ kk)])).length) Slot.unset).toArray = ls at hl ⊢
  replace hl : lv_has ls 2 [(0, .int (iZ st)), (1, .int (iZ kk))] := hl
  refine lv_iload_n hx hb dX7_isIn_0 rfl (lv_at hl 0 rfl) ?_
  refine lv_iload_n hx hb dX7_isIn_1 rfl (lv_at hl 1 rfl) ?_
  refine z_ishr hx hb (by omega) (by omega) dX7_isIn_2 ?_
  refine lv_iconst (v := iZ 1) hx hb dX7_isIn_3 (by decide) ?_
  refine z_iand1 hx hb dX7_isIn_4 ?_
  refine W.eq (g2 := F0 m 5 ls [.int (iZ ((st / zp kk) % 2))]) rfl ?_
  have K3 : ∀ (v2 : Int), (v2 = (if ((st / zp kk) % 2) = 0 then 0 else 1)) → ∀ ls : Array Slot, lv_has ls 2 [] → W p l e ((headSpec wsX7_isIn ({ frames := 0, cells := 0, slots := 0, locals := 0 })).room) s m (([.int (iZ st), .int (iZ kk)] : List Value).toArray) below meth c s.heap [] 0 0 (MQ below (vp_Si (fun r => r = iZ (if (st / zp kk % 2 = 1) then 1 else 0))) (([.int (iZ st), .int (iZ kk)] : List Value).toArray) s 0 0 (fun _ => False)) (F0 m 13 ls [.int (iZ v2)]) := by
    intro v2 hv2 ls hl
    exact mq_ret hx hb hr (z_nbool (by first | omega | (split <;> omega))) (by first | omega | rfl | ((repeat' split) <;> first | rfl | omega) | (subst_vars; first | rfl | omega | ((repeat' split) <;> first | rfl | omega))) dX7_isIn_13 hlocks rfl
  refine z_if_eq (x := ((st / zp kk) % 2)) (tgt := 12) hx hb (by omega) dX7_isIn_5 (by decide) (fun c1 => ?_) (fun c1 => ?_)
  · refine lv_iconst (v := iZ 0) hx hb dX7_isIn_12 (by decide) ?_
    exact K3 0 (by first | rfl | (rw [if_pos c1]; done) | omega | (subst_vars; first | rfl | (rw [if_pos c1]; done) | omega)) ls (lv_sub hl [] rfl)
  · refine lv_iconst (v := iZ 1) hx hb dX7_isIn_8 (by decide) ?_
    refine lv_goto (tgt := 13) hx hb dX7_isIn_9 (by decide) ?_
    exact K3 1 (by first | rfl | (rw [if_neg c1]; done) | omega | (subst_vars; first | rfl | (rw [if_neg c1]; done) | omega)) ls (lv_sub hl [] rfl)
set_option maxHeartbeats 4000000 in
set_option maxRecDepth 100000 in
theorem K_X6_hasOne (l : Launch) (D : va_G) (C : cC) (a b : Nat → Nat) (V : Nat → Nat → Int) (i : Nat) (hi : isTo i) (pe : Int) (h1 : -2147483648 ≤ pe ∧ pe < 2147483648) (h2 : 0 ≤ V i 7 ∧ V i 7 ≤ 6) : Met l yX6_hasOne wsX6_hasOne ({ frames := 0, cells := 0, slots := 0, locals := 0 }) (va_Pc [.ref (a i), .int (iZ pe)] (cOk D C a b V)) (vp_Si (fun r => r = iZ (if (0 ≤ pe ∧ pe < V i 7) then 1 else 0))) 0 0 (fun _ => False) := by
  refine Met.ofW (cc := cX6_hasOne) (maxL := 2) (ret := (some .boolean)) (by decide) rfl ?_
  intro p e s m args below meth c s₁ B hml hv
  obtain ⟨rfl, hP, hK, hN⟩ := hv
  have hx := B.exec
  have hb := B.bytes
  have hr := B.returns
  have hts := atoms_spec (ws := wsX6_hasOne) B.pre
  have hown : s.vm.findClass RX6 = some m.cls := findClass_of_methodNamed B.named
  have hlocks := B.notSynchronized
  have hin_X6 : ∀ w ∈ wsX60, w ∈ wsX6_hasOne := fun _ w_h => (List.mem_cons_of_mem _ (List.mem_append_right _ w_h))
  have hl := lv_entry ([.ref (a i), .int (iZ pe)]) (n := 2) (Nat.le_of_ble_eq_true rfl)
  rw [lg_entry_eq]
  generalize (lg_sl ([.ref (a i), .int (iZ pe)]) ++ List.replicate (2 - (lg_sl ([.ref (a i), .int (iZ pe)])).length) Slot.unset).toArray = ls at hl ⊢
  replace hl : lv_has ls 2 [(0, .ref (a i)), (1, .int (iZ pe))] := hl
  have hS : va_S (cA a) s.heap s.heap [] := va_S.rf
  refine lv_iload_n hx hb dX6_hasOne_0 rfl (lv_at hl 1 rfl) ?_
  have K4 : ∀ (v3 : Int), (v3 = (if pe < 0 then 0 else (if (V i 7) ≤ pe then 0 else 1))) → ∀ ls : Array Slot, lv_has ls 2 [] → W p l e ((headSpec wsX6_hasOne ({ frames := 0, cells := 0, slots := 0, locals := 0 })).room) s m (([.ref (a i), .int (iZ pe)] : List Value).toArray) below meth c s.heap [] 0 0 (MQ below (vp_Si (fun r => r = iZ (if (0 ≤ pe ∧ pe < V i 7) then 1 else 0))) (([.ref (a i), .int (iZ pe)] : List Value).toArray) s 0 0 (fun _ => False)) (F0 m 17 ls [.int (iZ v3)]) := by
    intro v3 hv3 ls hl
    exact mq_ret hx hb hr (z_nbool (by first | omega | (split <;> omega))) (by first | omega | rfl | ((repeat' split) <;> first | rfl | omega) | (subst_vars; first | rfl | omega | ((repeat' split) <;> first | rfl | omega))) dX6_hasOne_17 hlocks rfl
  refine z_if_lt (x := pe) (tgt := 16) hx hb (by omega) dX6_hasOne_1 (by decide) (fun c1 => ?_) (fun c1 => ?_)
  · refine lv_iconst (v := iZ 0) hx hb dX6_hasOne_16 (by decide) ?_
    exact K4 0 (by first | rfl | (rw [if_pos c1]; done) | omega | (subst_vars; first | rfl | (rw [if_pos c1]; done) | omega)) ls (lv_sub hl [] rfl)
  · refine lv_iload_n hx hb dX6_hasOne_4 rfl (lv_at hl 1 rfl) ?_
    refine lv_aload_n hx hb dX6_hasOne_5 rfl (lv_at hl 0 rfl) ?_
    refine kq_get (i := i) hx hb hts hin_X6 hown hK hP (isTo.l0 hi) (cE_15 (isTo.s0 hi)) rfl 7 (by decide) (hts (.fieldLink RX6 36 "WordFletchers$Told" "people" "I") (List.mem_cons_of_mem _ (List.mem_append_left _ (List.mem_of_getElem? (i := 0) rfl)))) rfl dX6_hasOne_6 ?_
    refine z_icmp_ge (x := pe) (y := (V i 7)) (tgt := 16) hx hb (by omega) (by omega) dX6_hasOne_9 (by decide) (fun c2 => ?_) (fun c2 => ?_)
    · refine W.eq (g2 := F0 m 16 ls []) rfl ?_
      refine lv_iconst (v := iZ 0) hx hb dX6_hasOne_16 (by decide) ?_
      exact K4 0 (by first | rfl | (rw [if_neg c1, if_pos c2]; done) | omega | (subst_vars; first | rfl | (rw [if_neg c1, if_pos c2]; done) | omega)) ls (lv_sub hl [] rfl)
    · refine lv_iconst (v := iZ 1) hx hb dX6_hasOne_12 (by decide) ?_
      refine lv_goto (tgt := 17) hx hb dX6_hasOne_13 (by decide) ?_
      exact K4 1 (by first | rfl | (rw [if_neg c1, if_neg c2]; done) | omega | (subst_vars; first | rfl | (rw [if_neg c1, if_neg c2]; done) | omega)) ls (lv_sub hl [] rfl)
set_option maxHeartbeats 4000000 in
set_option maxRecDepth 100000 in
theorem K_X6_hasSaying (l : Launch) (D : va_G) (C : cC) (a b : Nat → Nat) (V : Nat → Nat → Int) (i : Nat) (hi : isTo i) (sy : Int) (h1 : -2147483648 ≤ sy ∧ sy < 2147483648) (h2 : 0 ≤ V i 8 ∧ V i 8 ≤ 6) : Met l yX6_hasSaying wsX6_hasSaying ({ frames := 0, cells := 0, slots := 0, locals := 0 }) (va_Pc [.ref (a i), .int (iZ sy)] (cOk D C a b V)) (vp_Si (fun r => r = iZ (if (0 ≤ sy ∧ sy < V i 8) then 1 else 0))) 0 0 (fun _ => False) := by
  refine Met.ofW (cc := cX6_hasSaying) (maxL := 2) (ret := (some .boolean)) (by decide) rfl ?_
  intro p e s m args below meth c s₁ B hml hv
  obtain ⟨rfl, hP, hK, hN⟩ := hv
  have hx := B.exec
  have hb := B.bytes
  have hr := B.returns
  have hts := atoms_spec (ws := wsX6_hasSaying) B.pre
  have hown : s.vm.findClass RX6 = some m.cls := findClass_of_methodNamed B.named
  have hlocks := B.notSynchronized
  have hin_X6 : ∀ w ∈ wsX60, w ∈ wsX6_hasSaying := fun _ w_h => (List.mem_cons_of_mem _ (List.mem_append_right _ w_h))
  have hl := lv_entry ([.ref (a i), .int (iZ sy)]) (n := 2) (Nat.le_of_ble_eq_true rfl)
  rw [lg_entry_eq]
  generalize (lg_sl ([.ref (a i), .int (iZ sy)]) ++ List.replicate (2 - (lg_sl ([.ref (a i), .int (iZ sy)])).length) Slot.unset).toArray = ls at hl ⊢
  replace hl : lv_has ls 2 [(0, .ref (a i)), (1, .int (iZ sy))] := hl
  have hS : va_S (cA a) s.heap s.heap [] := va_S.rf
  refine lv_iload_n hx hb dX6_hasSaying_0 rfl (lv_at hl 1 rfl) ?_
  have K4 : ∀ (v3 : Int), (v3 = (if sy < 0 then 0 else (if (V i 8) ≤ sy then 0 else 1))) → ∀ ls : Array Slot, lv_has ls 2 [] → W p l e ((headSpec wsX6_hasSaying ({ frames := 0, cells := 0, slots := 0, locals := 0 })).room) s m (([.ref (a i), .int (iZ sy)] : List Value).toArray) below meth c s.heap [] 0 0 (MQ below (vp_Si (fun r => r = iZ (if (0 ≤ sy ∧ sy < V i 8) then 1 else 0))) (([.ref (a i), .int (iZ sy)] : List Value).toArray) s 0 0 (fun _ => False)) (F0 m 17 ls [.int (iZ v3)]) := by
    intro v3 hv3 ls hl
    exact mq_ret hx hb hr (z_nbool (by first | omega | (split <;> omega))) (by first | omega | rfl | ((repeat' split) <;> first | rfl | omega) | (subst_vars; first | rfl | omega | ((repeat' split) <;> first | rfl | omega))) dX6_hasSaying_17 hlocks rfl
  refine z_if_lt (x := sy) (tgt := 16) hx hb (by omega) dX6_hasSaying_1 (by decide) (fun c1 => ?_) (fun c1 => ?_)
  · refine lv_iconst (v := iZ 0) hx hb dX6_hasSaying_16 (by decide) ?_
    exact K4 0 (by first | rfl | (rw [if_pos c1]; done) | omega | (subst_vars; first | rfl | (rw [if_pos c1]; done) | omega)) ls (lv_sub hl [] rfl)
  · refine lv_iload_n hx hb dX6_hasSaying_4 rfl (lv_at hl 1 rfl) ?_
    refine lv_aload_n hx hb dX6_hasSaying_5 rfl (lv_at hl 0 rfl) ?_
    refine kq_get (i := i) hx hb hts hin_X6 hown hK hP (isTo.l0 hi) (cE_15 (isTo.s0 hi)) rfl 8 (by decide) (hts (.fieldLink RX6 40 "WordFletchers$Told" "sayings" "I") (List.mem_cons_of_mem _ (List.mem_append_left _ (List.mem_of_getElem? (i := 0) rfl)))) rfl dX6_hasSaying_6 ?_
    refine z_icmp_ge (x := sy) (y := (V i 8)) (tgt := 16) hx hb (by omega) (by omega) dX6_hasSaying_9 (by decide) (fun c2 => ?_) (fun c2 => ?_)
    · refine lv_iconst (v := iZ 0) hx hb dX6_hasSaying_16 (by decide) ?_
      exact K4 0 (by first | rfl | (rw [if_neg c1, if_pos c2]; done) | omega | (subst_vars; first | rfl | (rw [if_neg c1, if_pos c2]; done) | omega)) ls (lv_sub hl [] rfl)
    · refine W.eq (g2 := F0 m 12 ls []) rfl ?_
      refine lv_iconst (v := iZ 1) hx hb dX6_hasSaying_12 (by decide) ?_
      refine lv_goto (tgt := 17) hx hb dX6_hasSaying_13 (by decide) ?_
      exact K4 1 (by first | rfl | (rw [if_neg c1, if_neg c2]; done) | omega | (subst_vars; first | rfl | (rw [if_neg c1, if_neg c2]; done) | omega)) ls (lv_sub hl [] rfl)
set_option maxHeartbeats 4000000 in
set_option maxRecDepth 100000 in
theorem K_X6_windCount (l : Launch) (D : va_G) (C : cC) (a b : Nat → Nat) (V : Nat → Nat → Int) (i : Nat) (hi : isTo i) (h2 : 0 ≤ V i 9 ∧ V i 9 ≤ 6) : Met l yX6_windCount wsX6_windCount ({ frames := 1, cells := 0, slots := 0, locals := 24 }) (va_Pc [.ref (a i)] (cOk D C a b V)) (vp_Si (fun r => r = iZ (if 1 < V i 9 then V i 9 else 1))) 0 0 (fun _ => False) := by
  refine Met.ofW (cc := cX6_windCount) (maxL := 1) (ret := (some .int)) (by decide) rfl ?_
  intro p e s m args below meth c s₁ B hml hv
  obtain ⟨rfl, hP, hK, hN⟩ := hv
  have hx := B.exec
  have hb := B.bytes
  have hr := B.returns
  have hts := atoms_spec (ws := wsX6_windCount) B.pre
  have hown : s.vm.findClass RX6 = some m.cls := findClass_of_methodNamed B.named
  have hlocks := B.notSynchronized
  have hin_X6 : ∀ w ∈ wsX60, w ∈ wsX6_windCount := fun _ w_h => (List.mem_cons_of_mem _ (List.mem_append_right _ w_h))
  have hl := lv_entry ([.ref (a i)]) (n := 1) (Nat.le_of_ble_eq_true rfl)
  rw [lg_entry_eq]
  generalize (lg_sl ([.ref (a i)]) ++ List.replicate (1 - (lg_sl ([.ref (a i)])).length) Slot.unset).toArray = ls at hl ⊢
  replace hl : lv_has ls 1 [(0, .ref (a i))] := hl
  have hS : va_S (cA a) s.heap s.heap [] := va_S.rf
  refine lv_iconst (v := iZ 1) hx hb dX6_windCount_0 (by decide) ?_
  refine lv_aload_n hx hb dX6_windCount_1 rfl (lv_at hl 0 rfl) ?_
  refine kq_get (i := i) hx hb hts hin_X6 hown hK hP (isTo.l0 hi) (cE_15 (isTo.s0 hi)) rfl 9 (by decide) (hts (.fieldLink RX6 43 "WordFletchers$Told" "windsTold" "I") (List.mem_cons_of_mem _ (List.mem_append_left _ (List.mem_of_getElem? (i := 0) rfl)))) rfl dX6_windCount_2 ?_
  refine kq_max (x := 1) (y := (V i 9)) hx hb (hml.trans hl.1.symm) hown (hts (.methodLink RX6 46 Lib.Math.max.name) (List.mem_cons_of_mem _ (List.mem_append_left _ (List.mem_of_getElem? (i := 1) rfl)))) (hts (.static Lib.Math.max.name) (List.mem_cons_of_mem _ (List.mem_append_left _ (List.mem_of_getElem? (i := 2) rfl)))) (hts (.initialized "java/lang/Math") (List.mem_cons_of_mem _ (List.mem_append_left _ (List.mem_of_getElem? (i := 3) rfl)))) (hts (.code Lib.Math.max.name Lib.Math.max.code 2 (some .int)) (List.mem_cons_of_mem _ (List.mem_append_left _ (List.mem_of_getElem? (i := 4) rfl)))) (Nat.le_of_ble_eq_true rfl) (Nat.le_of_ble_eq_true rfl) (Nat.le_of_ble_eq_true rfl) (Nat.le_of_ble_eq_true rfl) (by omega) (by omega) dX6_windCount_5 ?_
  exact mq_ret hx hb hr rfl (by first | omega | rfl | ((repeat' split) <;> first | rfl | omega) | (subst_vars; first | rfl | omega | ((repeat' split) <;> first | rfl | omega))) dX6_windCount_8 hlocks rfl
set_option maxHeartbeats 4000000 in
set_option maxRecDepth 100000 in
theorem K_X6_windOf (l : Launch) (D : va_G) (C : cC) (a b : Nat → Nat) (V : Nat → Nat → Int) (i : Nat) (hi : isTo i) (ho : Int) (h1 : 0 ≤ ho ∧ ho ≤ 1100) (h2 : 0 ≤ V i 9 ∧ V i 9 ≤ 6) : Met l yX6_windOf wsX6_windOf ({ frames := 2, cells := 0, slots := 0, locals := 44 }) (va_Pc [.ref (a i), .int (iZ ho)] (cOk D C a b V)) (vp_Si (fun r => r = iZ (V (i + 6) (Int.toNat (ho % (if 1 < V i 9 then V i 9 else 1)))))) 0 0 (fun _ => False) := by
  refine Met.ofW (cc := cX6_windOf) (maxL := 2) (ret := (some .int)) (by decide) rfl ?_
  intro p e s m args below meth c s₁ B hml hv
  obtain ⟨rfl, hP, hK, hN⟩ := hv
  have hx := B.exec
  have hb := B.bytes
  have hr := B.returns
  have hts := atoms_spec (ws := wsX6_windOf) B.pre
  have hown : s.vm.findClass RX6 = some m.cls := findClass_of_methodNamed B.named
  have hlocks := B.notSynchronized
  have hin_X6 : ∀ w ∈ wsX60, w ∈ wsX6_windOf := fun _ w_h => (List.mem_cons_of_mem _ (List.mem_append_right _ w_h))
  have hl := lv_entry ([.ref (a i), .int (iZ ho)]) (n := 2) (Nat.le_of_ble_eq_true rfl)
  rw [lg_entry_eq]
  generalize (lg_sl ([.ref (a i), .int (iZ ho)]) ++ List.replicate (2 - (lg_sl ([.ref (a i), .int (iZ ho)])).length) Slot.unset).toArray = ls at hl ⊢
  replace hl : lv_has ls 2 [(0, .ref (a i)), (1, .int (iZ ho))] := hl
  have hS : va_S (cA a) s.heap s.heap [] := va_S.rf
  have hmd := z_mod (x := ho) (y := if 1 < V i 9 then V i 9 else 1) (by omega)
  refine lv_aload_n hx hb dX6_windOf_0 rfl (lv_at hl 0 rfl) ?_
  refine kq_get (i := i) hx hb hts hin_X6 hown hK hP (isTo.l0 hi) (cE_15 (isTo.s0 hi)) rfl 5 (by decide) (hts (.fieldLink RX6 27 "WordFletchers$Told" "winds" "[I") (List.mem_cons_of_mem _ (List.mem_append_left _ (List.mem_of_getElem? (i := 0) rfl)))) rfl dX6_windOf_1 ?_
  refine lv_iconst (v := iZ 0) hx hb dX6_windOf_4 (by decide) ?_
  refine lv_iload_n hx hb dX6_windOf_5 rfl (lv_at hl 1 rfl) ?_
  refine W.eq (g2 := F0 m 6 ls [.int (iZ ho), .int (iZ 0), .ref (a (i + 6))]) rfl ?_
  refine kq_max (x := 0) (y := ho) hx hb (hml.trans hl.1.symm) hown (hts (.methodLink RX6 46 Lib.Math.max.name) (List.mem_cons_of_mem _ (List.mem_append_left _ (List.mem_of_getElem? (i := 1) rfl)))) (hts (.static Lib.Math.max.name) (List.mem_cons_of_mem _ (List.mem_append_left _ (List.mem_of_getElem? (i := 2) rfl)))) (hts (.initialized "java/lang/Math") (List.mem_cons_of_mem _ (List.mem_append_left _ (List.mem_of_getElem? (i := 3) rfl)))) (hts (.code Lib.Math.max.name Lib.Math.max.code 2 (some .int)) (List.mem_cons_of_mem _ (List.mem_append_left _ (List.mem_of_getElem? (i := 4) rfl)))) (Nat.le_of_ble_eq_true rfl) (Nat.le_of_ble_eq_true rfl) (Nat.le_of_ble_eq_true rfl) (Nat.le_of_ble_eq_true rfl) (by omega) (by omega) dX6_windOf_6 ?_
  refine z_nm (fun hh hhh => ?_)
  have hh2 : hh = ho := by omega
  rw [← hh2] at hmd
  refine lv_aload_n hx hb dX6_windOf_9 rfl (lv_at hl 0 rfl) ?_
  refine kq_ci (i := i) (As := []) (rest := [.int (iZ hh), .ref (a (i + 6))]) ⟨hx, hb, hml, hown, hts⟩ hK hP hN hS (isTo.l0 hi) (cE_15 (isTo.s0 hi)) rfl (K_X6_windCount l D C a b V i hi (by omega)) (cwV 0 hts gX6_windOf_X6_windCount rfl rfl rfl (by decide +kernel) ⟨Nat.le_of_ble_eq_true rfl, Nat.le_of_ble_eq_true rfl⟩) rfl rfl hl.1 (Nat.le_of_ble_eq_true rfl) ⟨Nat.le_of_ble_eq_true rfl, Nat.le_of_ble_eq_true rfl⟩ dX6_windOf_10 ?_
  refine z_irem hx hb (by omega) (by omega) dX6_windOf_13 ?_
  refine kq_iald (i := (i + 6)) hx hb hK hP (isTo.l6 hi) (n := 6) (cE_21 (isTo.s6 hi)) (by decide) (Int.toNat (hh % if 1 < V i 9 then V i 9 else 1)) rfl (by omega) dX6_windOf_14 ?_
  exact mq_ret hx hb hr rfl (by rw [hh2]) dX6_windOf_15 hlocks rfl
set_option maxHeartbeats 4000000 in
set_option maxRecDepth 100000 in
theorem K_X7_windIn (l : Launch) (D : va_G) (C : cC) (a b : Nat → Nat) (V : Nat → Nat → Int) (nn : Int) (hto : isTo (Int.toNat (V 0 3))) (hwi : 0 ≤ V (Int.toNat (V 0 3)) 9 ∧ V (Int.toNat (V 0 3)) 9 ≤ 6) (hho : 0 ≤ V 39 0 ∧ V 39 0 ≤ 999) (h1 : 0 ≤ nn ∧ nn ≤ 99) : Met l yX7_windIn wsX7_windIn ({ frames := 3, cells := 0, slots := 0, locals := 65 }) (va_Pc [.ref (a 0), .int (iZ nn)] (cOk D C a b V)) (vp_Si (fun r => r = iZ (c_wind V nn))) 0 0 (fun _ => False) := by
  refine Met.ofW (cc := cX7_windIn) (maxL := 2) (ret := (some .int)) (by decide) rfl ?_
  intro p e s m args below meth c s₁ B hml hv
  obtain ⟨rfl, hP, hK, hN⟩ := hv
  have hx := B.exec
  have hb := B.bytes
  have hr := B.returns
  have hts := atoms_spec (ws := wsX7_windIn) B.pre
  have hown : s.vm.findClass RX7 = some m.cls := findClass_of_methodNamed B.named
  have hlocks := B.notSynchronized
  have hin_X7 : ∀ w ∈ wsX70, w ∈ wsX7_windIn := fun _ w_h => (List.mem_cons_of_mem _ (List.mem_append_left _ (List.mem_append_left _ (List.mem_append_right _ w_h))))
  have hin_X2 : ∀ w ∈ wsX20, w ∈ wsX7_windIn := fun _ w_h => (List.mem_cons_of_mem _ (List.mem_append_left _ (List.mem_append_right _ w_h)))
  have hin_X6 : ∀ w ∈ wsX60, w ∈ wsX7_windIn := fun _ w_h => (List.mem_cons_of_mem _ (List.mem_append_right _ w_h))
  have hl := lv_entry ([.ref (a 0), .int (iZ nn)]) (n := 2) (Nat.le_of_ble_eq_true rfl)
  rw [lg_entry_eq]
  generalize (lg_sl ([.ref (a 0), .int (iZ nn)]) ++ List.replicate (2 - (lg_sl ([.ref (a 0), .int (iZ nn)])).length) Slot.unset).toArray = ls at hl ⊢
  replace hl : lv_has ls 2 [(0, .ref (a 0)), (1, .int (iZ nn))] := hl
  have hS : va_S (cA a) s.heap s.heap [] := va_S.rf
  refine lv_aload_n hx hb dX7_windIn_0 rfl (lv_at hl 0 rfl) ?_
  refine kq_get (i := 0) hx hb hts hin_X7 hown hK hP (by decide) (cE_0 rfl) rfl 3 (by decide) (hts (.fieldLink RX7 29 "WordFletchers" "told" "LWordFletchers$Told;") (List.mem_cons_of_mem _ (List.mem_append_left _ (List.mem_append_left _ (List.mem_append_left _ (List.mem_of_getElem? (i := 0) rfl)))))) rfl dX7_windIn_1 ?_
  refine lv_aload_n hx hb dX7_windIn_4 rfl (lv_at hl 0 rfl) ?_
  refine kq_get (i := 0) hx hb hts hin_X7 hown hK hP (by decide) (cE_0 rfl) rfl 5 (by decide) (hts (.fieldLink RX7 39 "WordFletchers" "moment" "LWordFletchers$Moment;") (List.mem_cons_of_mem _ (List.mem_append_left _ (List.mem_append_left _ (List.mem_append_left _ (List.mem_of_getElem? (i := 1) rfl)))))) rfl dX7_windIn_5 ?_
  refine kq_get (i := 39) hx hb hts hin_X2 hown hK hP (isMo.l0 isMo_39) (cE_26 (isMo.s0 isMo_39)) rfl 0 (by decide) (hts (.fieldLink RX7 174 "WordFletchers$Moment" "hour" "I") (List.mem_cons_of_mem _ (List.mem_append_left _ (List.mem_append_left _ (List.mem_append_left _ (List.mem_of_getElem? (i := 2) rfl)))))) rfl dX7_windIn_8 ?_
  refine lv_iload_n hx hb dX7_windIn_11 rfl (lv_at hl 1 rfl) ?_
  refine W.eq (g2 := F0 m 12 ls [.int (iZ nn), .int (iZ (V 39 0)), .ref (a (Int.toNat (V 0 3)))]) rfl ?_
  refine z_iadd hx hb dX7_windIn_12 ?_
  refine kq_ci (i := (Int.toNat (V 0 3))) (As := [.int (iZ ((V 39 0) + nn))]) (rest := []) ⟨hx, hb, hml, hown, hts⟩ hK hP hN hS (isTo.l0 (by assumption)) (cE_15 (isTo.s0 (by assumption))) rfl (K_X6_windOf l D C a b V (Int.toNat (V 0 3)) (by assumption) ((V 39 0) + nn) (by omega) (by omega)) (cwV 1 hts gX7_windIn_X6_windOf rfl rfl rfl (by decide +kernel) ⟨Nat.le_of_ble_eq_true rfl, Nat.le_of_ble_eq_true rfl⟩) rfl rfl hl.1 (Nat.le_of_ble_eq_true rfl) ⟨Nat.le_of_ble_eq_true rfl, Nat.le_of_ble_eq_true rfl⟩ dX7_windIn_13 ?_
  exact mq_ret hx hb hr rfl rfl dX7_windIn_16 hlocks rfl
set_option maxHeartbeats 4000000 in
set_option maxRecDepth 100000 in
theorem K_X7_wind (l : Launch) (D : va_G) (C : cC) (a b : Nat → Nat) (V : Nat → Nat → Int) (nn : Int) (hto : isTo (Int.toNat (V 0 3))) (hwi : 0 ≤ V (Int.toNat (V 0 3)) 9 ∧ V (Int.toNat (V 0 3)) 9 ≤ 6) (hho : 0 ≤ V 39 0 ∧ V 39 0 ≤ 999) (h1 : -2147483648 ≤ nn ∧ nn < 2147483648) : Met l yX7_wind wsX7_wind ({ frames := 4, cells := 0, slots := 0, locals := 86 }) (va_Pc [.ref (a 0), .int (iZ nn)] (cOk D C a b V)) (vp_Si (fun r => r = iZ (if (0 ≤ nn ∧ nn ≤ 99) then c_wind V nn else -1000000))) 0 0 (fun _ => False) := by
  refine Met.ofW (cc := cX7_wind) (maxL := 2) (ret := (some .int)) (by decide) rfl ?_
  intro p e s m args below meth c s₁ B hml hv
  obtain ⟨rfl, hP, hK, hN⟩ := hv
  have hx := B.exec
  have hb := B.bytes
  have hr := B.returns
  have hts := atoms_spec (ws := wsX7_wind) B.pre
  have hown : s.vm.findClass RX7 = some m.cls := findClass_of_methodNamed B.named
  have hlocks := B.notSynchronized
  have hin_X7 : ∀ w ∈ wsX70, w ∈ wsX7_wind := fun _ w_h => (List.mem_cons_of_mem _ (List.mem_append_left _ (List.mem_append_left _ (List.mem_append_right _ w_h))))
  have hin_X2 : ∀ w ∈ wsX20, w ∈ wsX7_wind := fun _ w_h => (List.mem_cons_of_mem _ (List.mem_append_left _ (List.mem_append_right _ w_h)))
  have hin_X6 : ∀ w ∈ wsX60, w ∈ wsX7_wind := fun _ w_h => (List.mem_cons_of_mem _ (List.mem_append_right _ w_h))
  have hl := lv_entry ([.ref (a 0), .int (iZ nn)]) (n := 2) (Nat.le_of_ble_eq_true rfl)
  rw [lg_entry_eq]
  generalize (lg_sl ([.ref (a 0), .int (iZ nn)]) ++ List.replicate (2 - (lg_sl ([.ref (a 0), .int (iZ nn)])).length) Slot.unset).toArray = ls at hl ⊢
  replace hl : lv_has ls 2 [(0, .ref (a 0)), (1, .int (iZ nn))] := hl
  have hS : va_S (cA a) s.heap s.heap [] := va_S.rf
  refine lv_iload_n hx hb dX7_wind_0 rfl (lv_at hl 1 rfl) ?_
  refine z_if_lt (x := nn) (tgt := 10) hx hb (by omega) dX7_wind_1 (by decide) (fun c1 => ?_) (fun c1 => ?_)
  · refine z_ldc (n := (-1000000)) hx hb hown (hts (.constant RX7 121 (-1000000)) (List.mem_cons_of_mem _ (List.mem_append_left _ (List.mem_append_left _ (List.mem_append_left _ (List.mem_of_getElem? (i := 0) rfl)))))) (by decide) dX7_wind_10 ?_
    exact mq_ret hx hb hr rfl (by first | exact (if_pos (by omega)).symm | exact (if_neg (by omega)).symm) dX7_wind_12 hlocks rfl
  · refine lv_iload_n hx hb dX7_wind_4 rfl (lv_at hl 1 rfl) ?_
    refine lv_bipush (v := iZ 99) hx hb dX7_wind_5 (by decide) ?_
    refine z_icmp_le (x := nn) (y := 99) (tgt := 13) hx hb (by omega) (by omega) dX7_wind_7 (by decide) (fun c2 => ?_) (fun c2 => ?_)
    · refine lv_aload_n hx hb dX7_wind_13 rfl (lv_at hl 0 rfl) ?_
      refine lv_iload_n hx hb dX7_wind_14 rfl (lv_at hl 1 rfl) ?_
      refine W.eq (g2 := F0 m 15 ls [.int (iZ nn), .ref (a 0)]) rfl ?_
      refine kq_ci (i := 0) (As := [.int (iZ nn)]) (rest := []) ⟨hx, hb, hml, hown, hts⟩ hK hP hN hS (by decide) (cE_0 rfl) rfl (K_X7_windIn l D C a b V nn (by assumption) (by omega) (by omega) (by omega)) (cwV 1 hts gX7_wind_X7_windIn rfl rfl rfl (by decide +kernel) ⟨Nat.le_of_ble_eq_true rfl, Nat.le_of_ble_eq_true rfl⟩) rfl rfl hl.1 (Nat.le_of_ble_eq_true rfl) ⟨Nat.le_of_ble_eq_true rfl, Nat.le_of_ble_eq_true rfl⟩ dX7_wind_15 ?_
      exact mq_ret hx hb hr rfl (by first | exact (if_pos (by omega)).symm | exact (if_neg (by omega)).symm) dX7_wind_18 hlocks rfl
    · refine z_ldc (n := (-1000000)) hx hb hown (hts (.constant RX7 121 (-1000000)) (List.mem_cons_of_mem _ (List.mem_append_left _ (List.mem_append_left _ (List.mem_append_left _ (List.mem_of_getElem? (i := 0) rfl)))))) (by decide) dX7_wind_10 ?_
      exact mq_ret hx hb hr rfl (by first | exact (if_pos (by omega)).symm | exact (if_neg (by omega)).symm) dX7_wind_12 hlocks rfl
set_option maxHeartbeats 4000000 in
set_option maxRecDepth 100000 in
theorem K_X7_stray (l : Launch) (D : va_G) (C : cC) (a b : Nat → Nat) (V : Nat → Nat → Int) (ii : Int) (wh : Int) (h1 : -2147483648 ≤ ii ∧ ii < 2147483648) (h2 : -2147483648 ≤ wh ∧ wh < 2147483648) (h3 : 0 ≤ V 39 2 ∧ V 39 2 ≤ 8) : Met l yX7_stray wsX7_stray ({ frames := 0, cells := 0, slots := 0, locals := 0 }) (va_Pc [.ref (a 0), .int (iZ ii), .int (iZ wh)] (cOk D C a b V)) (vp_Si (fun r => r = iZ (if (0 ≤ ii ∧ ii < 8) ∧ 0 ≤ wh ∧ wh ≤ 1 then (if V 39 2 ≤ ii then -9 else if wh = 0 then V 42 (Int.toNat ii) else V 43 (Int.toNat ii)) else -1))) 0 0 (fun _ => False) := by
  refine Met.ofW (cc := cX7_stray) (maxL := 3) (ret := (some .int)) (by decide) rfl ?_
  intro p e s m args below meth c s₁ B hml hv
  obtain ⟨rfl, hP, hK, hN⟩ := hv
  have hx := B.exec
  have hb := B.bytes
  have hr := B.returns
  have hts := atoms_spec (ws := wsX7_stray) B.pre
  have hown : s.vm.findClass RX7 = some m.cls := findClass_of_methodNamed B.named
  have hlocks := B.notSynchronized
  have hin_X7 : ∀ w ∈ wsX70, w ∈ wsX7_stray := fun _ w_h => (List.mem_cons_of_mem _ (List.mem_append_left _ (List.mem_append_right _ w_h)))
  have hin_X2 : ∀ w ∈ wsX20, w ∈ wsX7_stray := fun _ w_h => (List.mem_cons_of_mem _ (List.mem_append_right _ w_h))
  have hl := lv_entry ([.ref (a 0), .int (iZ ii), .int (iZ wh)]) (n := 3) (Nat.le_of_ble_eq_true rfl)
  rw [lg_entry_eq]
  generalize (lg_sl ([.ref (a 0), .int (iZ ii), .int (iZ wh)]) ++ List.replicate (3 - (lg_sl ([.ref (a 0), .int (iZ ii), .int (iZ wh)])).length) Slot.unset).toArray = ls at hl ⊢
  replace hl : lv_has ls 3 [(0, .ref (a 0)), (1, .int (iZ ii)), (2, .int (iZ wh))] := hl
  have hS : va_S (cA a) s.heap s.heap [] := va_S.rf
  refine lv_iload_n hx hb dX7_stray_0 rfl (lv_at hl 1 rfl) ?_
  refine z_if_lt (x := ii) (tgt := 19) hx hb (by omega) dX7_stray_1 (by decide) (fun c1 => ?_) (fun c1 => ?_)
  · refine lv_iconst (v := iZ (-1)) hx hb dX7_stray_19 (by decide) ?_
    exact mq_ret hx hb hr rfl (by subst_vars; (repeat' split) <;> first | rfl | omega) dX7_stray_20 hlocks rfl
  · refine lv_iload_n hx hb dX7_stray_4 rfl (lv_at hl 1 rfl) ?_
    refine lv_bipush (v := iZ 8) hx hb dX7_stray_5 (by decide) ?_
    refine z_icmp_ge (x := ii) (y := 8) (tgt := 19) hx hb (by omega) (by omega) dX7_stray_7 (by decide) (fun c2 => ?_) (fun c2 => ?_)
    · refine lv_iconst (v := iZ (-1)) hx hb dX7_stray_19 (by decide) ?_
      refine W.eq (g2 := F0 m 20 ls [.int (iZ (-1))]) rfl ?_
      exact mq_ret hx hb hr rfl (by subst_vars; (repeat' split) <;> first | rfl | omega) dX7_stray_20 hlocks rfl
    · refine lv_iload_n hx hb dX7_stray_10 rfl (lv_at hl 2 rfl) ?_
      refine z_if_lt (x := wh) (tgt := 19) hx hb (by omega) dX7_stray_11 (by decide) (fun c3 => ?_) (fun c3 => ?_)
      · refine lv_iconst (v := iZ (-1)) hx hb dX7_stray_19 (by decide) ?_
        exact mq_ret hx hb hr rfl (by subst_vars; (repeat' split) <;> first | rfl | omega) dX7_stray_20 hlocks rfl
      · refine lv_iload_n hx hb dX7_stray_14 rfl (lv_at hl 2 rfl) ?_
        refine lv_iconst (v := iZ 1) hx hb dX7_stray_15 (by decide) ?_
        refine z_icmp_le (x := wh) (y := 1) (tgt := 21) hx hb (by omega) (by omega) dX7_stray_16 (by decide) (fun c4 => ?_) (fun c4 => ?_)
        · refine lv_iload_n hx hb dX7_stray_21 rfl (lv_at hl 1 rfl) ?_
          refine lv_aload_n hx hb dX7_stray_22 rfl (lv_at hl 0 rfl) ?_
          refine kq_get (i := 0) hx hb hts hin_X7 hown hK hP (by decide) (cE_0 rfl) rfl 5 (by decide) (hts (.fieldLink RX7 39 "WordFletchers" "moment" "LWordFletchers$Moment;") (List.mem_cons_of_mem _ (List.mem_append_left _ (List.mem_append_left _ (List.mem_of_getElem? (i := 0) rfl))))) rfl dX7_stray_23 ?_
          refine kq_get (i := 39) hx hb hts hin_X2 hown hK hP (isMo.l0 isMo_39) (cE_26 (isMo.s0 isMo_39)) rfl 2 (by decide) (hts (.fieldLink RX7 125 "WordFletchers$Moment" "strays" "I") (List.mem_cons_of_mem _ (List.mem_append_left _ (List.mem_append_left _ (List.mem_of_getElem? (i := 1) rfl))))) rfl dX7_stray_26 ?_
          refine W.eq (g2 := F0 m 29 ls [.int (iZ (V 39 2)), .int (iZ ii)]) rfl ?_
          refine z_icmp_lt (x := ii) (y := (V 39 2)) (tgt := 35) hx hb (by omega) (by omega) dX7_stray_29 (by decide) (fun c5 => ?_) (fun c5 => ?_)
          · refine lv_iload_n hx hb dX7_stray_35 rfl (lv_at hl 2 rfl) ?_
            have K8 : ∀ (v7 : Int), (v7 = (if wh = 0 then (V 42 (Int.toNat ii)) else (V 43 (Int.toNat ii)))) → ∀ ls : Array Slot, lv_has ls 3 [] → W p l e ((headSpec wsX7_stray ({ frames := 0, cells := 0, slots := 0, locals := 0 })).room) s m (([.ref (a 0), .int (iZ ii), .int (iZ wh)] : List Value).toArray) below meth c s.heap [] 0 0 (MQ below (vp_Si (fun r => r = iZ (if (0 ≤ ii ∧ ii < 8) ∧ 0 ≤ wh ∧ wh ≤ 1 then (if V 39 2 ≤ ii then -9 else if wh = 0 then V 42 (Int.toNat ii) else V 43 (Int.toNat ii)) else -1))) (([.ref (a 0), .int (iZ ii), .int (iZ wh)] : List Value).toArray) s 0 0 (fun _ => False)) (F0 m 60 ls [.int (iZ v7)]) := by
              intro v7 hv7 ls hl
              exact mq_ret hx hb hr rfl (by subst_vars; (repeat' split) <;> first | rfl | omega) dX7_stray_60 hlocks rfl
            refine z_if_ne (x := wh) (tgt := 51) hx hb (by omega) dX7_stray_36 (by decide) (fun c6 => ?_) (fun c6 => ?_)
            · refine lv_aload_n hx hb dX7_stray_51 rfl (lv_at hl 0 rfl) ?_
              refine kq_get (i := 0) hx hb hts hin_X7 hown hK hP (by decide) (cE_0 rfl) rfl 5 (by decide) (hts (.fieldLink RX7 39 "WordFletchers" "moment" "LWordFletchers$Moment;") (List.mem_cons_of_mem _ (List.mem_append_left _ (List.mem_append_left _ (List.mem_of_getElem? (i := 0) rfl))))) rfl dX7_stray_52 ?_
              refine kq_get (i := 39) hx hb hts hin_X2 hown hK hP (isMo.l0 isMo_39) (cE_26 (isMo.s0 isMo_39)) rfl 6 (by decide) (hts (.fieldLink RX7 131 "WordFletchers$Moment" "strayPlace" "[I") (List.mem_cons_of_mem _ (List.mem_append_left _ (List.mem_append_left _ (List.mem_of_getElem? (i := 3) rfl))))) rfl dX7_stray_55 ?_
              refine lv_iload_n hx hb dX7_stray_58 rfl (lv_at hl 1 rfl) ?_
              refine kq_iald (i := 43) hx hb hK hP (isMo.l4 isMo_39) (n := 8) (cE_30 (isMo.s4 isMo_39)) (by decide) (Int.toNat ii) rfl (by omega) dX7_stray_59 ?_
              exact K8 (V 43 (Int.toNat ii)) (by first | rfl | (rw [if_neg c6]; done) | omega | (subst_vars; first | rfl | (rw [if_neg c6]; done) | omega)) ls (lv_sub hl [] rfl)
            · refine lv_aload_n hx hb dX7_stray_39 rfl (lv_at hl 0 rfl) ?_
              refine kq_get (i := 0) hx hb hts hin_X7 hown hK hP (by decide) (cE_0 rfl) rfl 5 (by decide) (hts (.fieldLink RX7 39 "WordFletchers" "moment" "LWordFletchers$Moment;") (List.mem_cons_of_mem _ (List.mem_append_left _ (List.mem_append_left _ (List.mem_of_getElem? (i := 0) rfl))))) rfl dX7_stray_40 ?_
              refine kq_get (i := 39) hx hb hts hin_X2 hown hK hP (isMo.l0 isMo_39) (cE_26 (isMo.s0 isMo_39)) rfl 5 (by decide) (hts (.fieldLink RX7 128 "WordFletchers$Moment" "straySaying" "[I") (List.mem_cons_of_mem _ (List.mem_append_left _ (List.mem_append_left _ (List.mem_of_getElem? (i := 2) rfl))))) rfl dX7_stray_43 ?_
              refine lv_iload_n hx hb dX7_stray_46 rfl (lv_at hl 1 rfl) ?_
              refine W.eq (g2 := F0 m 47 ls [.int (iZ ii), .ref (a 42)]) rfl ?_
              refine kq_iald (i := 42) hx hb hK hP (isMo.l3 isMo_39) (n := 8) (cE_29 (isMo.s3 isMo_39)) (by decide) (Int.toNat ii) rfl (by omega) dX7_stray_47 ?_
              refine lv_goto (tgt := 60) hx hb dX7_stray_48 (by decide) ?_
              exact K8 (V 42 (Int.toNat ii)) (by first | rfl | (rw [if_pos c6]; done) | omega | (subst_vars; first | rfl | (rw [if_pos c6]; done) | omega)) ls (lv_sub hl [] rfl)
          · refine lv_bipush (v := iZ (-9)) hx hb dX7_stray_32 (by decide) ?_
            exact mq_ret hx hb hr rfl (by subst_vars; (repeat' split) <;> first | rfl | omega) dX7_stray_34 hlocks rfl
        · refine lv_iconst (v := iZ (-1)) hx hb dX7_stray_19 (by decide) ?_
          exact mq_ret hx hb hr rfl (by subst_vars; (repeat' split) <;> first | rfl | omega) dX7_stray_20 hlocks rfl
set_option maxHeartbeats 4000000 in
set_option maxRecDepth 100000 in
theorem K_X7_now (l : Launch) (D : va_G) (C : cC) (a b : Nat → Nat) (V : Nat → Nat → Int) (wh : Int) (h1 : -2147483648 ≤ wh ∧ wh < 2147483648) : Met l yX7_now wsX7_now ({ frames := 0, cells := 0, slots := 0, locals := 0 }) (va_Pc [.ref (a 0), .int (iZ wh)] (cOk D C a b V)) (vp_Si (fun r => r = iZ (if 0 ≤ wh ∧ wh ≤ 6 then (if wh = 0 then V 39 0 else if wh = 1 then V 39 1 else if wh = 6 then V 39 2 else V 40 (Int.toNat (wh - 2))) else -1))) 0 0 (fun _ => False) := by
  refine Met.ofW (cc := cX7_now) (maxL := 2) (ret := (some .int)) (by decide) rfl ?_
  intro p e s m args below meth c s₁ B hml hv
  obtain ⟨rfl, hP, hK, hN⟩ := hv
  have hx := B.exec
  have hb := B.bytes
  have hr := B.returns
  have hts := atoms_spec (ws := wsX7_now) B.pre
  have hown : s.vm.findClass RX7 = some m.cls := findClass_of_methodNamed B.named
  have hlocks := B.notSynchronized
  have hin_X7 : ∀ w ∈ wsX70, w ∈ wsX7_now := fun _ w_h => (List.mem_cons_of_mem _ (List.mem_append_left _ (List.mem_append_right _ w_h)))
  have hin_X2 : ∀ w ∈ wsX20, w ∈ wsX7_now := fun _ w_h => (List.mem_cons_of_mem _ (List.mem_append_right _ w_h))
  have hl := lv_entry ([.ref (a 0), .int (iZ wh)]) (n := 2) (Nat.le_of_ble_eq_true rfl)
  rw [lg_entry_eq]
  generalize (lg_sl ([.ref (a 0), .int (iZ wh)]) ++ List.replicate (2 - (lg_sl ([.ref (a 0), .int (iZ wh)])).length) Slot.unset).toArray = ls at hl ⊢
  replace hl : lv_has ls 2 [(0, .ref (a 0)), (1, .int (iZ wh))] := hl
  have hS : va_S (cA a) s.heap s.heap [] := va_S.rf
  refine lv_iload_n hx hb dX7_now_0 rfl (lv_at hl 1 rfl) ?_
  refine z_if_lt (x := wh) (tgt := 10) hx hb (by omega) dX7_now_1 (by decide) (fun c1 => ?_) (fun c1 => ?_)
  · refine lv_iconst (v := iZ (-1)) hx hb dX7_now_10 (by decide) ?_
    exact mq_ret hx hb hr rfl (by subst_vars; (repeat' split) <;> first | rfl | omega) dX7_now_11 hlocks rfl
  · refine lv_iload_n hx hb dX7_now_4 rfl (lv_at hl 1 rfl) ?_
    refine W.eq (g2 := F0 m 5 ls [.int (iZ wh)]) rfl ?_
    refine lv_bipush (v := iZ 6) hx hb dX7_now_5 (by decide) ?_
    refine z_icmp_le (x := wh) (y := 6) (tgt := 12) hx hb (by omega) (by omega) dX7_now_7 (by decide) (fun c2 => ?_) (fun c2 => ?_)
    · refine lv_iload_n hx hb dX7_now_12 rfl (lv_at hl 1 rfl) ?_
      by_cases c3 : wh = 0
      · refine lv_lookup (off := 35) (tgt := 48) hx hb dX7_now_13 (by decide) (by rw [iZ_toInt (by omega), c3]; rfl) (by decide) ?_
        refine lv_aload_n hx hb dX7_now_48 rfl (lv_at hl 0 rfl) ?_
        refine kq_get (i := 0) hx hb hts hin_X7 hown hK hP (by decide) (cE_0 rfl) rfl 5 (by decide) (hts (.fieldLink RX7 39 "WordFletchers" "moment" "LWordFletchers$Moment;") (List.mem_cons_of_mem _ (List.mem_append_left _ (List.mem_append_left _ (List.mem_of_getElem? (i := 0) rfl))))) rfl dX7_now_49 ?_
        refine kq_get (i := 39) hx hb hts hin_X2 hown hK hP (isMo.l0 isMo_39) (cE_26 (isMo.s0 isMo_39)) rfl 0 (by decide) (hts (.fieldLink RX7 174 "WordFletchers$Moment" "hour" "I") (List.mem_cons_of_mem _ (List.mem_append_left _ (List.mem_append_left _ (List.mem_of_getElem? (i := 1) rfl))))) rfl dX7_now_52 ?_
        exact mq_ret hx hb hr rfl (by subst_vars; (repeat' split) <;> first | rfl | omega) dX7_now_55 hlocks rfl
      by_cases c4 : wh = 1
      · refine lv_lookup (off := 43) (tgt := 56) hx hb dX7_now_13 (by decide) (by rw [iZ_toInt (by omega), c4]; rfl) (by decide) ?_
        refine lv_aload_n hx hb dX7_now_56 rfl (lv_at hl 0 rfl) ?_
        refine kq_get (i := 0) hx hb hts hin_X7 hown hK hP (by decide) (cE_0 rfl) rfl 5 (by decide) (hts (.fieldLink RX7 39 "WordFletchers" "moment" "LWordFletchers$Moment;") (List.mem_cons_of_mem _ (List.mem_append_left _ (List.mem_append_left _ (List.mem_of_getElem? (i := 0) rfl))))) rfl dX7_now_57 ?_
        refine kq_get (i := 39) hx hb hts hin_X2 hown hK hP (isMo.l0 isMo_39) (cE_26 (isMo.s0 isMo_39)) rfl 1 (by decide) (hts (.fieldLink RX7 177 "WordFletchers$Moment" "damp" "I") (List.mem_cons_of_mem _ (List.mem_append_left _ (List.mem_append_left _ (List.mem_of_getElem? (i := 2) rfl))))) rfl dX7_now_60 ?_
        exact mq_ret hx hb hr rfl (by subst_vars; (repeat' split) <;> first | rfl | omega) dX7_now_63 hlocks rfl
      by_cases c5 : wh = 6
      · refine lv_lookup (off := 51) (tgt := 64) hx hb dX7_now_13 (by decide) (by rw [iZ_toInt (by omega), c5]; rfl) (by decide) ?_
        refine W.eq (g2 := F0 m 64 ls []) rfl ?_
        refine lv_aload_n hx hb dX7_now_64 rfl (lv_at hl 0 rfl) ?_
        refine kq_get (i := 0) hx hb hts hin_X7 hown hK hP (by decide) (cE_0 rfl) rfl 5 (by decide) (hts (.fieldLink RX7 39 "WordFletchers" "moment" "LWordFletchers$Moment;") (List.mem_cons_of_mem _ (List.mem_append_left _ (List.mem_append_left _ (List.mem_of_getElem? (i := 0) rfl))))) rfl dX7_now_65 ?_
        refine kq_get (i := 39) hx hb hts hin_X2 hown hK hP (isMo.l0 isMo_39) (cE_26 (isMo.s0 isMo_39)) rfl 2 (by decide) (hts (.fieldLink RX7 125 "WordFletchers$Moment" "strays" "I") (List.mem_cons_of_mem _ (List.mem_append_left _ (List.mem_append_left _ (List.mem_of_getElem? (i := 3) rfl))))) rfl dX7_now_68 ?_
        exact mq_ret hx hb hr rfl (by subst_vars; (repeat' split) <;> first | rfl | omega) dX7_now_71 hlocks rfl
      refine lv_lookup (off := 59) (tgt := 72) hx hb dX7_now_13 (by decide) (by rw [iZ_toInt (by omega)]; first | (simp [Op.lookupswitch.offset, Ne.symm c3, Ne.symm c4, Ne.symm c5, c3, c4, c5]; done) | (simp [Op.lookupswitch.offset, Ne.symm c3, Ne.symm c4, Ne.symm c5, c3, c4, c5]; rfl)) (by decide) ?_
      refine lv_aload_n hx hb dX7_now_72 rfl (lv_at hl 0 rfl) ?_
      refine kq_get (i := 0) hx hb hts hin_X7 hown hK hP (by decide) (cE_0 rfl) rfl 5 (by decide) (hts (.fieldLink RX7 39 "WordFletchers" "moment" "LWordFletchers$Moment;") (List.mem_cons_of_mem _ (List.mem_append_left _ (List.mem_append_left _ (List.mem_of_getElem? (i := 0) rfl))))) rfl dX7_now_73 ?_
      refine kq_get (i := 39) hx hb hts hin_X2 hown hK hP (isMo.l0 isMo_39) (cE_26 (isMo.s0 isMo_39)) rfl 3 (by decide) (hts (.fieldLink RX7 142 "WordFletchers$Moment" "feathers" "[I") (List.mem_cons_of_mem _ (List.mem_append_left _ (List.mem_append_left _ (List.mem_of_getElem? (i := 4) rfl))))) rfl dX7_now_76 ?_
      refine lv_iload_n hx hb dX7_now_79 rfl (lv_at hl 1 rfl) ?_
      refine lv_iconst (v := iZ 2) hx hb dX7_now_80 (by decide) ?_
      refine z_isub hx hb dX7_now_81 ?_
      refine kq_iald (i := 40) hx hb hK hP (isMo.l1 isMo_39) (n := 4) (cE_27 (isMo.s1 isMo_39)) (by decide) (Int.toNat (wh - 2)) rfl (by omega) dX7_now_82 ?_
      exact mq_ret hx hb hr rfl (by subst_vars; (repeat' split) <;> first | rfl | omega) dX7_now_83 hlocks rfl
    · refine W.eq (g2 := F0 m 10 ls []) rfl ?_
      refine lv_iconst (v := iZ (-1)) hx hb dX7_now_10 (by decide) ?_
      exact mq_ret hx hb hr rfl (by subst_vars; (repeat' split) <;> first | rfl | omega) dX7_now_11 hlocks rfl
set_option maxHeartbeats 4000000 in
set_option maxRecDepth 100000 in
theorem K_X7_count (l : Launch) (D : va_G) (C : cC) (a b : Nat → Nat) (V : Nat → Nat → Int) (wh : Int) (hto : isTo (Int.toNat (V 0 3))) (hwi : 0 ≤ V (Int.toNat (V 0 3)) 9 ∧ V (Int.toNat (V 0 3)) 9 ≤ 6) (h1 : -2147483648 ≤ wh ∧ wh < 2147483648) : Met l yX7_count wsX7_count ({ frames := 2, cells := 0, slots := 0, locals := 44 }) (va_Pc [.ref (a 0), .int (iZ wh)] (cOk D C a b V)) (vp_Si (fun r => r = iZ (if wh = 0 then V (Int.toNat (V 0 3)) 7 else if wh = 1 then V (Int.toNat (V 0 3)) 8 else if wh = 2 then (if 1 < V (Int.toNat (V 0 3)) 9 then V (Int.toNat (V 0 3)) 9 else 1) else if wh = 3 then V 4 4 else if wh = 4 then V 31 1 else if wh = 5 then V 0 1 else -1))) 0 0 (fun _ => False) := by
  refine Met.ofW (cc := cX7_count) (maxL := 2) (ret := (some .int)) (by decide) rfl ?_
  intro p e s m args below meth c s₁ B hml hv
  obtain ⟨rfl, hP, hK, hN⟩ := hv
  have hx := B.exec
  have hb := B.bytes
  have hr := B.returns
  have hts := atoms_spec (ws := wsX7_count) B.pre
  have hown : s.vm.findClass RX7 = some m.cls := findClass_of_methodNamed B.named
  have hlocks := B.notSynchronized
  have hin_X7 : ∀ w ∈ wsX70, w ∈ wsX7_count := fun _ w_h => (List.mem_cons_of_mem _ (List.mem_append_left _ (List.mem_append_left _ (List.mem_append_left _ (List.mem_append_right _ w_h)))))
  have hin_X6 : ∀ w ∈ wsX60, w ∈ wsX7_count := fun _ w_h => (List.mem_cons_of_mem _ (List.mem_append_left _ (List.mem_append_left _ (List.mem_append_right _ w_h))))
  have hin_X4 : ∀ w ∈ wsX40, w ∈ wsX7_count := fun _ w_h => (List.mem_cons_of_mem _ (List.mem_append_left _ (List.mem_append_right _ w_h)))
  have hin_X3 : ∀ w ∈ wsX30, w ∈ wsX7_count := fun _ w_h => (List.mem_cons_of_mem _ (List.mem_append_right _ w_h))
  have hl := lv_entry ([.ref (a 0), .int (iZ wh)]) (n := 2) (Nat.le_of_ble_eq_true rfl)
  rw [lg_entry_eq]
  generalize (lg_sl ([.ref (a 0), .int (iZ wh)]) ++ List.replicate (2 - (lg_sl ([.ref (a 0), .int (iZ wh)])).length) Slot.unset).toArray = ls at hl ⊢
  replace hl : lv_has ls 2 [(0, .ref (a 0)), (1, .int (iZ wh))] := hl
  have hS : va_S (cA a) s.heap s.heap [] := va_S.rf
  refine lv_iload_n hx hb dX7_count_0 rfl (lv_at hl 1 rfl) ?_
  by_cases c1 : wh = 0
  · refine lv_tableIn (off := 39) (tgt := 40) hx hb dX7_count_1 (by rw [iZ_toInt (by omega)]; omega) (by rw [iZ_toInt (by omega)]; omega) (by rw [iZ_toInt (by omega), c1]; rfl) (by decide) ?_
    refine lv_aload_n hx hb dX7_count_40 rfl (lv_at hl 0 rfl) ?_
    refine kq_get (i := 0) hx hb hts hin_X7 hown hK hP (by decide) (cE_0 rfl) rfl 3 (by decide) (hts (.fieldLink RX7 29 "WordFletchers" "told" "LWordFletchers$Told;") (List.mem_cons_of_mem _ (List.mem_append_left _ (List.mem_append_left _ (List.mem_append_left _ (List.mem_append_left _ (List.mem_of_getElem? (i := 0) rfl))))))) rfl dX7_count_41 ?_
    refine kq_get (i := (Int.toNat (V 0 3))) hx hb hts hin_X6 hown hK hP (isTo.l0 (by assumption)) (cE_15 (isTo.s0 (by assumption))) rfl 7 (by decide) (hts (.fieldLink RX7 298 "WordFletchers$Told" "people" "I") (List.mem_cons_of_mem _ (List.mem_append_left _ (List.mem_append_left _ (List.mem_append_left _ (List.mem_append_left _ (List.mem_of_getElem? (i := 1) rfl))))))) rfl dX7_count_44 ?_
    exact mq_ret hx hb hr rfl (by subst_vars; (repeat' split) <;> first | rfl | omega) dX7_count_47 hlocks rfl
  by_cases c2 : wh = 1
  · refine lv_tableIn (off := 47) (tgt := 48) hx hb dX7_count_1 (by rw [iZ_toInt (by omega)]; omega) (by rw [iZ_toInt (by omega)]; omega) (by rw [iZ_toInt (by omega), c2]; rfl) (by decide) ?_
    refine lv_aload_n hx hb dX7_count_48 rfl (lv_at hl 0 rfl) ?_
    refine kq_get (i := 0) hx hb hts hin_X7 hown hK hP (by decide) (cE_0 rfl) rfl 3 (by decide) (hts (.fieldLink RX7 29 "WordFletchers" "told" "LWordFletchers$Told;") (List.mem_cons_of_mem _ (List.mem_append_left _ (List.mem_append_left _ (List.mem_append_left _ (List.mem_append_left _ (List.mem_of_getElem? (i := 0) rfl))))))) rfl dX7_count_49 ?_
    refine kq_get (i := (Int.toNat (V 0 3))) hx hb hts hin_X6 hown hK hP (isTo.l0 (by assumption)) (cE_15 (isTo.s0 (by assumption))) rfl 8 (by decide) (hts (.fieldLink RX7 219 "WordFletchers$Told" "sayings" "I") (List.mem_cons_of_mem _ (List.mem_append_left _ (List.mem_append_left _ (List.mem_append_left _ (List.mem_append_left _ (List.mem_of_getElem? (i := 2) rfl))))))) rfl dX7_count_52 ?_
    exact mq_ret hx hb hr rfl (by subst_vars; (repeat' split) <;> first | rfl | omega) dX7_count_55 hlocks rfl
  by_cases c3 : wh = 2
  · refine lv_tableIn (off := 55) (tgt := 56) hx hb dX7_count_1 (by rw [iZ_toInt (by omega)]; omega) (by rw [iZ_toInt (by omega)]; omega) (by rw [iZ_toInt (by omega), c3]; rfl) (by decide) ?_
    refine W.eq (g2 := F0 m 56 ls []) rfl ?_
    refine lv_aload_n hx hb dX7_count_56 rfl (lv_at hl 0 rfl) ?_
    refine kq_get (i := 0) hx hb hts hin_X7 hown hK hP (by decide) (cE_0 rfl) rfl 3 (by decide) (hts (.fieldLink RX7 29 "WordFletchers" "told" "LWordFletchers$Told;") (List.mem_cons_of_mem _ (List.mem_append_left _ (List.mem_append_left _ (List.mem_append_left _ (List.mem_append_left _ (List.mem_of_getElem? (i := 0) rfl))))))) rfl dX7_count_57 ?_
    refine kq_ci (i := (Int.toNat (V 0 3))) (As := []) (rest := []) ⟨hx, hb, hml, hown, hts⟩ hK hP hN hS (isTo.l0 (by assumption)) (cE_15 (isTo.s0 (by assumption))) rfl (K_X6_windCount l D C a b V (Int.toNat (V 0 3)) (by assumption) (by omega)) (cwV 0 hts gX7_count_X6_windCount rfl rfl rfl (by decide +kernel) ⟨Nat.le_of_ble_eq_true rfl, Nat.le_of_ble_eq_true rfl⟩) rfl rfl hl.1 (Nat.le_of_ble_eq_true rfl) ⟨Nat.le_of_ble_eq_true rfl, Nat.le_of_ble_eq_true rfl⟩ dX7_count_60 ?_
    exact mq_ret hx hb hr rfl (by subst_vars; (repeat' split) <;> first | rfl | omega) dX7_count_63 hlocks rfl
  by_cases c4 : wh = 3
  · refine lv_tableIn (off := 63) (tgt := 64) hx hb dX7_count_1 (by rw [iZ_toInt (by omega)]; omega) (by rw [iZ_toInt (by omega)]; omega) (by rw [iZ_toInt (by omega), c4]; rfl) (by decide) ?_
    refine lv_aload_n hx hb dX7_count_64 rfl (lv_at hl 0 rfl) ?_
    refine kq_get (i := 0) hx hb hts hin_X7 hown hK hP (by decide) (cE_0 rfl) rfl 8 (by decide) (hts (.fieldLink RX7 59 "WordFletchers" "sightings" "LWordFletchers$Sightings;") (List.mem_cons_of_mem _ (List.mem_append_left _ (List.mem_append_left _ (List.mem_append_left _ (List.mem_append_left _ (List.mem_of_getElem? (i := 3) rfl))))))) rfl dX7_count_65 ?_
    refine kq_get (i := 4) hx hb hts hin_X4 hown hK hP (by decide) (cE_4 rfl) rfl 4 (by decide) (hts (.fieldLink RX7 251 "WordFletchers$Sightings" "size" "I") (List.mem_cons_of_mem _ (List.mem_append_left _ (List.mem_append_left _ (List.mem_append_left _ (List.mem_append_left _ (List.mem_of_getElem? (i := 4) rfl))))))) rfl dX7_count_68 ?_
    exact mq_ret hx hb hr rfl (by subst_vars; (repeat' split) <;> first | rfl | omega) dX7_count_71 hlocks rfl
  by_cases c5 : wh = 4
  · refine lv_tableIn (off := 71) (tgt := 72) hx hb dX7_count_1 (by rw [iZ_toInt (by omega)]; omega) (by rw [iZ_toInt (by omega)]; omega) (by rw [iZ_toInt (by omega), c5]; rfl) (by decide) ?_
    refine lv_aload_n hx hb dX7_count_72 rfl (lv_at hl 0 rfl) ?_
    refine kq_get (i := 0) hx hb hts hin_X7 hown hK hP (by decide) (cE_0 rfl) rfl 6 (by decide) (hts (.fieldLink RX7 46 "WordFletchers" "past" "LWordFletchers$Past;") (List.mem_cons_of_mem _ (List.mem_append_left _ (List.mem_append_left _ (List.mem_append_left _ (List.mem_append_left _ (List.mem_of_getElem? (i := 5) rfl))))))) rfl dX7_count_73 ?_
    refine kq_get (i := 31) hx hb hts hin_X3 hown hK hP (isPa.l0 isPa_31) (cE_23 (isPa.s0 isPa_31)) rfl 1 (by decide) (hts (.fieldLink RX7 185 "WordFletchers$Past" "known" "I") (List.mem_cons_of_mem _ (List.mem_append_left _ (List.mem_append_left _ (List.mem_append_left _ (List.mem_append_left _ (List.mem_of_getElem? (i := 6) rfl))))))) rfl dX7_count_76 ?_
    exact mq_ret hx hb hr rfl (by subst_vars; (repeat' split) <;> first | rfl | omega) dX7_count_79 hlocks rfl
  by_cases c6 : wh = 5
  · refine lv_tableIn (off := 79) (tgt := 80) hx hb dX7_count_1 (by rw [iZ_toInt (by omega)]; omega) (by rw [iZ_toInt (by omega)]; omega) (by rw [iZ_toInt (by omega), c6]; rfl) (by decide) ?_
    refine W.eq (g2 := F0 m 80 ls []) rfl ?_
    refine lv_aload_n hx hb dX7_count_80 rfl (lv_at hl 0 rfl) ?_
    refine kq_get (i := 0) hx hb hts hin_X7 hown hK hP (by decide) (cE_0 rfl) rfl 1 (by decide) (hts (.fieldLink RX7 13 "WordFletchers" "textLength" "I") (List.mem_cons_of_mem _ (List.mem_append_left _ (List.mem_append_left _ (List.mem_append_left _ (List.mem_append_left _ (List.mem_of_getElem? (i := 7) rfl))))))) rfl dX7_count_81 ?_
    exact mq_ret hx hb hr rfl (by subst_vars; (repeat' split) <;> first | rfl | omega) dX7_count_84 hlocks rfl
  refine lv_tableOut (tgt := 85) hx hb dX7_count_1 (by rw [iZ_toInt (by omega)]; omega) (by decide) ?_
  refine lv_iconst (v := iZ (-1)) hx hb dX7_count_85 (by decide) ?_
  exact mq_ret hx hb hr rfl (by subst_vars; (repeat' split) <;> first | rfl | omega) dX7_count_86 hlocks rfl
set_option maxHeartbeats 4000000 in
set_option maxRecDepth 100000 in
theorem K_X7_trace (l : Launch) (D : va_G) (C : cC) (a b : Nat → Nat) (V : Nat → Nat → Int) : Met l yX7_trace wsX7_trace ({ frames := 0, cells := 0, slots := 0, locals := 0 }) (va_Pc [.ref (a 0)] (cOk D C a b V)) (vp_Sl (fun r => r = iL (V 0 12))) 0 0 (fun _ => False) := by
  refine Met.ofW (cc := cX7_trace) (maxL := 1) (ret := (some .long)) (by decide) rfl ?_
  intro p e s m args below meth c s₁ B hml hv
  obtain ⟨rfl, hP, hK, hN⟩ := hv
  have hx := B.exec
  have hb := B.bytes
  have hr := B.returns
  have hts := atoms_spec (ws := wsX7_trace) B.pre
  have hown : s.vm.findClass RX7 = some m.cls := findClass_of_methodNamed B.named
  have hlocks := B.notSynchronized
  have hin_X7 : ∀ w ∈ wsX70, w ∈ wsX7_trace := fun _ w_h => (List.mem_cons_of_mem _ (List.mem_append_right _ w_h))
  have hl := lv_entry ([.ref (a 0)]) (n := 1) (Nat.le_of_ble_eq_true rfl)
  rw [lg_entry_eq]
  generalize (lg_sl ([.ref (a 0)]) ++ List.replicate (1 - (lg_sl ([.ref (a 0)])).length) Slot.unset).toArray = ls at hl ⊢
  replace hl : lv_has ls 1 [(0, .ref (a 0))] := hl
  have hS : va_S (cA a) s.heap s.heap [] := va_S.rf
  refine lv_aload_n hx hb dX7_trace_0 rfl (lv_at hl 0 rfl) ?_
  refine kq_get (i := 0) hx hb hts hin_X7 hown hK hP (by decide) (cE_0 rfl) rfl 12 (by decide) (hts (.fieldLink RX7 76 "WordFletchers" "traced" "J") (List.mem_cons_of_mem _ (List.mem_append_left _ (List.mem_of_getElem? (i := 0) rfl)))) rfl dX7_trace_1 ?_
  exact mq_retL hx hb hr rfl dX7_trace_4 hlocks rfl
