set_option maxHeartbeats 4000000 in
set_option maxRecDepth 100000 in
theorem C_in (l : Launch) (vv lo hi : Int) (h1 : -2147483648 ≤ vv ∧ vv < 2147483648) (h2 : -2147483648 ≤ lo ∧ lo < 2147483648) (h3 : -2147483648 ≤ hi ∧ hi < 2147483648) : Met l yX8_in wsX8_in ({ frames := 0, cells := 0, slots := 0, locals := 0 }) (va_Pc [.int (iZ vv), .int (iZ lo), .int (iZ hi)] (fun _ => True)) (vp_Si (fun r => r = iZ (if (lo ≤ vv ∧ vv ≤ hi) then 1 else 0))) 0 0 (fun _ => False) := by
  refine Met.ofW (cc := cX8_in) (maxL := 3) (ret := (some .boolean)) (by decide) rfl ?_
  intro p e s m args below meth c s₁ B hml hv
  obtain ⟨rfl, -⟩ := hv
  have hx := B.exec
  have hb := B.bytes
  have hr := B.returns
  have hts := atoms_spec (ws := wsX8_in) B.pre
  have hown : s.vm.findClass RX8 = some m.cls := findClass_of_methodNamed B.named
  have hlocks := B.notSynchronized
  have hl := lv_entry ([.int (iZ vv), .int (iZ lo), .int (iZ hi)]) (n := 3) (Nat.le_of_ble_eq_true rfl)
  rw [lg_entry_eq]
  generalize (lg_sl ([.int (iZ vv), .int (iZ lo), .int (iZ hi)]) ++ List.replicate (3 - (lg_sl ([.int (iZ vv), .int (iZ lo), .int (iZ hi)])).length) Slot.unset).toArray = ls at hl ⊢
  replace hl : lv_has ls 3 [(0, .int (iZ vv)), (1, .int (iZ lo)), (2, .int (iZ hi))] := hl
  refine lv_iload_n hx hb dX8_in_0 rfl (lv_at hl 0 rfl) ?_
  refine lv_iload_n hx hb dX8_in_1 rfl (lv_at hl 1 rfl) ?_
  have K4 : ∀ (v3 : Int), (v3 = (if vv < lo then 0 else (if hi < vv then 0 else 1))) → ∀ ls : Array Slot, lv_has ls 3 [] → W p l e ((headSpec wsX8_in ({ frames := 0, cells := 0, slots := 0, locals := 0 })).room) s m (([.int (iZ vv), .int (iZ lo), .int (iZ hi)] : List Value).toArray) below meth c s.heap [] 0 0 (MQ below (vp_Si (fun r => r = iZ (if (lo ≤ vv ∧ vv ≤ hi) then 1 else 0))) (([.int (iZ vv), .int (iZ lo), .int (iZ hi)] : List Value).toArray) s 0 0 (fun _ => False)) (F0 m 15 ls [.int (iZ v3)]) := by
    intro v3 hv3 ls hl
    exact mq_ret hx hb hr (z_nbool (by first | omega | (split <;> omega))) (by first | omega | ((repeat' split) <;> first | rfl | omega)) dX8_in_15 hlocks rfl
  refine z_icmp_lt (x := vv) (y := lo) (tgt := 14) hx hb (by omega) (by omega) dX8_in_2 (by decide) (fun c1 => ?_) (fun c1 => ?_)
  · refine lv_iconst (v := iZ 0) hx hb dX8_in_14 (by decide) ?_
    exact K4 0 (by first | rfl | (rw [if_pos c1]; done) | omega | (subst_vars; first | rfl | (rw [if_pos c1]; done) | omega)) ls (lv_sub hl [] rfl)
  · refine lv_iload_n hx hb dX8_in_5 rfl (lv_at hl 0 rfl) ?_
    refine lv_iload_n hx hb dX8_in_6 rfl (lv_at hl 2 rfl) ?_
    refine z_icmp_gt (x := vv) (y := hi) (tgt := 14) hx hb (by omega) (by omega) dX8_in_7 (by decide) (fun c2 => ?_) (fun c2 => ?_)
    · refine lv_iconst (v := iZ 0) hx hb dX8_in_14 (by decide) ?_
      exact K4 0 (by first | rfl | (rw [if_neg c1, if_pos c2]; done) | omega | (subst_vars; first | rfl | (rw [if_neg c1, if_pos c2]; done) | omega)) ls (lv_sub hl [] rfl)
    · refine lv_iconst (v := iZ 1) hx hb dX8_in_10 (by decide) ?_
      refine lv_goto (tgt := 15) hx hb dX8_in_11 (by decide) ?_
      exact K4 1 (by first | rfl | (rw [if_neg c1, if_neg c2]; done) | omega | (subst_vars; first | rfl | (rw [if_neg c1, if_neg c2]; done) | omega)) ls (lv_sub hl [] rfl)
set_option maxHeartbeats 4000000 in
set_option maxRecDepth 100000 in
theorem C_has (l : Launch) (st kk : Int) (h1 : 0 ≤ st ∧ st < 2147483648) (h2 : 0 ≤ kk ∧ kk ≤ 30) : Met l yX8_has wsX8_has ({ frames := 0, cells := 0, slots := 0, locals := 0 }) (va_Pc [.int (iZ st), .int (iZ kk)] (fun _ => True)) (vp_Si (fun r => r = iZ (if (st / zp kk % 2 = 1) then 1 else 0))) 0 0 (fun _ => False) := by
  refine Met.ofW (cc := cX8_has) (maxL := 2) (ret := (some .boolean)) (by decide) rfl ?_
  intro p e s m args below meth c s₁ B hml hv
  obtain ⟨rfl, -⟩ := hv
  have hx := B.exec
  have hb := B.bytes
  have hr := B.returns
  have hts := atoms_spec (ws := wsX8_has) B.pre
  have hown : s.vm.findClass RX8 = some m.cls := findClass_of_methodNamed B.named
  have hlocks := B.notSynchronized
  have hl := lv_entry ([.int (iZ st), .int (iZ kk)]) (n := 2) (Nat.le_of_ble_eq_true rfl)
  rw [lg_entry_eq]
  generalize (lg_sl ([.int (iZ st), .int (iZ kk)]) ++ List.replicate (2 - (lg_sl ([.int (iZ st), .int (iZ kk)])).length) Slot.unset).toArray = ls at hl ⊢
  replace hl : lv_has ls 2 [(0, .int (iZ st)), (1, .int (iZ kk))] := hl
  refine W.eq (g2 := F0 m 0 ls []) rfl ?_
  refine lv_iload_n hx hb dX8_has_0 rfl (lv_at hl 0 rfl) ?_
  refine lv_iload_n hx hb dX8_has_1 rfl (lv_at hl 1 rfl) ?_
  refine z_ishr hx hb (by omega) (by omega) dX8_has_2 ?_
  refine lv_iconst (v := iZ 1) hx hb dX8_has_3 (by decide) ?_
  refine z_iand1 hx hb dX8_has_4 ?_
  refine lv_iconst (v := iZ 1) hx hb dX8_has_5 (by decide) ?_
  have K3 : ∀ (v2 : Int), (v2 = (if ((st / zp kk) % 2) = 1 then 1 else 0)) → ∀ ls : Array Slot, lv_has ls 2 [] → W p l e ((headSpec wsX8_has ({ frames := 0, cells := 0, slots := 0, locals := 0 })).room) s m (([.int (iZ st), .int (iZ kk)] : List Value).toArray) below meth c s.heap [] 0 0 (MQ below (vp_Si (fun r => r = iZ (if (st / zp kk % 2 = 1) then 1 else 0))) (([.int (iZ st), .int (iZ kk)] : List Value).toArray) s 0 0 (fun _ => False)) (F0 m 14 ls [.int (iZ v2)]) := by
    intro v2 hv2 ls hl
    exact mq_ret hx hb hr (z_nbool (by first | omega | (split <;> omega))) (by first | omega | ((repeat' split) <;> first | rfl | omega)) dX8_has_14 hlocks rfl
  refine z_icmp_ne (x := ((st / zp kk) % 2)) (y := 1) (tgt := 13) hx hb (by omega) (by omega) dX8_has_6 (by decide) (fun c1 => ?_) (fun c1 => ?_)
  · refine lv_iconst (v := iZ 0) hx hb dX8_has_13 (by decide) ?_
    exact K3 0 (by first | rfl | (rw [if_neg c1]; done) | omega | (subst_vars; first | rfl | (rw [if_neg c1]; done) | omega)) ls (lv_sub hl [] rfl)
  · refine lv_iconst (v := iZ 1) hx hb dX8_has_9 (by decide) ?_
    refine lv_goto (tgt := 14) hx hb dX8_has_10 (by decide) ?_
    exact K3 1 (by first | rfl | (rw [if_pos c1]; done) | omega | (subst_vars; first | rfl | (rw [if_pos c1]; done) | omega)) ls (lv_sub hl [] rfl)
set_option maxHeartbeats 4000000 in
set_option maxRecDepth 100000 in
theorem C_bitsOf (l : Launch) (st : Int) (h1 : 0 ≤ st ∧ st < 2147483648) : Met l yX8_bitsOf wsX8_bitsOf ({ frames := 0, cells := 0, slots := 0, locals := 0 }) (va_Pc [.int (iZ st)] (fun _ => True)) (vp_Si (fun r => r = iZ (s_bits st))) 0 0 (fun _ => False) := by
  refine Met.ofW (cc := cX8_bitsOf) (maxL := 3) (ret := (some .int)) (by decide) rfl ?_
  intro p e s m args below meth c s₁ B hml hv
  obtain ⟨rfl, -⟩ := hv
  have hx := B.exec
  have hb := B.bytes
  have hr := B.returns
  have hts := atoms_spec (ws := wsX8_bitsOf) B.pre
  have hown : s.vm.findClass RX8 = some m.cls := findClass_of_methodNamed B.named
  have hlocks := B.notSynchronized
  have hl := lv_entry ([.int (iZ st)]) (n := 3) (Nat.le_of_ble_eq_true rfl)
  rw [lg_entry_eq]
  generalize (lg_sl ([.int (iZ st)]) ++ List.replicate (3 - (lg_sl ([.int (iZ st)])).length) Slot.unset).toArray = ls at hl ⊢
  replace hl : lv_has ls 3 [(0, .int (iZ st))] := hl
  refine lv_iconst (v := iZ 0) hx hb dX8_bitsOf_0 (by decide) ?_
  refine W.eq (g2 := F0 m 1 ls [.int (iZ 0)]) rfl ?_
  refine lv_istore_n (lv' := [(1, .int (iZ 0)), (0, .int (iZ st))]) hx hb dX8_bitsOf_1 rfl hl (by decide) rfl (fun ls hl => ?_)
  refine lv_iconst (v := iZ 0) hx hb dX8_bitsOf_2 (by decide) ?_
  refine lv_istore_n (lv' := [(2, .int (iZ 0)), (1, .int (iZ 0)), (0, .int (iZ st))]) hx hb dX8_bitsOf_3 rfl hl (by decide) rfl (fun ls hl => ?_)
  replace hl : lv_has ls 3 [(2, .int (iZ (0 : Int))), (1, .int (iZ (0 : Int))), (0, .int (iZ st))] := lv_sub hl [0, 1, 2] rfl
  revert ls
  refine z_loop (σ := Int × Int) (fun x9 => (0 ≤ x9.2 ∧ x9.2 ≤ 31) ∧ (x9.1 = s_bitsN st (Int.toNat x9.2))) (fun x9 => [(2, .int (iZ (x9.2))), (1, .int (iZ (x9.1))), (0, .int (iZ st))]) 3 (fun x9 => (31 - x9.2).toNat) ((0 : Int), (0 : Int)) ⟨(by show 0 ≤ (0 : Int) ∧ (0 : Int) ≤ 31; omega), (by show (0 : Int) = s_bitsN st (Int.toNat (0 : Int)); rfl)⟩ ?_
  rintro ⟨nn, kk⟩ hI9 ih4 ls hl
  obtain ⟨i1, i2⟩ := hI9
  replace i1 : 0 ≤ kk ∧ kk ≤ 31 := i1
  replace i2 : nn = s_bitsN st (Int.toNat kk) := i2
  replace hl : lv_has ls 3 [(2, .int (iZ kk)), (1, .int (iZ nn)), (0, .int (iZ st))] := hl
  have hbd := s_bitsN_bd st (Int.toNat kk)
  refine lv_iload_n hx hb dX8_bitsOf_4 rfl (lv_at hl 0 rfl) ?_
  refine lv_bipush (v := iZ 31) hx hb dX8_bitsOf_5 (by decide) ?_
  refine z_icmp_ge (x := kk) (y := 31) (tgt := 24) hx hb (by omega) (by omega) dX8_bitsOf_7 (by decide) (fun c1 => ?_) (fun c1 => ?_)
  · refine lv_iload_n hx hb dX8_bitsOf_24 rfl (lv_at hl 1 rfl) ?_
    exact mq_ret hx hb hr rfl (by have q : kk = 31 := (by omega); subst q; rw [i2]; rfl) dX8_bitsOf_25 hlocks rfl
  · refine lv_iload_n hx hb dX8_bitsOf_10 rfl (lv_at hl 1 rfl) ?_
    refine lv_iload_n hx hb dX8_bitsOf_11 rfl (lv_at hl 2 rfl) ?_
    refine lv_iload_n hx hb dX8_bitsOf_12 rfl (lv_at hl 0 rfl) ?_
    refine z_ishr hx hb (by omega) (by omega) dX8_bitsOf_13 ?_
    refine lv_iconst (v := iZ 1) hx hb dX8_bitsOf_14 (by decide) ?_
    refine z_iand1 hx hb dX8_bitsOf_15 ?_
    refine W.eq (g2 := F0 m 16 ls [.int (iZ ((st / zp kk) % 2)), .int (iZ nn)]) rfl ?_
    refine z_iadd hx hb dX8_bitsOf_16 ?_
    refine lv_istore_n (lv' := [(1, .int (iZ (nn + ((st / zp kk) % 2)))), (2, .int (iZ kk)), (0, .int (iZ st))]) hx hb dX8_bitsOf_17 rfl hl (by decide) rfl (fun ls hl => ?_)
    refine lv_iinc (v := iZ (kk + 1)) (lv' := [(2, .int (iZ (kk + 1))), (1, .int (iZ (nn + ((st / zp kk) % 2)))), (0, .int (iZ st))]) hx hb dX8_bitsOf_18 hl (k := 1) rfl (iZ_add _ _) (by decide) rfl (fun ls hl => ?_)
    refine lv_goto (tgt := 4) hx hb dX8_bitsOf_21 (by decide) ?_
    exact ih4 ((nn + ((st / zp kk) % 2)), (kk + 1)) ⟨(by show 0 ≤ (kk + 1) ∧ (kk + 1) ≤ 31; omega), (by show (nn + ((st / zp kk) % 2)) = s_bitsN st (Int.toNat (kk + 1)); rw [s_bitsN_succ _ (by omega), ← i2])⟩ (by show (31 - (kk + 1)).toNat < (31 - kk).toNat; omega) ls (lv_sub hl [0, 1, 2] rfl)
set_option maxHeartbeats 4000000 in
set_option maxRecDepth 100000 in
theorem C_liftOf (l : Launch) (fe : Int) (h1 : -2147483648 ≤ fe ∧ fe < 2147483648) : Met l yX8_liftOf wsX8_liftOf ({ frames := 0, cells := 0, slots := 0, locals := 0 }) (va_Pc [.int (iZ fe)] (fun _ => True)) (vp_Si (fun r => r = iZ (s_lift fe))) 0 0 (fun _ => False) := by
  refine Met.ofW (cc := cX8_liftOf) (maxL := 1) (ret := (some .int)) (by decide) rfl ?_
  intro p e s m args below meth c s₁ B hml hv
  obtain ⟨rfl, -⟩ := hv
  have hx := B.exec
  have hb := B.bytes
  have hr := B.returns
  have hts := atoms_spec (ws := wsX8_liftOf) B.pre
  have hown : s.vm.findClass RX8 = some m.cls := findClass_of_methodNamed B.named
  have hlocks := B.notSynchronized
  have hl := lv_entry ([.int (iZ fe)]) (n := 1) (Nat.le_of_ble_eq_true rfl)
  rw [lg_entry_eq]
  generalize (lg_sl ([.int (iZ fe)]) ++ List.replicate (1 - (lg_sl ([.int (iZ fe)])).length) Slot.unset).toArray = ls at hl ⊢
  replace hl : lv_has ls 1 [(0, .int (iZ fe))] := hl
  refine lv_iload_n hx hb dX8_liftOf_0 rfl (lv_at hl 0 rfl) ?_
  have K5 : ∀ (v4 : Int), (v4 = (if fe = 0 then 3 else (if fe = 1 then 6 else (if fe = 2 then 4 else 2)))) → ∀ ls : Array Slot, lv_has ls 1 [] → W p l e ((headSpec wsX8_liftOf ({ frames := 0, cells := 0, slots := 0, locals := 0 })).room) s m (([.int (iZ fe)] : List Value).toArray) below meth c s.heap [] 0 0 (MQ below (vp_Si (fun r => r = iZ (s_lift fe))) (([.int (iZ fe)] : List Value).toArray) s 0 0 (fun _ => False)) (F0 m 28 ls [.int (iZ v4)]) := by
    intro v4 hv4 ls hl
    exact mq_ret hx hb hr rfl (by unfold s_lift; omega) dX8_liftOf_28 hlocks rfl
  refine z_if_ne (x := fe) (tgt := 8) hx hb (by omega) dX8_liftOf_1 (by decide) (fun c1 => ?_) (fun c1 => ?_)
  · refine lv_iload_n hx hb dX8_liftOf_8 rfl (lv_at hl 0 rfl) ?_
    refine lv_iconst (v := iZ 1) hx hb dX8_liftOf_9 (by decide) ?_
    refine z_icmp_ne (x := fe) (y := 1) (tgt := 18) hx hb (by omega) (by omega) dX8_liftOf_10 (by decide) (fun c2 => ?_) (fun c2 => ?_)
    · refine lv_iload_n hx hb dX8_liftOf_18 rfl (lv_at hl 0 rfl) ?_
      refine lv_iconst (v := iZ 2) hx hb dX8_liftOf_19 (by decide) ?_
      refine z_icmp_ne (x := fe) (y := 2) (tgt := 27) hx hb (by omega) (by omega) dX8_liftOf_20 (by decide) (fun c3 => ?_) (fun c3 => ?_)
      · refine W.eq (g2 := F0 m 27 ls []) rfl ?_
        refine lv_iconst (v := iZ 2) hx hb dX8_liftOf_27 (by decide) ?_
        exact K5 2 (by first | rfl | (rw [if_neg c1, if_neg c2, if_neg c3]; done) | omega | (subst_vars; first | rfl | (rw [if_neg c1, if_neg c2, if_neg c3]; done) | omega)) ls (lv_sub hl [] rfl)
      · refine lv_iconst (v := iZ 4) hx hb dX8_liftOf_23 (by decide) ?_
        refine lv_goto (tgt := 28) hx hb dX8_liftOf_24 (by decide) ?_
        exact K5 4 (by first | rfl | (rw [if_neg c1, if_neg c2, if_pos c3]; done) | omega | (subst_vars; first | rfl | (rw [if_neg c1, if_neg c2, if_pos c3]; done) | omega)) ls (lv_sub hl [] rfl)
    · refine lv_bipush (v := iZ 6) hx hb dX8_liftOf_13 (by decide) ?_
      refine lv_goto (tgt := 28) hx hb dX8_liftOf_15 (by decide) ?_
      exact K5 6 (by first | rfl | (rw [if_neg c1, if_pos c2]; done) | omega | (subst_vars; first | rfl | (rw [if_neg c1, if_pos c2]; done) | omega)) ls (lv_sub hl [] rfl)
  · refine lv_iconst (v := iZ 3) hx hb dX8_liftOf_4 (by decide) ?_
    refine lv_goto (tgt := 28) hx hb dX8_liftOf_5 (by decide) ?_
    exact K5 3 (by first | rfl | (rw [if_pos c1]; done) | omega | (subst_vars; first | rfl | (rw [if_pos c1]; done) | omega)) ls (lv_sub hl [] rfl)
set_option maxHeartbeats 4000000 in
set_option maxRecDepth 100000 in
theorem C_isOne (l : Launch) (D : va_G) (C : mC) (h : Nat) (a : Nat → Nat) (M : Nat → Nat → Int) (pe : Int) (hI : mI M) (h1 : -2147483648 ≤ pe ∧ pe < 2147483648) : Met l yX8_isOne wsX8_isOne ({ frames := 1, cells := 0, slots := 0, locals := 22 }) (va_Pc [.ref h, .int (iZ pe)] (mOk D C h a M)) (vp_Si (fun r => r = iZ (if (0 ≤ pe ∧ pe < M 2 0) then 1 else 0))) 0 0 (fun _ => False) := by
  refine Met.ofW (cc := cX8_isOne) (maxL := 2) (ret := (some .boolean)) (by decide) rfl ?_
  intro p e s m args below meth c s₁ B hml hv
  obtain ⟨rfl, hP, hK⟩ := hv
  have hx := B.exec
  have hb := B.bytes
  have hr := B.returns
  have hts := atoms_spec (ws := wsX8_isOne) B.pre
  have hown : s.vm.findClass RX8 = some m.cls := findClass_of_methodNamed B.named
  have hlocks := B.notSynchronized
  have hin : ∀ w ∈ wsX80, w ∈ wsX8_isOne := fun _ w_h => (List.mem_cons_of_mem _ (List.mem_append_right _ w_h))
  have hl := lv_entry ([.ref h, .int (iZ pe)]) (n := 2) (Nat.le_of_ble_eq_true rfl)
  rw [lg_entry_eq]
  generalize (lg_sl ([.ref h, .int (iZ pe)]) ++ List.replicate (2 - (lg_sl ([.ref h, .int (iZ pe)])).length) Slot.unset).toArray = ls at hl ⊢
  replace hl : lv_has ls 2 [(0, .ref h), (1, .int (iZ pe))] := hl
  have hnw := mI_now hI
  refine lv_iload_n hx hb dX8_isOne_0 rfl (lv_at hl 1 rfl) ?_
  refine lv_iconst (v := iZ 0) hx hb dX8_isOne_1 (by decide) ?_
  refine lv_aload_n hx hb dX8_isOne_2 rfl (lv_at hl 0 rfl) ?_
  refine mq_get hx hb hts hin hown hK hP 2 (by decide) (hts (.fieldLink RX8 13 "WordFletchersModel" "people" "[I") (List.mem_cons_of_mem _ (List.mem_append_left _ (List.mem_of_getElem? (i := 0) rfl)))) rfl dX8_isOne_3 ?_
  refine W.eq (g2 := F0 m 6 ls [.ref (a 2), .int (iZ 0), .int (iZ pe)]) rfl ?_
  refine lv_iconst (v := iZ 0) hx hb dX8_isOne_6 (by decide) ?_
  refine mq_iald hx hb hK hP 2 2 (n := 2) rfl (by decide) 0 rfl (by omega) dX8_isOne_7 ?_
  refine lv_iconst (v := iZ 1) hx hb dX8_isOne_8 (by decide) ?_
  refine z_isub hx hb dX8_isOne_9 ?_
  refine mq_cs (As := [.int (iZ pe), .int (iZ 0), .int (iZ ((M 2 0) - 1))]) (rest := []) ⟨hx, hb, hml, hown, hts⟩ (C_in l pe 0 ((M 2 0) - 1) (by omega) (by omega) (by omega)) (va_cwS 3 hts gX8_isOne_X8_in rfl rfl rfl (by decide +kernel) ⟨Nat.le_of_ble_eq_true rfl, Nat.le_of_ble_eq_true rfl⟩) rfl rfl hl.1 (Nat.le_of_ble_eq_true rfl) ⟨Nat.le_of_ble_eq_true rfl, Nat.le_of_ble_eq_true rfl⟩ dX8_isOne_10 ?_
  exact mq_ret hx hb hr (z_nbool (by first | omega | (split <;> omega))) (by first | omega | ((repeat' split) <;> first | rfl | omega)) dX8_isOne_13 hlocks rfl
set_option maxHeartbeats 4000000 in
set_option maxRecDepth 100000 in
theorem C_isSaying (l : Launch) (D : va_G) (C : mC) (h : Nat) (a : Nat → Nat) (M : Nat → Nat → Int) (sy : Int) (hI : mI M) (h1 : -2147483648 ≤ sy ∧ sy < 2147483648) : Met l yX8_isSaying wsX8_isSaying ({ frames := 1, cells := 0, slots := 0, locals := 22 }) (va_Pc [.ref h, .int (iZ sy)] (mOk D C h a M)) (vp_Si (fun r => r = iZ (if (0 ≤ sy ∧ sy < M 5 0) then 1 else 0))) 0 0 (fun _ => False) := by
  refine Met.ofW (cc := cX8_isSaying) (maxL := 2) (ret := (some .boolean)) (by decide) rfl ?_
  intro p e s m args below meth c s₁ B hml hv
  obtain ⟨rfl, hP, hK⟩ := hv
  have hx := B.exec
  have hb := B.bytes
  have hr := B.returns
  have hts := atoms_spec (ws := wsX8_isSaying) B.pre
  have hown : s.vm.findClass RX8 = some m.cls := findClass_of_methodNamed B.named
  have hlocks := B.notSynchronized
  have hin : ∀ w ∈ wsX80, w ∈ wsX8_isSaying := fun _ w_h => (List.mem_cons_of_mem _ (List.mem_append_right _ w_h))
  have hl := lv_entry ([.ref h, .int (iZ sy)]) (n := 2) (Nat.le_of_ble_eq_true rfl)
  rw [lg_entry_eq]
  generalize (lg_sl ([.ref h, .int (iZ sy)]) ++ List.replicate (2 - (lg_sl ([.ref h, .int (iZ sy)])).length) Slot.unset).toArray = ls at hl ⊢
  replace hl : lv_has ls 2 [(0, .ref h), (1, .int (iZ sy))] := hl
  have hnw := mI_now hI
  refine lv_iload_n hx hb dX8_isSaying_0 rfl (lv_at hl 1 rfl) ?_
  refine lv_iconst (v := iZ 0) hx hb dX8_isSaying_1 (by decide) ?_
  refine lv_aload_n hx hb dX8_isSaying_2 rfl (lv_at hl 0 rfl) ?_
  refine mq_get hx hb hts hin hown hK hP 5 (by decide) (hts (.fieldLink RX8 23 "WordFletchersModel" "sayings" "[I") (List.mem_cons_of_mem _ (List.mem_append_left _ (List.mem_of_getElem? (i := 0) rfl)))) rfl dX8_isSaying_3 ?_
  refine lv_iconst (v := iZ 0) hx hb dX8_isSaying_6 (by decide) ?_
  refine mq_iald hx hb hK hP 5 5 (n := 2) rfl (by decide) 0 rfl (by omega) dX8_isSaying_7 ?_
  refine W.eq (g2 := F0 m 8 ls [.int (iZ (M 5 0)), .int (iZ 0), .int (iZ sy)]) rfl ?_
  refine lv_iconst (v := iZ 1) hx hb dX8_isSaying_8 (by decide) ?_
  refine z_isub hx hb dX8_isSaying_9 ?_
  refine mq_cs (As := [.int (iZ sy), .int (iZ 0), .int (iZ ((M 5 0) - 1))]) (rest := []) ⟨hx, hb, hml, hown, hts⟩ (C_in l sy 0 ((M 5 0) - 1) (by omega) (by omega) (by omega)) (va_cwS 3 hts gX8_isSaying_X8_in rfl rfl rfl (by decide +kernel) ⟨Nat.le_of_ble_eq_true rfl, Nat.le_of_ble_eq_true rfl⟩) rfl rfl hl.1 (Nat.le_of_ble_eq_true rfl) ⟨Nat.le_of_ble_eq_true rfl, Nat.le_of_ble_eq_true rfl⟩ dX8_isSaying_10 ?_
  exact mq_ret hx hb hr (z_nbool (by first | omega | (split <;> omega))) (by first | omega | ((repeat' split) <;> first | rfl | omega)) dX8_isSaying_13 hlocks rfl
set_option maxHeartbeats 4000000 in
set_option maxRecDepth 100000 in
theorem C_isShot (l : Launch) (fe nn sd : Int) (h1 : -2147483648 ≤ fe ∧ fe < 2147483648) (h2 : -2147483648 ≤ nn ∧ nn < 2147483648) (h3 : -2147483648 ≤ sd ∧ sd < 2147483648) : Met l yX8_isShot wsX8_isShot ({ frames := 1, cells := 0, slots := 0, locals := 22 }) (va_Pc [.int (iZ fe), .int (iZ nn), .int (iZ sd)] (fun _ => True)) (vp_Si (fun r => r = iZ (if ((0 ≤ fe ∧ fe ≤ 3) ∧ (0 ≤ nn ∧ nn ≤ 3) ∧ (0 ≤ sd ∧ sd ≤ 1)) then 1 else 0))) 0 0 (fun _ => False) := by
  refine Met.ofW (cc := cX8_isShot) (maxL := 3) (ret := (some .boolean)) (by decide) rfl ?_
  intro p e s m args below meth c s₁ B hml hv
  obtain ⟨rfl, -⟩ := hv
  have hx := B.exec
  have hb := B.bytes
  have hr := B.returns
  have hts := atoms_spec (ws := wsX8_isShot) B.pre
  have hown : s.vm.findClass RX8 = some m.cls := findClass_of_methodNamed B.named
  have hlocks := B.notSynchronized
  have hl := lv_entry ([.int (iZ fe), .int (iZ nn), .int (iZ sd)]) (n := 3) (Nat.le_of_ble_eq_true rfl)
  rw [lg_entry_eq]
  generalize (lg_sl ([.int (iZ fe), .int (iZ nn), .int (iZ sd)]) ++ List.replicate (3 - (lg_sl ([.int (iZ fe), .int (iZ nn), .int (iZ sd)])).length) Slot.unset).toArray = ls at hl ⊢
  replace hl : lv_has ls 3 [(0, .int (iZ fe)), (1, .int (iZ nn)), (2, .int (iZ sd))] := hl
  refine lv_iload_n hx hb dX8_isShot_0 rfl (lv_at hl 0 rfl) ?_
  refine lv_iconst (v := iZ 0) hx hb dX8_isShot_1 (by decide) ?_
  refine lv_iconst (v := iZ 3) hx hb dX8_isShot_2 (by decide) ?_
  refine mq_cs (As := [.int (iZ fe), .int (iZ 0), .int (iZ 3)]) (rest := []) ⟨hx, hb, hml, hown, hts⟩ (C_in l fe 0 3 (by omega) (by omega) (by omega)) (va_cwS 3 hts gX8_isShot_X8_in rfl rfl rfl (by decide +kernel) ⟨Nat.le_of_ble_eq_true rfl, Nat.le_of_ble_eq_true rfl⟩) rfl rfl hl.1 (Nat.le_of_ble_eq_true rfl) ⟨Nat.le_of_ble_eq_true rfl, Nat.le_of_ble_eq_true rfl⟩ dX8_isShot_3 ?_
  have K5 : ∀ (v4 : Int), (v4 = (if (0 ≤ fe ∧ fe ≤ 3) then (if (0 ≤ nn ∧ nn ≤ 3) then (if (0 ≤ sd ∧ sd ≤ 1) then 1 else 0) else 0) else 0)) → ∀ ls : Array Slot, lv_has ls 3 [] → W p l e ((headSpec wsX8_isShot ({ frames := 1, cells := 0, slots := 0, locals := 22 })).room) s m (([.int (iZ fe), .int (iZ nn), .int (iZ sd)] : List Value).toArray) below meth c s.heap [] 0 0 (MQ below (vp_Si (fun r => r = iZ (if ((0 ≤ fe ∧ fe ≤ 3) ∧ (0 ≤ nn ∧ nn ≤ 3) ∧ (0 ≤ sd ∧ sd ≤ 1)) then 1 else 0))) (([.int (iZ fe), .int (iZ nn), .int (iZ sd)] : List Value).toArray) s 0 0 (fun _ => False)) (F0 m 32 ls [.int (iZ v4)]) := by
    intro v4 hv4 ls hl
    refine W.eq (g2 := F0 m 32 ls [.int (iZ v4)]) rfl ?_
    exact mq_ret hx hb hr (z_nbool (by first | omega | (split <;> omega))) (by first | omega | ((repeat' split) <;> first | rfl | omega)) dX8_isShot_32 hlocks rfl
  refine z_ifb_eq (P := (0 ≤ fe ∧ fe ≤ 3)) (tgt := 31) hx hb dX8_isShot_6 (by decide) (fun c1 => ?_) (fun c1 => ?_)
  · refine lv_iconst (v := iZ 0) hx hb dX8_isShot_31 (by decide) ?_
    exact K5 0 (by first | rfl | (rw [if_neg c1]; done) | omega | (subst_vars; first | rfl | (rw [if_neg c1]; done) | omega)) ls (lv_sub hl [] rfl)
  · refine lv_iload_n hx hb dX8_isShot_9 rfl (lv_at hl 1 rfl) ?_
    refine lv_iconst (v := iZ 0) hx hb dX8_isShot_10 (by decide) ?_
    refine W.eq (g2 := F0 m 11 ls [.int (iZ 0), .int (iZ nn)]) rfl ?_
    refine lv_iconst (v := iZ 3) hx hb dX8_isShot_11 (by decide) ?_
    refine mq_cs (As := [.int (iZ nn), .int (iZ 0), .int (iZ 3)]) (rest := []) ⟨hx, hb, hml, hown, hts⟩ (C_in l nn 0 3 (by omega) (by omega) (by omega)) (va_cwS 3 hts gX8_isShot_X8_in rfl rfl rfl (by decide +kernel) ⟨Nat.le_of_ble_eq_true rfl, Nat.le_of_ble_eq_true rfl⟩) rfl rfl hl.1 (Nat.le_of_ble_eq_true rfl) ⟨Nat.le_of_ble_eq_true rfl, Nat.le_of_ble_eq_true rfl⟩ dX8_isShot_12 ?_
    refine z_ifb_eq (P := (0 ≤ nn ∧ nn ≤ 3)) (tgt := 31) hx hb dX8_isShot_15 (by decide) (fun c2 => ?_) (fun c2 => ?_)
    · refine lv_iconst (v := iZ 0) hx hb dX8_isShot_31 (by decide) ?_
      exact K5 0 (by first | rfl | (rw [if_pos c1, if_neg c2]; done) | omega | (subst_vars; first | rfl | (rw [if_pos c1, if_neg c2]; done) | omega)) ls (lv_sub hl [] rfl)
    · refine lv_iload_n hx hb dX8_isShot_18 rfl (lv_at hl 2 rfl) ?_
      refine lv_iconst (v := iZ 0) hx hb dX8_isShot_19 (by decide) ?_
      refine lv_iconst (v := iZ 1) hx hb dX8_isShot_20 (by decide) ?_
      refine mq_cs (As := [.int (iZ sd), .int (iZ 0), .int (iZ 1)]) (rest := []) ⟨hx, hb, hml, hown, hts⟩ (C_in l sd 0 1 (by omega) (by omega) (by omega)) (va_cwS 3 hts gX8_isShot_X8_in rfl rfl rfl (by decide +kernel) ⟨Nat.le_of_ble_eq_true rfl, Nat.le_of_ble_eq_true rfl⟩) rfl rfl hl.1 (Nat.le_of_ble_eq_true rfl) ⟨Nat.le_of_ble_eq_true rfl, Nat.le_of_ble_eq_true rfl⟩ dX8_isShot_21 ?_
      refine z_ifb_eq (P := (0 ≤ sd ∧ sd ≤ 1)) (tgt := 31) hx hb dX8_isShot_24 (by decide) (fun c3 => ?_) (fun c3 => ?_)
      · refine lv_iconst (v := iZ 0) hx hb dX8_isShot_31 (by decide) ?_
        exact K5 0 (by first | rfl | (rw [if_pos c1, if_pos c2, if_neg c3]; done) | omega | (subst_vars; first | rfl | (rw [if_pos c1, if_pos c2, if_neg c3]; done) | omega)) ls (lv_sub hl [] rfl)
      · refine lv_iconst (v := iZ 1) hx hb dX8_isShot_27 (by decide) ?_
        refine lv_goto (tgt := 32) hx hb dX8_isShot_28 (by decide) ?_
        exact K5 1 (by first | rfl | (rw [if_pos c1, if_pos c2, if_pos c3]; done) | omega | (subst_vars; first | rfl | (rw [if_pos c1, if_pos c2, if_pos c3]; done) | omega)) ls (lv_sub hl [] rfl)
theorem landsBy_1 {tw we dm fe nn v2 v6 : Int} (h2 : v2 = if fe = 2 then 0 else dm) (h6 : v6 = if nn = 0 then tw else if 0 ≤ nn * s_lift fe + tw - we - v2 then nn * s_lift fe + tw - we - v2 else 0) : s_fly tw we dm fe nn = v6 := by unfold s_fly; omega
theorem landsBy_2 {pl v6 v11 v16 v19 v22 fe nn sd bw : Int} (h11 : v11 = if nn = 0 then if sd = 0 then 1 else 0 else if sd = 1 then 1 else 0) (h16 : v16 = if v6 ≤ 0 then 0 else if nn = 0 then 1 else if fe = 3 then 0 else 1) (h19 : v19 = if v11 = 0 then -v6 else v6) (h22 : v22 = if v16 = 0 then 0 else bw) : s_to pl v6 fe nn sd bw = pl + v19 + v22 := by unfold s_to; omega
set_option maxHeartbeats 4000000 in
set_option maxRecDepth 100000 in
theorem C_landsBy (l : Launch) (D : va_G) (C : mC) (h : Nat) (a : Nat → Nat) (M : Nat → Nat → Int) (pe sy fe nn sd bw : Int) (hI : mI M) (h1 : 0 ≤ pe ∧ pe < M 2 0) (h2 : 0 ≤ sy ∧ sy < M 5 0) (h3 : 0 ≤ fe ∧ fe ≤ 3) (h4 : 0 ≤ nn ∧ nn ≤ 3) (h5 : 0 ≤ sd ∧ sd ≤ 1) (h6 : -4 ≤ bw ∧ bw ≤ 4) : Met l yX8_landsBy wsX8_landsBy ({ frames := 1, cells := 0, slots := 0, locals := 22 }) (va_Pc [.ref h, .int (iZ pe), .int (iZ sy), .int (iZ fe), .int (iZ nn), .int (iZ sd), .int (iZ bw)] (mOk D C h a M)) (vp_Si (fun r => r = iZ (s_land (M 3 (Int.toNat pe)) (M 7 (Int.toNat sy)) (M 6 (Int.toNat sy)) (M 19 1) fe nn sd bw))) 0 0 (fun _ => False) := by
  refine Met.ofW (cc := cX8_landsBy) (maxL := 11) (ret := (some .int)) (by decide) rfl ?_
  intro p e s m args below meth c s₁ B hml hv
  obtain ⟨rfl, hP, hK⟩ := hv
  have hx := B.exec
  have hb := B.bytes
  have hr := B.returns
  have hts := atoms_spec (ws := wsX8_landsBy) B.pre
  have hown : s.vm.findClass RX8 = some m.cls := findClass_of_methodNamed B.named
  have hlocks := B.notSynchronized
  have hin : ∀ w ∈ wsX80, w ∈ wsX8_landsBy := fun _ w_h => (List.mem_cons_of_mem _ (List.mem_append_right _ w_h))
  have hl := lv_entry ([.ref h, .int (iZ pe), .int (iZ sy), .int (iZ fe), .int (iZ nn), .int (iZ sd), .int (iZ bw)]) (n := 11) (Nat.le_of_ble_eq_true rfl)
  rw [lg_entry_eq]
  generalize (lg_sl ([.ref h, .int (iZ pe), .int (iZ sy), .int (iZ fe), .int (iZ nn), .int (iZ sd), .int (iZ bw)]) ++ List.replicate (11 - (lg_sl ([.ref h, .int (iZ pe), .int (iZ sy), .int (iZ fe), .int (iZ nn), .int (iZ sd), .int (iZ bw)])).length) Slot.unset).toArray = ls at hl ⊢
  replace hl : lv_has ls 11 [(0, .ref h), (1, .int (iZ pe)), (2, .int (iZ sy)), (3, .int (iZ fe)), (4, .int (iZ nn)), (5, .int (iZ sd)), (6, .int (iZ bw))] := hl
  have hnw := mI_now hI
  have hq1 := mI_pe hI h1
  have hq2 := mI_sy hI h2
  have hq3 := s_lift_mul fe h4
  refine lv_iload hx hb dX8_landsBy_0 (lv_at hl 4 rfl) ?_
  refine lv_iload_n hx hb dX8_landsBy_2 rfl (lv_at hl 3 rfl) ?_
  refine mq_cs (As := [.int (iZ fe)]) (rest := [.int (iZ nn)]) ⟨hx, hb, hml, hown, hts⟩ (C_liftOf l fe (by omega)) (va_cwS 1 hts gX8_landsBy_X8_liftOf rfl rfl rfl (by decide +kernel) ⟨Nat.le_of_ble_eq_true rfl, Nat.le_of_ble_eq_true rfl⟩) rfl rfl hl.1 (Nat.le_of_ble_eq_true rfl) ⟨Nat.le_of_ble_eq_true rfl, Nat.le_of_ble_eq_true rfl⟩ dX8_landsBy_3 ?_
  have hlf := s_lift_bd fe
  refine z_imul hx hb dX8_landsBy_6 ?_
  refine lv_aload_n hx hb dX8_landsBy_7 rfl (lv_at hl 0 rfl) ?_
  refine mq_get hx hb hts hin hown hK hP 7 (by decide) (hts (.fieldLink RX8 29 "WordFletchersModel" "twist" "[I") (List.mem_cons_of_mem _ (List.mem_append_left _ (List.mem_of_getElem? (i := 0) rfl)))) rfl dX8_landsBy_8 ?_
  refine lv_iload_n hx hb dX8_landsBy_11 rfl (lv_at hl 2 rfl) ?_
  refine mq_iald hx hb hK hP 7 7 (n := 12) rfl (by decide) (Int.toNat sy) rfl (by omega) dX8_landsBy_12 ?_
  refine z_iadd hx hb dX8_landsBy_13 ?_
  refine lv_aload_n hx hb dX8_landsBy_14 rfl (lv_at hl 0 rfl) ?_
  refine mq_get hx hb hts hin hown hK hP 6 (by decide) (hts (.fieldLink RX8 26 "WordFletchersModel" "weight" "[I") (List.mem_cons_of_mem _ (List.mem_append_left _ (List.mem_of_getElem? (i := 1) rfl)))) rfl dX8_landsBy_15 ?_
  refine W.eq (g2 := F0 m 18 ls [.ref (a 6), .int (iZ ((nn * s_lift fe) + (M 7 (Int.toNat sy))))]) rfl ?_
  refine lv_iload_n hx hb dX8_landsBy_18 rfl (lv_at hl 2 rfl) ?_
  refine mq_iald hx hb hK hP 6 6 (n := 12) rfl (by decide) (Int.toNat sy) rfl (by omega) dX8_landsBy_19 ?_
  refine z_isub hx hb dX8_landsBy_20 ?_
  refine lv_iload_n hx hb dX8_landsBy_21 rfl (lv_at hl 3 rfl) ?_
  refine lv_iconst (v := iZ 2) hx hb dX8_landsBy_22 (by decide) ?_
  have K3 : ∀ (v2 : Int), (v2 = (if fe = 2 then 0 else (M 19 1))) → ∀ ls : Array Slot, lv_has ls 11 [(0, .ref h), (1, .int (iZ pe)), (2, .int (iZ sy)), (3, .int (iZ fe)), (4, .int (iZ nn)), (5, .int (iZ sd)), (6, .int (iZ bw))] → W p l e ((headSpec wsX8_landsBy ({ frames := 1, cells := 0, slots := 0, locals := 22 })).room) s m (([.ref h, .int (iZ pe), .int (iZ sy), .int (iZ fe), .int (iZ nn), .int (iZ sd), .int (iZ bw)] : List Value).toArray) below meth c s.heap [] 0 0 (MQ below (vp_Si (fun r => r = iZ (s_land (M 3 (Int.toNat pe)) (M 7 (Int.toNat sy)) (M 6 (Int.toNat sy)) (M 19 1) fe nn sd bw))) (([.ref h, .int (iZ pe), .int (iZ sy), .int (iZ fe), .int (iZ nn), .int (iZ sd), .int (iZ bw)] : List Value).toArray) s 0 0 (fun _ => False)) (F0 m 36 ls [.int (iZ v2), .int (iZ (((nn * s_lift fe) + (M 7 (Int.toNat sy))) - (M 6 (Int.toNat sy))))]) := by
    intro v2 hv2 ls hl
    refine W.eq (g2 := F0 m 36 ls [.int (iZ v2), .int (iZ (((nn * s_lift fe) + (M 7 (Int.toNat sy))) - (M 6 (Int.toNat sy))))]) rfl ?_
    refine z_isub hx hb dX8_landsBy_36 ?_
    refine lv_istore (lv' := [(7, .int (iZ ((((nn * s_lift fe) + (M 7 (Int.toNat sy))) - (M 6 (Int.toNat sy))) - v2))), (0, .ref h), (1, .int (iZ pe)), (2, .int (iZ sy)), (3, .int (iZ fe)), (4, .int (iZ nn)), (5, .int (iZ sd)), (6, .int (iZ bw))]) hx hb dX8_landsBy_37 hl (by decide) rfl (fun ls hl => ?_)
    refine lv_iload hx hb dX8_landsBy_39 (lv_at hl 5 rfl) ?_
    have K7 : ∀ (v6 : Int), (v6 = (if nn = 0 then (M 7 (Int.toNat sy)) else (if 0 ≤ ((((nn * s_lift fe) + (M 7 (Int.toNat sy))) - (M 6 (Int.toNat sy))) - v2) then ((((nn * s_lift fe) + (M 7 (Int.toNat sy))) - (M 6 (Int.toNat sy))) - v2) else 0))) → ∀ ls : Array Slot, lv_has ls 11 [(0, .ref h), (1, .int (iZ pe)), (3, .int (iZ fe)), (4, .int (iZ nn)), (5, .int (iZ sd)), (6, .int (iZ bw))] → W p l e ((headSpec wsX8_landsBy ({ frames := 1, cells := 0, slots := 0, locals := 22 })).room) s m (([.ref h, .int (iZ pe), .int (iZ sy), .int (iZ fe), .int (iZ nn), .int (iZ sd), .int (iZ bw)] : List Value).toArray) below meth c s.heap [] 0 0 (MQ below (vp_Si (fun r => r = iZ (s_land (M 3 (Int.toNat pe)) (M 7 (Int.toNat sy)) (M 6 (Int.toNat sy)) (M 19 1) fe nn sd bw))) (([.ref h, .int (iZ pe), .int (iZ sy), .int (iZ fe), .int (iZ nn), .int (iZ sd), .int (iZ bw)] : List Value).toArray) s 0 0 (fun _ => False)) (F0 m 64 ls [.int (iZ v6)]) := by
      intro v6 hv6 ls hl
      refine lv_istore (lv' := [(7, .int (iZ v6)), (0, .ref h), (1, .int (iZ pe)), (3, .int (iZ fe)), (4, .int (iZ nn)), (5, .int (iZ sd)), (6, .int (iZ bw))]) hx hb dX8_landsBy_64 hl (by decide) rfl (fun ls hl => ?_)
      refine lv_iload hx hb dX8_landsBy_66 (lv_at hl 4 rfl) ?_
      have K12 : ∀ (v11 : Int), (v11 = (if nn = 0 then (if sd = 0 then 1 else 0) else (if sd = 1 then 1 else 0))) → ∀ ls : Array Slot, lv_has ls 11 [(7, .int (iZ v6)), (0, .ref h), (1, .int (iZ pe)), (3, .int (iZ fe)), (4, .int (iZ nn)), (6, .int (iZ bw))] → W p l e ((headSpec wsX8_landsBy ({ frames := 1, cells := 0, slots := 0, locals := 22 })).room) s m (([.ref h, .int (iZ pe), .int (iZ sy), .int (iZ fe), .int (iZ nn), .int (iZ sd), .int (iZ bw)] : List Value).toArray) below meth c s.heap [] 0 0 (MQ below (vp_Si (fun r => r = iZ (s_land (M 3 (Int.toNat pe)) (M 7 (Int.toNat sy)) (M 6 (Int.toNat sy)) (M 19 1) fe nn sd bw))) (([.ref h, .int (iZ pe), .int (iZ sy), .int (iZ fe), .int (iZ nn), .int (iZ sd), .int (iZ bw)] : List Value).toArray) s 0 0 (fun _ => False)) (F0 m 95 ls [.int (iZ v11)]) := by
        intro v11 hv11 ls hl
        refine lv_istore (lv' := [(8, .int (iZ v11)), (7, .int (iZ v6)), (0, .ref h), (1, .int (iZ pe)), (3, .int (iZ fe)), (4, .int (iZ nn)), (6, .int (iZ bw))]) hx hb dX8_landsBy_95 hl (by decide) rfl (fun ls hl => ?_)
        refine lv_iload hx hb dX8_landsBy_97 (lv_at hl 1 rfl) ?_
        have K17 : ∀ (v16 : Int), (v16 = (if v6 ≤ 0 then 0 else (if nn = 0 then 1 else (if fe = 3 then 0 else 1)))) → ∀ ls : Array Slot, lv_has ls 11 [(8, .int (iZ v11)), (7, .int (iZ v6)), (0, .ref h), (1, .int (iZ pe)), (6, .int (iZ bw))] → W p l e ((headSpec wsX8_landsBy ({ frames := 1, cells := 0, slots := 0, locals := 22 })).room) s m (([.ref h, .int (iZ pe), .int (iZ sy), .int (iZ fe), .int (iZ nn), .int (iZ sd), .int (iZ bw)] : List Value).toArray) below meth c s.heap [] 0 0 (MQ below (vp_Si (fun r => r = iZ (s_land (M 3 (Int.toNat pe)) (M 7 (Int.toNat sy)) (M 6 (Int.toNat sy)) (M 19 1) fe nn sd bw))) (([.ref h, .int (iZ pe), .int (iZ sy), .int (iZ fe), .int (iZ nn), .int (iZ sd), .int (iZ bw)] : List Value).toArray) s 0 0 (fun _ => False)) (F0 m 117 ls [.int (iZ v16)]) := by
          intro v16 hv16 ls hl
          refine lv_istore (lv' := [(9, .int (iZ v16)), (8, .int (iZ v11)), (7, .int (iZ v6)), (0, .ref h), (1, .int (iZ pe)), (6, .int (iZ bw))]) hx hb dX8_landsBy_117 hl (by decide) rfl (fun ls hl => ?_)
          refine lv_aload_n hx hb dX8_landsBy_119 rfl (lv_at hl 3 rfl) ?_
          refine mq_get hx hb hts hin hown hK hP 3 (by decide) (hts (.fieldLink RX8 17 "WordFletchersModel" "place" "[I") (List.mem_cons_of_mem _ (List.mem_append_left _ (List.mem_of_getElem? (i := 3) rfl)))) rfl dX8_landsBy_120 ?_
          refine lv_iload_n hx hb dX8_landsBy_123 rfl (lv_at hl 4 rfl) ?_
          refine mq_iald hx hb hK hP 3 3 (n := 12) rfl (by decide) (Int.toNat pe) rfl (by omega) dX8_landsBy_124 ?_
          refine W.eq (g2 := F0 m 125 ls [.int (iZ (M 3 (Int.toNat pe)))]) rfl ?_
          refine lv_iload hx hb dX8_landsBy_125 (lv_at hl 1 rfl) ?_
          have K20 : ∀ (v19 : Int), (v19 = (if v11 = 0 then (-v6) else v6)) → ∀ ls : Array Slot, lv_has ls 11 [(9, .int (iZ v16)), (6, .int (iZ bw))] → W p l e ((headSpec wsX8_landsBy ({ frames := 1, cells := 0, slots := 0, locals := 22 })).room) s m (([.ref h, .int (iZ pe), .int (iZ sy), .int (iZ fe), .int (iZ nn), .int (iZ sd), .int (iZ bw)] : List Value).toArray) below meth c s.heap [] 0 0 (MQ below (vp_Si (fun r => r = iZ (s_land (M 3 (Int.toNat pe)) (M 7 (Int.toNat sy)) (M 6 (Int.toNat sy)) (M 19 1) fe nn sd bw))) (([.ref h, .int (iZ pe), .int (iZ sy), .int (iZ fe), .int (iZ nn), .int (iZ sd), .int (iZ bw)] : List Value).toArray) s 0 0 (fun _ => False)) (F0 m 138 ls [.int (iZ v19), .int (iZ (M 3 (Int.toNat pe)))]) := by
            intro v19 hv19 ls hl
            refine z_iadd hx hb dX8_landsBy_138 ?_
            refine lv_iload hx hb dX8_landsBy_139 (lv_at hl 0 rfl) ?_
            have K23 : ∀ (v22 : Int), (v22 = (if v16 = 0 then 0 else bw)) → ∀ ls : Array Slot, lv_has ls 11 [] → W p l e ((headSpec wsX8_landsBy ({ frames := 1, cells := 0, slots := 0, locals := 22 })).room) s m (([.ref h, .int (iZ pe), .int (iZ sy), .int (iZ fe), .int (iZ nn), .int (iZ sd), .int (iZ bw)] : List Value).toArray) below meth c s.heap [] 0 0 (MQ below (vp_Si (fun r => r = iZ (s_land (M 3 (Int.toNat pe)) (M 7 (Int.toNat sy)) (M 6 (Int.toNat sy)) (M 19 1) fe nn sd bw))) (([.ref h, .int (iZ pe), .int (iZ sy), .int (iZ fe), .int (iZ nn), .int (iZ sd), .int (iZ bw)] : List Value).toArray) s 0 0 (fun _ => False)) (F0 m 150 ls [.int (iZ v22), .int (iZ ((M 3 (Int.toNat pe)) + v19))]) := by
              intro v22 hv22 ls hl
              refine W.eq (g2 := F0 m 150 ls [.int (iZ v22), .int (iZ ((M 3 (Int.toNat pe)) + v19))]) rfl ?_
              refine z_iadd hx hb dX8_landsBy_150 ?_
              refine lv_istore (lv' := [(10, .int (iZ (((M 3 (Int.toNat pe)) + v19) + v22)))]) hx hb dX8_landsBy_151 hl (by decide) rfl (fun ls hl => ?_)
              refine lv_iload hx hb dX8_landsBy_153 (lv_at hl 0 rfl) ?_
              refine lv_iconst (v := iZ 0) hx hb dX8_landsBy_155 (by decide) ?_
              refine lv_bipush (v := iZ 30) hx hb dX8_landsBy_156 (by decide) ?_
              refine mq_cs (As := [.int (iZ (((M 3 (Int.toNat pe)) + v19) + v22)), .int (iZ 0), .int (iZ 30)]) (rest := []) ⟨hx, hb, hml, hown, hts⟩ (C_in l (((M 3 (Int.toNat pe)) + v19) + v22) 0 30 (by omega) (by omega) (by omega)) (va_cwS 3 hts gX8_landsBy_X8_in rfl rfl rfl (by decide +kernel) ⟨Nat.le_of_ble_eq_true rfl, Nat.le_of_ble_eq_true rfl⟩) rfl rfl hl.1 (Nat.le_of_ble_eq_true rfl) ⟨Nat.le_of_ble_eq_true rfl, Nat.le_of_ble_eq_true rfl⟩ dX8_landsBy_158 ?_
              have K26 : ∀ (v25 : Int), (v25 = (if (0 ≤ (((M 3 (Int.toNat pe)) + v19) + v22) ∧ (((M 3 (Int.toNat pe)) + v19) + v22) ≤ 30) then (((M 3 (Int.toNat pe)) + v19) + v22) else (-9))) → ∀ ls : Array Slot, lv_has ls 11 [] → W p l e ((headSpec wsX8_landsBy ({ frames := 1, cells := 0, slots := 0, locals := 22 })).room) s m (([.ref h, .int (iZ pe), .int (iZ sy), .int (iZ fe), .int (iZ nn), .int (iZ sd), .int (iZ bw)] : List Value).toArray) below meth c s.heap [] 0 0 (MQ below (vp_Si (fun r => r = iZ (s_land (M 3 (Int.toNat pe)) (M 7 (Int.toNat sy)) (M 6 (Int.toNat sy)) (M 19 1) fe nn sd bw))) (([.ref h, .int (iZ pe), .int (iZ sy), .int (iZ fe), .int (iZ nn), .int (iZ sd), .int (iZ bw)] : List Value).toArray) s 0 0 (fun _ => False)) (F0 m 171 ls [.int (iZ v25)]) := by
                intro v25 hv25 ls hl
                exact mq_ret hx hb hr rfl (by rw [hv25]; unfold s_land; rw [landsBy_1 hv2 hv6, landsBy_2 hv11 hv16 hv19 hv22]) dX8_landsBy_171 hlocks rfl
              refine z_ifb_eq (P := (0 ≤ (((M 3 (Int.toNat pe)) + v19) + v22) ∧ (((M 3 (Int.toNat pe)) + v19) + v22) ≤ 30)) (tgt := 169) hx hb dX8_landsBy_161 (by decide) (fun c24 => ?_) (fun c24 => ?_)
              · refine lv_bipush (v := iZ (-9)) hx hb dX8_landsBy_169 (by decide) ?_
                exact K26 (-9) (by first | rfl | (rw [if_neg c24]; done) | omega | (subst_vars; first | rfl | (rw [if_neg c24]; done) | omega)) ls (lv_sub hl [] rfl)
              · refine lv_iload hx hb dX8_landsBy_164 (lv_at hl 0 rfl) ?_
                refine lv_goto (tgt := 171) hx hb dX8_landsBy_166 (by decide) ?_
                exact K26 (((M 3 (Int.toNat pe)) + v19) + v22) (by first | rfl | (rw [if_pos c24]; done) | omega | (subst_vars; first | rfl | (rw [if_pos c24]; done) | omega)) ls (lv_sub hl [] rfl)
            refine z_if_eq (x := v16) (tgt := 149) hx hb (by omega) dX8_landsBy_141 (by decide) (fun c21 => ?_) (fun c21 => ?_)
            · refine lv_iconst (v := iZ 0) hx hb dX8_landsBy_149 (by decide) ?_
              exact K23 0 (by first | rfl | (rw [if_pos c21]; done) | omega | (subst_vars; first | rfl | (rw [if_pos c21]; done) | omega)) ls (lv_sub hl [] rfl)
            · refine lv_iload hx hb dX8_landsBy_144 (lv_at hl 1 rfl) ?_
              refine lv_goto (tgt := 150) hx hb dX8_landsBy_146 (by decide) ?_
              exact K23 bw (by first | rfl | (rw [if_neg c21]; done) | omega | (subst_vars; first | rfl | (rw [if_neg c21]; done) | omega)) ls (lv_sub hl [] rfl)
          refine z_if_eq (x := v11) (tgt := 135) hx hb (by omega) dX8_landsBy_127 (by decide) (fun c18 => ?_) (fun c18 => ?_)
          · refine lv_iload hx hb dX8_landsBy_135 (lv_at hl 2 rfl) ?_
            refine z_ineg hx hb dX8_landsBy_137 ?_
            exact K20 (-v6) (by first | rfl | (rw [if_pos c18]; done) | omega | (subst_vars; first | rfl | (rw [if_pos c18]; done) | omega)) ls (lv_sub hl [0, 5] rfl)
          · refine lv_iload hx hb dX8_landsBy_130 (lv_at hl 2 rfl) ?_
            refine lv_goto (tgt := 138) hx hb dX8_landsBy_132 (by decide) ?_
            exact K20 v6 (by first | rfl | (rw [if_neg c18]; done) | omega | (subst_vars; first | rfl | (rw [if_neg c18]; done) | omega)) ls (lv_sub hl [0, 5] rfl)
        refine z_if_le (x := v6) (tgt := 116) hx hb (by omega) dX8_landsBy_99 (by decide) (fun c13 => ?_) (fun c13 => ?_)
        · refine lv_iconst (v := iZ 0) hx hb dX8_landsBy_116 (by decide) ?_
          exact K17 0 (by first | rfl | (rw [if_pos c13]; done) | omega | (subst_vars; first | rfl | (rw [if_pos c13]; done) | omega)) ls (lv_sub hl [0, 1, 2, 3, 6] rfl)
        · refine lv_iload hx hb dX8_landsBy_102 (lv_at hl 5 rfl) ?_
          refine z_if_eq (x := nn) (tgt := 112) hx hb (by omega) dX8_landsBy_104 (by decide) (fun c14 => ?_) (fun c14 => ?_)
          · refine lv_iconst (v := iZ 1) hx hb dX8_landsBy_112 (by decide) ?_
            refine W.eq (g2 := F0 m 113 ls [.int (iZ 1)]) rfl ?_
            refine lv_goto (tgt := 117) hx hb dX8_landsBy_113 (by decide) ?_
            exact K17 1 (by first | rfl | (rw [if_neg c13, if_pos c14]; done) | omega | (subst_vars; first | rfl | (rw [if_neg c13, if_pos c14]; done) | omega)) ls (lv_sub hl [0, 1, 2, 3, 6] rfl)
          · refine lv_iload_n hx hb dX8_landsBy_107 rfl (lv_at hl 4 rfl) ?_
            refine lv_iconst (v := iZ 3) hx hb dX8_landsBy_108 (by decide) ?_
            refine z_icmp_eq (x := fe) (y := 3) (tgt := 116) hx hb (by omega) (by omega) dX8_landsBy_109 (by decide) (fun c15 => ?_) (fun c15 => ?_)
            · refine lv_iconst (v := iZ 0) hx hb dX8_landsBy_116 (by decide) ?_
              exact K17 0 (by first | rfl | (rw [if_neg c13, if_neg c14, if_pos c15]; done) | omega | (subst_vars; first | rfl | (rw [if_neg c13, if_neg c14, if_pos c15]; done) | omega)) ls (lv_sub hl [0, 1, 2, 3, 6] rfl)
            · refine lv_iconst (v := iZ 1) hx hb dX8_landsBy_112 (by decide) ?_
              refine lv_goto (tgt := 117) hx hb dX8_landsBy_113 (by decide) ?_
              exact K17 1 (by first | rfl | (rw [if_neg c13, if_neg c14, if_neg c15]; done) | omega | (subst_vars; first | rfl | (rw [if_neg c13, if_neg c14, if_neg c15]; done) | omega)) ls (lv_sub hl [0, 1, 2, 3, 6] rfl)
      refine z_if_ne (x := nn) (tgt := 84) hx hb (by omega) dX8_landsBy_68 (by decide) (fun c8 => ?_) (fun c8 => ?_)
      · refine lv_iload hx hb dX8_landsBy_84 (lv_at hl 5 rfl) ?_
        refine lv_iconst (v := iZ 1) hx hb dX8_landsBy_86 (by decide) ?_
        refine z_icmp_ne (x := sd) (y := 1) (tgt := 94) hx hb (by omega) (by omega) dX8_landsBy_87 (by decide) (fun c9 => ?_) (fun c9 => ?_)
        · refine lv_iconst (v := iZ 0) hx hb dX8_landsBy_94 (by decide) ?_
          exact K12 0 (by first | rfl | (rw [if_neg c8, if_neg c9]; done) | omega | (subst_vars; first | rfl | (rw [if_neg c8, if_neg c9]; done) | omega)) ls (lv_sub hl [0, 1, 2, 3, 4, 6] rfl)
        · refine lv_iconst (v := iZ 1) hx hb dX8_landsBy_90 (by decide) ?_
          refine lv_goto (tgt := 95) hx hb dX8_landsBy_91 (by decide) ?_
          exact K12 1 (by first | rfl | (rw [if_neg c8, if_pos c9]; done) | omega | (subst_vars; first | rfl | (rw [if_neg c8, if_pos c9]; done) | omega)) ls (lv_sub hl [0, 1, 2, 3, 4, 6] rfl)
      · refine lv_iload hx hb dX8_landsBy_71 (lv_at hl 5 rfl) ?_
        refine W.eq (g2 := F0 m 73 ls [.int (iZ sd)]) rfl ?_
        refine z_if_ne (x := sd) (tgt := 80) hx hb (by omega) dX8_landsBy_73 (by decide) (fun c10 => ?_) (fun c10 => ?_)
        · refine lv_iconst (v := iZ 0) hx hb dX8_landsBy_80 (by decide) ?_
          refine lv_goto (tgt := 95) hx hb dX8_landsBy_81 (by decide) ?_
          exact K12 0 (by first | rfl | (rw [if_pos c8, if_neg c10]; done) | omega | (subst_vars; first | rfl | (rw [if_pos c8, if_neg c10]; done) | omega)) ls (lv_sub hl [0, 1, 2, 3, 4, 6] rfl)
        · refine lv_iconst (v := iZ 1) hx hb dX8_landsBy_76 (by decide) ?_
          refine lv_goto (tgt := 95) hx hb dX8_landsBy_77 (by decide) ?_
          exact K12 1 (by first | rfl | (rw [if_pos c8, if_pos c10]; done) | omega | (subst_vars; first | rfl | (rw [if_pos c8, if_pos c10]; done) | omega)) ls (lv_sub hl [0, 1, 2, 3, 4, 6] rfl)
    refine z_if_ne (x := nn) (tgt := 53) hx hb (by omega) dX8_landsBy_41 (by decide) (fun c4 => ?_) (fun c4 => ?_)
    · refine lv_iload hx hb dX8_landsBy_53 (lv_at hl 0 rfl) ?_
      refine z_if_ge (x := ((((nn * s_lift fe) + (M 7 (Int.toNat sy))) - (M 6 (Int.toNat sy))) - v2)) (tgt := 62) hx hb (by omega) dX8_landsBy_55 (by decide) (fun c5 => ?_) (fun c5 => ?_)
      · refine lv_iload hx hb dX8_landsBy_62 (lv_at hl 0 rfl) ?_
        exact K7 ((((nn * s_lift fe) + (M 7 (Int.toNat sy))) - (M 6 (Int.toNat sy))) - v2) (by first | rfl | (rw [if_neg c4, if_pos c5]; done) | omega | (subst_vars; first | rfl | (rw [if_neg c4, if_pos c5]; done) | omega)) ls (lv_sub hl [1, 2, 4, 5, 6, 7] rfl)
      · refine lv_iconst (v := iZ 0) hx hb dX8_landsBy_58 (by decide) ?_
        refine lv_goto (tgt := 64) hx hb dX8_landsBy_59 (by decide) ?_
        exact K7 0 (by first | rfl | (rw [if_neg c4, if_neg c5]; done) | omega | (subst_vars; first | rfl | (rw [if_neg c4, if_neg c5]; done) | omega)) ls (lv_sub hl [1, 2, 4, 5, 6, 7] rfl)
    · refine lv_aload_n hx hb dX8_landsBy_44 rfl (lv_at hl 1 rfl) ?_
      refine mq_get hx hb hts hin hown hK hP 7 (by decide) (hts (.fieldLink RX8 29 "WordFletchersModel" "twist" "[I") (List.mem_cons_of_mem _ (List.mem_append_left _ (List.mem_of_getElem? (i := 0) rfl)))) rfl dX8_landsBy_45 ?_
      refine lv_iload_n hx hb dX8_landsBy_48 rfl (lv_at hl 3 rfl) ?_
      refine W.eq (g2 := F0 m 49 ls [.int (iZ sy), .ref (a 7)]) rfl ?_
      refine mq_iald hx hb hK hP 7 7 (n := 12) rfl (by decide) (Int.toNat sy) rfl (by omega) dX8_landsBy_49 ?_
      refine lv_goto (tgt := 64) hx hb dX8_landsBy_50 (by decide) ?_
      exact K7 (M 7 (Int.toNat sy)) (by first | rfl | (rw [if_pos c4]; done) | omega | (subst_vars; first | rfl | (rw [if_pos c4]; done) | omega)) ls (lv_sub hl [1, 2, 4, 5, 6, 7] rfl)
  refine z_icmp_ne (x := fe) (y := 2) (tgt := 30) hx hb (by omega) (by omega) dX8_landsBy_23 (by decide) (fun c1 => ?_) (fun c1 => ?_)
  · refine lv_aload_n hx hb dX8_landsBy_30 rfl (lv_at hl 0 rfl) ?_
    refine mq_get hx hb hts hin hown hK hP 19 (by decide) (hts (.fieldLink RX8 44 "WordFletchersModel" "now" "[I") (List.mem_cons_of_mem _ (List.mem_append_left _ (List.mem_of_getElem? (i := 2) rfl)))) rfl dX8_landsBy_31 ?_
    refine lv_iconst (v := iZ 1) hx hb dX8_landsBy_34 (by decide) ?_
    refine mq_iald hx hb hK hP 19 12 (n := 29) rfl (by decide) 1 rfl (by omega) dX8_landsBy_35 ?_
    exact K3 (M 19 1) (by first | rfl | (rw [if_neg c1]; done) | omega | (subst_vars; first | rfl | (rw [if_neg c1]; done) | omega)) ls (lv_sub hl [0, 1, 2, 3, 4, 5, 6] rfl)
  · refine lv_iconst (v := iZ 0) hx hb dX8_landsBy_26 (by decide) ?_
    refine lv_goto (tgt := 36) hx hb dX8_landsBy_27 (by decide) ?_
    exact K3 0 (by first | rfl | (rw [if_pos c1]; done) | omega | (subst_vars; first | rfl | (rw [if_pos c1]; done) | omega)) ls (lv_sub hl [0, 1, 2, 3, 4, 5, 6] rfl)
set_option maxHeartbeats 4000000 in
set_option maxRecDepth 100000 in
theorem C_windIn (l : Launch) (D : va_G) (C : mC) (h : Nat) (a : Nat → Nat) (M : Nat → Nat → Int) (nn : Int) (hI : mI M) (h1 : 0 ≤ nn ∧ nn ≤ 99) : Met l yX8_windIn wsX8_windIn ({ frames := 0, cells := 0, slots := 0, locals := 0 }) (va_Pc [.ref h, .int (iZ nn)] (mOk D C h a M)) (vp_Si (fun r => r = iZ (s_wind M nn))) 0 0 (fun _ => False) := by
  refine Met.ofW (cc := cX8_windIn) (maxL := 2) (ret := (some .int)) (by decide) rfl ?_
  intro p e s m args below meth c s₁ B hml hv
  obtain ⟨rfl, hP, hK⟩ := hv
  have hx := B.exec
  have hb := B.bytes
  have hr := B.returns
  have hts := atoms_spec (ws := wsX8_windIn) B.pre
  have hown : s.vm.findClass RX8 = some m.cls := findClass_of_methodNamed B.named
  have hlocks := B.notSynchronized
  have hin : ∀ w ∈ wsX80, w ∈ wsX8_windIn := fun _ w_h => (List.mem_cons_of_mem _ (List.mem_append_right _ w_h))
  have hl := lv_entry ([.ref h, .int (iZ nn)]) (n := 2) (Nat.le_of_ble_eq_true rfl)
  rw [lg_entry_eq]
  generalize (lg_sl ([.ref h, .int (iZ nn)]) ++ List.replicate (2 - (lg_sl ([.ref h, .int (iZ nn)])).length) Slot.unset).toArray = ls at hl ⊢
  replace hl : lv_has ls 2 [(0, .ref h), (1, .int (iZ nn))] := hl
  have hnw := mI_now hI
  have hmd := z_mod (x := M 19 0 + nn) (y := M 9 0) (by omega)
  refine lv_aload_n hx hb dX8_windIn_0 rfl (lv_at hl 0 rfl) ?_
  refine W.eq (g2 := F0 m 1 ls [.ref h]) rfl ?_
  refine mq_get hx hb hts hin hown hK hP 10 (by decide) (hts (.fieldLink RX8 38 "WordFletchersModel" "wind" "[I") (List.mem_cons_of_mem _ (List.mem_append_left _ (List.mem_of_getElem? (i := 0) rfl)))) rfl dX8_windIn_1 ?_
  refine lv_aload_n hx hb dX8_windIn_4 rfl (lv_at hl 0 rfl) ?_
  refine mq_get hx hb hts hin hown hK hP 19 (by decide) (hts (.fieldLink RX8 44 "WordFletchersModel" "now" "[I") (List.mem_cons_of_mem _ (List.mem_append_left _ (List.mem_of_getElem? (i := 1) rfl)))) rfl dX8_windIn_5 ?_
  refine lv_iconst (v := iZ 0) hx hb dX8_windIn_8 (by decide) ?_
  refine mq_iald hx hb hK hP 19 12 (n := 29) rfl (by decide) 0 rfl (by omega) dX8_windIn_9 ?_
  refine lv_iload_n hx hb dX8_windIn_10 rfl (lv_at hl 1 rfl) ?_
  refine z_iadd hx hb dX8_windIn_11 ?_
  refine lv_aload_n hx hb dX8_windIn_12 rfl (lv_at hl 0 rfl) ?_
  refine mq_get hx hb hts hin hown hK hP 9 (by decide) (hts (.fieldLink RX8 35 "WordFletchersModel" "winds" "[I") (List.mem_cons_of_mem _ (List.mem_append_left _ (List.mem_of_getElem? (i := 2) rfl)))) rfl dX8_windIn_13 ?_
  refine lv_iconst (v := iZ 0) hx hb dX8_windIn_16 (by decide) ?_
  refine mq_iald hx hb hK hP 9 9 (n := 2) rfl (by decide) 0 rfl (by omega) dX8_windIn_17 ?_
  refine z_irem hx hb (by omega) (by omega) dX8_windIn_18 ?_
  refine W.eq (g2 := F0 m 19 ls [.int (iZ (((M 19 0) + nn) % (M 9 0))), .ref (a 10)]) rfl ?_
  refine mq_iald hx hb hK hP 10 10 (n := 12) rfl (by decide) (Int.toNat (((M 19 0) + nn) % (M 9 0))) rfl (by omega) dX8_windIn_19 ?_
  exact mq_ret hx hb hr rfl rfl dX8_windIn_20 hlocks rfl
set_option maxHeartbeats 4000000 in
set_option maxRecDepth 100000 in
theorem C_doesHear (l : Launch) (D : va_G) (C : mC) (h : Nat) (a : Nat → Nat) (M : Nat → Nat → Int) (pe sp : Int) (hI : mI M) (h1 : 0 ≤ pe ∧ pe < M 2 0) (h2 : -9 ≤ sp ∧ sp ≤ 30) : Met l yX8_doesHear wsX8_doesHear ({ frames := 0, cells := 0, slots := 0, locals := 0 }) (va_Pc [.ref h, .int (iZ pe), .int (iZ sp)] (mOk D C h a M)) (vp_Si (fun r => r = iZ (if (s_hear (M 3 (Int.toNat pe)) (M 4 (Int.toNat pe)) sp) then 1 else 0))) 0 0 (fun _ => False) := by
  refine Met.ofW (cc := cX8_doesHear) (maxL := 4) (ret := (some .boolean)) (by decide) rfl ?_
  intro p e s m args below meth c s₁ B hml hv
  obtain ⟨rfl, hP, hK⟩ := hv
  have hx := B.exec
  have hb := B.bytes
  have hr := B.returns
  have hts := atoms_spec (ws := wsX8_doesHear) B.pre
  have hown : s.vm.findClass RX8 = some m.cls := findClass_of_methodNamed B.named
  have hlocks := B.notSynchronized
  have hin : ∀ w ∈ wsX80, w ∈ wsX8_doesHear := fun _ w_h => (List.mem_cons_of_mem _ (List.mem_append_right _ w_h))
  have hl := lv_entry ([.ref h, .int (iZ pe), .int (iZ sp)]) (n := 4) (Nat.le_of_ble_eq_true rfl)
  rw [lg_entry_eq]
  generalize (lg_sl ([.ref h, .int (iZ pe), .int (iZ sp)]) ++ List.replicate (4 - (lg_sl ([.ref h, .int (iZ pe), .int (iZ sp)])).length) Slot.unset).toArray = ls at hl ⊢
  replace hl : lv_has ls 4 [(0, .ref h), (1, .int (iZ pe)), (2, .int (iZ sp))] := hl
  have hnw := mI_now hI
  have hq1 := mI_pe hI h1
  refine lv_aload_n hx hb dX8_doesHear_0 rfl (lv_at hl 0 rfl) ?_
  refine mq_get hx hb hts hin hown hK hP 3 (by decide) (hts (.fieldLink RX8 17 "WordFletchersModel" "place" "[I") (List.mem_cons_of_mem _ (List.mem_append_left _ (List.mem_of_getElem? (i := 0) rfl)))) rfl dX8_doesHear_1 ?_
  refine lv_iload_n hx hb dX8_doesHear_4 rfl (lv_at hl 1 rfl) ?_
  refine mq_iald hx hb hK hP 3 3 (n := 12) rfl (by decide) (Int.toNat pe) rfl (by omega) dX8_doesHear_5 ?_
  refine lv_iload_n hx hb dX8_doesHear_6 rfl (lv_at hl 2 rfl) ?_
  have K3 : ∀ (v2 : Int), (v2 = (if (M 3 (Int.toNat pe)) ≤ sp then (sp - (M 3 (Int.toNat pe))) else ((M 3 (Int.toNat pe)) - sp))) → ∀ ls : Array Slot, lv_has ls 4 [(0, .ref h), (1, .int (iZ pe)), (2, .int (iZ sp))] → W p l e ((headSpec wsX8_doesHear ({ frames := 0, cells := 0, slots := 0, locals := 0 })).room) s m (([.ref h, .int (iZ pe), .int (iZ sp)] : List Value).toArray) below meth c s.heap [] 0 0 (MQ below (vp_Si (fun r => r = iZ (if (s_hear (M 3 (Int.toNat pe)) (M 4 (Int.toNat pe)) sp) then 1 else 0))) (([.ref h, .int (iZ pe), .int (iZ sp)] : List Value).toArray) s 0 0 (fun _ => False)) (F0 m 29 ls [.int (iZ v2)]) := by
    intro v2 hv2 ls hl
    refine lv_istore_n (lv' := [(3, .int (iZ v2)), (0, .ref h), (1, .int (iZ pe)), (2, .int (iZ sp))]) hx hb dX8_doesHear_29 rfl hl (by decide) rfl (fun ls hl => ?_)
    refine lv_iload_n hx hb dX8_doesHear_30 rfl (lv_at hl 3 rfl) ?_
    refine lv_bipush (v := iZ (-9)) hx hb dX8_doesHear_31 (by decide) ?_
    refine W.eq (g2 := F0 m 33 ls [.int (iZ (-9)), .int (iZ sp)]) rfl ?_
    have K7 : ∀ (v6 : Int), (v6 = (if sp = (-9) then 0 else (if (M 4 (Int.toNat pe)) < v2 then 0 else 1))) → ∀ ls : Array Slot, lv_has ls 4 [] → W p l e ((headSpec wsX8_doesHear ({ frames := 0, cells := 0, slots := 0, locals := 0 })).room) s m (([.ref h, .int (iZ pe), .int (iZ sp)] : List Value).toArray) below meth c s.heap [] 0 0 (MQ below (vp_Si (fun r => r = iZ (if (s_hear (M 3 (Int.toNat pe)) (M 4 (Int.toNat pe)) sp) then 1 else 0))) (([.ref h, .int (iZ pe), .int (iZ sp)] : List Value).toArray) s 0 0 (fun _ => False)) (F0 m 51 ls [.int (iZ v6)]) := by
      intro v6 hv6 ls hl
      exact mq_ret hx hb hr (z_nbool (by first | omega | (split <;> omega))) (by first | omega | ((repeat' split) <;> first | rfl | omega)) dX8_doesHear_51 hlocks rfl
    refine z_icmp_eq (x := sp) (y := (-9)) (tgt := 50) hx hb (by omega) (by omega) dX8_doesHear_33 (by decide) (fun c4 => ?_) (fun c4 => ?_)
    · refine lv_iconst (v := iZ 0) hx hb dX8_doesHear_50 (by decide) ?_
      exact K7 0 (by first | rfl | (rw [if_pos c4]; done) | omega | (subst_vars; first | rfl | (rw [if_pos c4]; done) | omega)) ls (lv_sub hl [] rfl)
    · refine lv_iload_n hx hb dX8_doesHear_36 rfl (lv_at hl 0 rfl) ?_
      refine lv_aload_n hx hb dX8_doesHear_37 rfl (lv_at hl 1 rfl) ?_
      refine mq_get hx hb hts hin hown hK hP 4 (by decide) (hts (.fieldLink RX8 20 "WordFletchersModel" "ear" "[I") (List.mem_cons_of_mem _ (List.mem_append_left _ (List.mem_of_getElem? (i := 1) rfl)))) rfl dX8_doesHear_38 ?_
      refine lv_iload_n hx hb dX8_doesHear_41 rfl (lv_at hl 2 rfl) ?_
      refine mq_iald hx hb hK hP 4 4 (n := 12) rfl (by decide) (Int.toNat pe) rfl (by omega) dX8_doesHear_42 ?_
      refine z_icmp_gt (x := v2) (y := (M 4 (Int.toNat pe))) (tgt := 50) hx hb (by omega) (by omega) dX8_doesHear_43 (by decide) (fun c5 => ?_) (fun c5 => ?_)
      · refine lv_iconst (v := iZ 0) hx hb dX8_doesHear_50 (by decide) ?_
        exact K7 0 (by first | rfl | (rw [if_neg c4, if_pos c5]; done) | omega | (subst_vars; first | rfl | (rw [if_neg c4, if_pos c5]; done) | omega)) ls (lv_sub hl [] rfl)
      · refine lv_iconst (v := iZ 1) hx hb dX8_doesHear_46 (by decide) ?_
        refine lv_goto (tgt := 51) hx hb dX8_doesHear_47 (by decide) ?_
        exact K7 1 (by first | rfl | (rw [if_neg c4, if_neg c5]; done) | omega | (subst_vars; first | rfl | (rw [if_neg c4, if_neg c5]; done) | omega)) ls (lv_sub hl [] rfl)
  refine z_icmp_le (x := (M 3 (Int.toNat pe))) (y := sp) (tgt := 21) hx hb (by omega) (by omega) dX8_doesHear_7 (by decide) (fun c1 => ?_) (fun c1 => ?_)
  · refine lv_iload_n hx hb dX8_doesHear_21 rfl (lv_at hl 2 rfl) ?_
    refine lv_aload_n hx hb dX8_doesHear_22 rfl (lv_at hl 0 rfl) ?_
    refine mq_get hx hb hts hin hown hK hP 3 (by decide) (hts (.fieldLink RX8 17 "WordFletchersModel" "place" "[I") (List.mem_cons_of_mem _ (List.mem_append_left _ (List.mem_of_getElem? (i := 0) rfl)))) rfl dX8_doesHear_23 ?_
    refine lv_iload_n hx hb dX8_doesHear_26 rfl (lv_at hl 1 rfl) ?_
    refine W.eq (g2 := F0 m 27 ls [.int (iZ pe), .ref (a 3), .int (iZ sp)]) rfl ?_
    refine mq_iald hx hb hK hP 3 3 (n := 12) rfl (by decide) (Int.toNat pe) rfl (by omega) dX8_doesHear_27 ?_
    refine z_isub hx hb dX8_doesHear_28 ?_
    exact K3 (sp - (M 3 (Int.toNat pe))) (by first | rfl | (rw [if_pos c1]; done) | omega | (subst_vars; first | rfl | (rw [if_pos c1]; done) | omega)) ls (lv_sub hl [0, 1, 2] rfl)
  · refine lv_aload_n hx hb dX8_doesHear_10 rfl (lv_at hl 0 rfl) ?_
    refine mq_get hx hb hts hin hown hK hP 3 (by decide) (hts (.fieldLink RX8 17 "WordFletchersModel" "place" "[I") (List.mem_cons_of_mem _ (List.mem_append_left _ (List.mem_of_getElem? (i := 0) rfl)))) rfl dX8_doesHear_11 ?_
    refine lv_iload_n hx hb dX8_doesHear_14 rfl (lv_at hl 1 rfl) ?_
    refine mq_iald hx hb hK hP 3 3 (n := 12) rfl (by decide) (Int.toNat pe) rfl (by omega) dX8_doesHear_15 ?_
    refine lv_iload_n hx hb dX8_doesHear_16 rfl (lv_at hl 2 rfl) ?_
    refine z_isub hx hb dX8_doesHear_17 ?_
    refine lv_goto (tgt := 29) hx hb dX8_doesHear_18 (by decide) ?_
    exact K3 ((M 3 (Int.toNat pe)) - sp) (by first | rfl | (rw [if_neg c1]; done) | omega | (subst_vars; first | rfl | (rw [if_neg c1]; done) | omega)) ls (lv_sub hl [0, 1, 2] rfl)
set_option maxHeartbeats 4000000 in
set_option maxRecDepth 100000 in
theorem C_hearersOf (l : Launch) (D : va_G) (C : mC) (h : Nat) (a : Nat → Nat) (M : Nat → Nat → Int) (sp but : Int) (hI : mI M) (h1 : -9 ≤ sp ∧ sp ≤ 30) (h2 : -2147483648 ≤ but ∧ but < 2147483648) : Met l yX8_hearersOf wsX8_hearersOf ({ frames := 1, cells := 0, slots := 0, locals := 23 }) (va_Pc [.ref h, .int (iZ sp), .int (iZ but)] (mOk D C h a M)) (vp_Si (fun r => r = iZ (s_hearers M sp but))) 0 0 (fun _ => False) := by
  refine Met.ofW (cc := cX8_hearersOf) (maxL := 5) (ret := (some .int)) (by decide) rfl ?_
  intro p e s m args below meth c s₁ B hml hv
  obtain ⟨rfl, hP, hK⟩ := hv
  have hx := B.exec
  have hb := B.bytes
  have hr := B.returns
  have hts := atoms_spec (ws := wsX8_hearersOf) B.pre
  have hown : s.vm.findClass RX8 = some m.cls := findClass_of_methodNamed B.named
  have hlocks := B.notSynchronized
  have hin : ∀ w ∈ wsX80, w ∈ wsX8_hearersOf := fun _ w_h => (List.mem_cons_of_mem _ (List.mem_append_right _ w_h))
  have hl := lv_entry ([.ref h, .int (iZ sp), .int (iZ but)]) (n := 5) (Nat.le_of_ble_eq_true rfl)
  rw [lg_entry_eq]
  generalize (lg_sl ([.ref h, .int (iZ sp), .int (iZ but)]) ++ List.replicate (5 - (lg_sl ([.ref h, .int (iZ sp), .int (iZ but)])).length) Slot.unset).toArray = ls at hl ⊢
  replace hl : lv_has ls 5 [(0, .ref h), (1, .int (iZ sp)), (2, .int (iZ but))] := hl
  have hnw := mI_now hI
  refine W.eq (g2 := F0 m 0 ls []) rfl ?_
  refine lv_iconst (v := iZ 0) hx hb dX8_hearersOf_0 (by decide) ?_
  refine lv_istore_n (lv' := [(3, .int (iZ 0)), (0, .ref h), (1, .int (iZ sp)), (2, .int (iZ but))]) hx hb dX8_hearersOf_1 rfl hl (by decide) rfl (fun ls hl => ?_)
  refine lv_iconst (v := iZ 0) hx hb dX8_hearersOf_2 (by decide) ?_
  refine lv_istore (lv' := [(4, .int (iZ 0)), (3, .int (iZ 0)), (0, .ref h), (1, .int (iZ sp)), (2, .int (iZ but))]) hx hb dX8_hearersOf_3 hl (by decide) rfl (fun ls hl => ?_)
  replace hl : lv_has ls 5 [(4, .int (iZ (0 : Int))), (3, .int (iZ (0 : Int))), (0, .ref h), (1, .int (iZ sp)), (2, .int (iZ but))] := lv_sub hl [0, 1, 2, 3, 4] rfl
  revert ls
  refine z_loop (σ := Int × Int) (fun x9 => (0 ≤ x9.2 ∧ x9.2 ≤ M 2 0) ∧ (x9.1 = s_heN (M 3) (M 4) sp but (Int.toNat x9.2))) (fun x9 => [(4, .int (iZ (x9.2))), (3, .int (iZ (x9.1))), (0, .ref h), (1, .int (iZ sp)), (2, .int (iZ but))]) 5 (fun x9 => (M 2 0 - x9.2).toNat) ((0 : Int), (0 : Int)) ⟨(by show 0 ≤ (0 : Int) ∧ (0 : Int) ≤ M 2 0; omega), (by show (0 : Int) = s_heN (M 3) (M 4) sp but (Int.toNat (0 : Int)); rfl)⟩ ?_
  rintro ⟨st, kk⟩ hI9 ih5 ls hl
  obtain ⟨i1, i2⟩ := hI9
  replace i1 : 0 ≤ kk ∧ kk ≤ M 2 0 := i1
  replace i2 : st = s_heN (M 3) (M 4) sp but (Int.toNat kk) := i2
  replace hl : lv_has ls 5 [(4, .int (iZ kk)), (3, .int (iZ st)), (0, .ref h), (1, .int (iZ sp)), (2, .int (iZ but))] := hl
  have hbd := s_heN_bd (M 3) (M 4) sp but (Int.toNat kk) 6 (by omega)
  have hzp := zp_nn kk
  refine lv_iload hx hb dX8_hearersOf_5 (lv_at hl 0 rfl) ?_
  refine lv_aload_n hx hb dX8_hearersOf_7 rfl (lv_at hl 2 rfl) ?_
  refine mq_get hx hb hts hin hown hK hP 2 (by decide) (hts (.fieldLink RX8 13 "WordFletchersModel" "people" "[I") (List.mem_cons_of_mem _ (List.mem_append_left _ (List.mem_of_getElem? (i := 0) rfl)))) rfl dX8_hearersOf_8 ?_
  refine lv_iconst (v := iZ 0) hx hb dX8_hearersOf_11 (by decide) ?_
  refine mq_iald hx hb hK hP 2 2 (n := 2) rfl (by decide) 0 rfl (by omega) dX8_hearersOf_12 ?_
  refine z_icmp_ge (x := kk) (y := (M 2 0)) (tgt := 49) hx hb (by omega) (by omega) dX8_hearersOf_13 (by decide) (fun c1 => ?_) (fun c1 => ?_)
  · refine lv_iload_n hx hb dX8_hearersOf_49 rfl (lv_at hl 1 rfl) ?_
    exact mq_ret hx hb hr rfl (by have q : kk = M 2 0 := (by omega); rw [i2, q]; rfl) dX8_hearersOf_50 hlocks rfl
  · refine lv_iload_n hx hb dX8_hearersOf_16 rfl (lv_at hl 1 rfl) ?_
    refine lv_iload hx hb dX8_hearersOf_17 (lv_at hl 0 rfl) ?_
    refine lv_iload_n hx hb dX8_hearersOf_19 rfl (lv_at hl 4 rfl) ?_
    have K9 : ∀ (v8 : Int), (v8 = (if kk = but then 0 else (if (s_hear (M 3 (Int.toNat kk)) (M 4 (Int.toNat kk)) sp) then (zp kk) else 0))) → ∀ ls : Array Slot, lv_has ls 5 [(4, .int (iZ kk)), (0, .ref h), (1, .int (iZ sp)), (2, .int (iZ but))] → W p l e ((headSpec wsX8_hearersOf ({ frames := 1, cells := 0, slots := 0, locals := 23 })).room) s m (([.ref h, .int (iZ sp), .int (iZ but)] : List Value).toArray) below meth c s.heap [] 0 0 (MQ below (vp_Si (fun r => r = iZ (s_hearers M sp but))) (([.ref h, .int (iZ sp), .int (iZ but)] : List Value).toArray) s 0 0 (fun _ => False)) (F0 m 41 ls [.int (iZ v8), .int (iZ st)]) := by
      intro v8 hv8 ls hl
      refine z_ior hx hb (by omega) (by omega) dX8_hearersOf_41 ?_
      refine lv_istore_n (lv' := [(3, .int (iZ (zor st v8))), (4, .int (iZ kk)), (0, .ref h), (1, .int (iZ sp)), (2, .int (iZ but))]) hx hb dX8_hearersOf_42 rfl hl (by decide) rfl (fun ls hl => ?_)
      refine W.eq (g2 := F0 m 43 ls []) rfl ?_
      refine lv_iinc (v := iZ (kk + 1)) (lv' := [(4, .int (iZ (kk + 1))), (3, .int (iZ (zor st v8))), (0, .ref h), (1, .int (iZ sp)), (2, .int (iZ but))]) hx hb dX8_hearersOf_43 hl (k := 1) rfl (iZ_add _ _) (by decide) rfl (fun ls hl => ?_)
      refine lv_goto (tgt := 5) hx hb dX8_hearersOf_46 (by decide) ?_
      exact ih5 ((zor st v8), (kk + 1)) ⟨(by show 0 ≤ (kk + 1) ∧ (kk + 1) ≤ M 2 0; omega), (by show (zor st v8) = s_heN (M 3) (M 4) sp but (Int.toNat (kk + 1)); rw [s_heN_succ _ _ _ _ (by omega), ← i2]; congr 1; omega)⟩ (by show (M 2 0 - (kk + 1)).toNat < (M 2 0 - kk).toNat; omega) ls (lv_sub hl [0, 1, 2, 3, 4] rfl)
    refine z_icmp_eq (x := kk) (y := but) (tgt := 40) hx hb (by omega) (by omega) dX8_hearersOf_20 (by decide) (fun c6 => ?_) (fun c6 => ?_)
    · refine lv_iconst (v := iZ 0) hx hb dX8_hearersOf_40 (by decide) ?_
      exact K9 0 (by first | rfl | (rw [if_pos c6]; done) | omega | (subst_vars; first | rfl | (rw [if_pos c6]; done) | omega)) ls (lv_sub hl [0, 2, 3, 4] rfl)
    · refine W.eq (g2 := F0 m 23 ls [.int (iZ st)]) rfl ?_
      refine lv_aload_n hx hb dX8_hearersOf_23 rfl (lv_at hl 2 rfl) ?_
      refine lv_iload hx hb dX8_hearersOf_24 (lv_at hl 0 rfl) ?_
      refine lv_iload_n hx hb dX8_hearersOf_26 rfl (lv_at hl 3 rfl) ?_
      refine mq_ci (As := [.int (iZ kk), .int (iZ sp)]) (rest := [.int (iZ st)]) ⟨hx, hb, hml, hown, hts⟩ hK hP (C_doesHear l D C h a M kk sp hI (by omega) (by omega)) (cwV 2 hts gX8_hearersOf_X8_doesHear rfl rfl rfl (by decide +kernel) ⟨Nat.le_of_ble_eq_true rfl, Nat.le_of_ble_eq_true rfl⟩) rfl rfl hl.1 (Nat.le_of_ble_eq_true rfl) ⟨Nat.le_of_ble_eq_true rfl, Nat.le_of_ble_eq_true rfl⟩ dX8_hearersOf_27 ?_
      refine z_ifb_eq (P := (s_hear (M 3 (Int.toNat kk)) (M 4 (Int.toNat kk)) sp)) (tgt := 40) hx hb dX8_hearersOf_30 (by decide) (fun c7 => ?_) (fun c7 => ?_)
      · refine lv_iconst (v := iZ 0) hx hb dX8_hearersOf_40 (by decide) ?_
        exact K9 0 (by first | rfl | (rw [if_neg c6, if_neg c7]; done) | omega | (subst_vars; first | rfl | (rw [if_neg c6, if_neg c7]; done) | omega)) ls (lv_sub hl [0, 2, 3, 4] rfl)
      · refine lv_iconst (v := iZ 1) hx hb dX8_hearersOf_33 (by decide) ?_
        refine lv_iload hx hb dX8_hearersOf_34 (lv_at hl 0 rfl) ?_
        refine z_ishl1 hx hb (by omega) dX8_hearersOf_36 ?_
        refine lv_goto (tgt := 41) hx hb dX8_hearersOf_37 (by decide) ?_
        exact K9 (zp kk) (by first | rfl | (rw [if_neg c6, if_pos c7]; done) | omega | (subst_vars; first | rfl | (rw [if_neg c6, if_pos c7]; done) | omega)) ls (lv_sub hl [0, 2, 3, 4] rfl)
