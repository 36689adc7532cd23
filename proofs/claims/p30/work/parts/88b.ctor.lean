set_option maxHeartbeats 4000000 in
set_option maxRecDepth 100000 in
theorem K_X3_init (l : Launch) (D : va_G) (C : cC) (h0 sz : Nat) : Met l yX3_init wsX3_init ({ frames := 2, cells := 51, slots := 340, locals := 44 }) (va_Pc [.ref h0] (fun U => U.heap.size = sz ∧ va_P D vwCl [(h0, .inr (3, [.null, .int (iZ 0)]))] U.heap ∧ va_K D vwCl (cT C) U ∧ va_D (fun _ => True) [(h0, .inr (3, [.null, .int (iZ 0)]))] ∧ nP3 U)) (va_Qv (fun q : (Nat → Nat) × (Nat → Option Nat) => q.1 0 = h0 ∧ ∀ j : Nat, j < 10 → q.2 j = some (q.1 (2 + 5 * j))) (fun q t => va_P D vwCl (paB C q.1 q.2) t.heap ∧ va_D (va_A [(h0, .inr (3, [.null, .int (iZ 0)]))] sz) (paB C q.1 q.2)) (va_A [(h0, .inr (3, [.null, .int (iZ 0)]))] sz)) 51 340 (va_A [(h0, .inr (3, [.null, .int (iZ 0)]))] sz) := by
  refine Met.ofW (cc := cX3_init) (maxL := 2) (ret := none) (by decide) rfl ?_
  intro p e s m args below meth c s₁ B hml hv
  obtain ⟨rfl, hsz, hP, hK, hD0, hpre⟩ := hv
  have hx := B.exec
  have hb := B.bytes
  have hr := B.returns
  have hts := atoms_spec (ws := wsX3_init) B.pre
  have hown : s.vm.findClass RX3 = some m.cls := findClass_of_methodNamed B.named
  have hlocks := B.notSynchronized
  have hinit : meth.name = "<init>" := (name_of_methodNamed B.named B.method).1
  have hin_X3 : ∀ w ∈ wsX30, w ∈ wsX3_init := fun _ w_h => (List.mem_cons_of_mem _ (List.mem_append_left _ (List.mem_append_right _ w_h)))
  have hin_X2 : ∀ w ∈ wsX20, w ∈ wsX3_init := fun _ w_h => (List.mem_cons_of_mem _ (List.mem_append_right _ w_h))
  subst hsz
  have hD := hD0.self (sz := s.heap.size)
  generalize hAe : va_A [(h0, .inr (3, [.null, .int (iZ 0)]))] s.heap.size = A at hD ⊢
  have hA : ∀ q : Nat, s.heap.size ≤ q → A q := fun q h => by rw [← hAe]; exact Or.inr h
  have hS : va_S A s.heap s.heap [] := va_S.rf
  have hl := lv_entry ([.ref h0]) (n := 2) (Nat.le_of_ble_eq_true rfl)
  rw [lg_entry_eq]
  generalize (lg_sl ([.ref h0]) ++ List.replicate (2 - (lg_sl ([.ref h0])).length) Slot.unset).toArray = ls at hl ⊢
  replace hl : lv_has ls 2 [(0, .ref h0)] := hl
  generalize hHe : s.heap = H at hP ⊢
  have hS : va_S A s.heap H [] := by rw [hHe]; exact va_S.rf
  generalize hlo : ([] : List Loc) = locs at hS ⊢
  clear hHe hlo
  replace hP : va_P D vwCl ([(h0, .inr (3, [.null, .int (iZ 0)]))] ++ ([] : va_W)) H := by rw [List.append_nil]; exact hP
  replace hD : va_D A ([(h0, .inr (3, [.null, .int (iZ 0)]))] ++ ([] : va_W)) := by rw [List.append_nil]; exact hD
  have hp3 := hpre
  refine lv_aload_n hx hb dX3_init_0 rfl (lv_at hl 0 rfl) ?_
  refine W.objInit hx hb hown (hts (.methodLink RX3 3 objectInit) (List.mem_cons_of_mem _ (List.mem_append_left _ (List.mem_append_left _ (List.mem_of_getElem? (i := 0) rfl))))) (hts (.instanceMethod objectInit) (List.mem_cons_of_mem _ (List.mem_append_left _ (List.mem_append_left _ (List.mem_of_getElem? (i := 1) rfl))))) (hts (.code objectInit ⟨#[0xb1]⟩ 1 none) (List.mem_cons_of_mem _ (List.mem_append_left _ (List.mem_append_left _ (List.mem_of_getElem? (i := 2) rfl))))) rfl (by rw [hml]; exact hl.1) rfl dX3_init_1 (Nat.le_of_ble_eq_true rfl) (Nat.le_of_ble_eq_true rfl) ?_
  refine W.eq (g2 := F0 m 4 ls []) rfl ?_
  refine lv_aload_n hx hb dX3_init_4 rfl (lv_at hl 0 rfl) ?_
  refine lv_bipush (v := iZ 10) hx hb dX3_init_5 (by decide) ?_
  refine kn_newq (N9 := 10) hx hb hown (hts (.classLink RX3 9 RX2) (List.mem_cons_of_mem _ (List.mem_append_left _ (List.mem_append_left _ (List.mem_of_getElem? (i := 3) rfl))))) hp3.2 hK 1 rfl hP hD hS hA (by decide) rfl (by decide) (Nat.le_of_ble_eq_true rfl) (Nat.le_of_ble_eq_true rfl) dX3_init_7 (fun q7 H hP hD hS => ?_)
  refine W.widen (k := 1) (n := 10) (Nat.le_refl _) (Nat.le_refl _) ?_
  replace hP : va_P D vwCl ([(h0, .inr (3, [.null, .int (iZ 0)])), (q7, .inl (C.2.1, 10, .inr (.inr (.inr (.inr (fun _ => none))))))] ++ ([] : va_W)) H := hP
  replace hD : va_D A ([(h0, .inr (3, [.null, .int (iZ 0)])), (q7, .inl (C.2.1, 10, .inr (.inr (.inr (.inr (fun _ => none))))))] ++ ([] : va_W)) := hD
  refine va_putF (D := D) (ci := 3) (v := .ref q7) (ty := .array (.object "WordFletchers$Moment")) (C := RX3) (T := TX3) (N := 2) hx hb hts hin_X3 tyX3 tyX3_ok nmX3 hown hK hP hD hS 0 rfl rfl 0 (by decide) (hts (.fieldLink RX3 11 "WordFletchers$Past" "moments" "[LWordFletchers$Moment;") (List.mem_cons_of_mem _ (List.mem_append_left _ (List.mem_append_left _ (List.mem_of_getElem? (i := 4) rfl))))) (fun _ h9 => h9) rfl hinit rfl (by decide +kernel) rfl rfl (Nat.le_of_ble_eq_true rfl) dX3_init_10 (fun H locs hP hD hS => ?_)
  replace hP : va_P D vwCl ([(h0, .inr (3, [.ref q7, .int (iZ 0)])), (q7, .inl (C.2.1, 10, .inr (.inr (.inr (.inr (fun _ => none))))))] ++ ([] : va_W)) H := hP
  replace hD : va_D A ([(h0, .inr (3, [.ref q7, .int (iZ 0)])), (q7, .inl (C.2.1, 10, .inr (.inr (.inr (.inr (fun _ => none))))))] ++ ([] : va_W)) := hD
  refine lv_aload_n hx hb dX3_init_13 rfl (lv_at hl 0 rfl) ?_
  refine lv_iconst (v := iZ 0) hx hb dX3_init_14 (by decide) ?_
  refine va_put (D := D) (ci := 3) (v := .int (iZ 0)) (ty := .int) (C := RX3) (T := TX3) (N := 2) hx hb hts hin_X3 tyX3 tyX3_ok nmX3 hown hK hP hD hS 0 rfl rfl 1 (by decide) (hts (.fieldLink RX3 17 "WordFletchers$Past" "known" "I") (List.mem_cons_of_mem _ (List.mem_append_left _ (List.mem_append_left _ (List.mem_of_getElem? (i := 5) rfl))))) (fun _ h9 => h9) rfl (by decide +kernel) (by decide +kernel) (by decide +kernel) (Nat.le_of_ble_eq_true rfl) dX3_init_15 (fun H locs hP hD hS => ?_)
  replace hP : va_P D vwCl ([(h0, .inr (3, [.ref q7, .int (iZ 0)])), (q7, .inl (C.2.1, 10, .inr (.inr (.inr (.inr (fun _ => none))))))] ++ ([] : va_W)) H := hP
  replace hD : va_D A ([(h0, .inr (3, [.ref q7, .int (iZ 0)])), (q7, .inl (C.2.1, 10, .inr (.inr (.inr (.inr (fun _ => none))))))] ++ ([] : va_W)) := hD
  refine lv_iconst (v := iZ 0) hx hb dX3_init_18 (by decide) ?_
  refine lv_istore_n (lv' := [(1, .int (iZ 0)), (0, .ref h0)]) hx hb dX3_init_19 rfl hl (by decide) rfl (fun ls hl => ?_)
  refine lv_iload_n hx hb dX3_init_20 rfl (lv_at hl 0 rfl) ?_
  refine lv_bipush (v := iZ 10) hx hb dX3_init_21 (by decide) ?_
  refine z_icmp_ge (x := 0) (y := 10) (tgt := 45) hx hb (by decide) (by decide) dX3_init_23 (by decide) (fun c9 => absurd c9 (by decide)) (fun c9 => ?_)
  refine lv_aload_n hx hb dX3_init_26 rfl (lv_at hl 1 rfl) ?_
  refine va_get (D := D) (ci := 3) (C := RX3) (T := TX3) (N := 2) hx hb hts hin_X3 hown hK hP 0 rfl rfl 0 (by decide) (hts (.fieldLink RX3 11 "WordFletchers$Past" "moments" "[LWordFletchers$Moment;") (List.mem_cons_of_mem _ (List.mem_append_left _ (List.mem_append_left _ (List.mem_of_getElem? (i := 4) rfl))))) (fun _ h9 => h9) rfl dX3_init_27 ?_
  refine lv_iload_n hx hb dX3_init_30 rfl (lv_at hl 0 rfl) ?_
  refine kn_new (ci := 2) (fs := [.int (iZ 0), .int (iZ 0), .int (iZ 0), .null, .null, .null, .null]) (RC := RX2) (T := TX2) (N := 7) hx hb hts hin_X2 tyX2 tyX2_ok hown (hts (.classLink RX3 9 RX2) (List.mem_cons_of_mem _ (List.mem_append_left _ (List.mem_append_left _ (List.mem_of_getElem? (i := 3) rfl))))) (hts (.instantiable RX2 7) (List.mem_cons_of_mem _ (List.mem_append_left _ (List.mem_append_left _ (List.mem_of_getElem? (i := 6) rfl))))) (hts (.initialized RX2) (List.mem_cons_of_mem _ (List.mem_append_left _ (List.mem_append_left _ (List.mem_of_getElem? (i := 7) rfl))))) hK hP hD hS hA rfl (by intro j hj; match j, hj with | 0, _ => rfl | 1, _ => rfl | 2, _ => rfl | 3, _ => rfl | 4, _ => rfl | 5, _ => rfl | 6, _ => rfl) (Nat.le_of_ble_eq_true rfl) (Nat.le_of_ble_eq_true rfl) dX3_init_31 (fun q31_1 H hP hD hS => ?_)
  refine W.widen (k := 2) (n := 17) (Nat.le_refl _) (Nat.le_refl _) ?_
  replace hP : va_P D vwCl ([(h0, .inr (3, [.ref q7, .int (iZ 0)])), (q7, .inl (C.2.1, 10, .inr (.inr (.inr (.inr (fun _ => none)))))), (q31_1, .inr (2, [.int (iZ 0), .int (iZ 0), .int (iZ 0), .null, .null, .null, .null]))] ++ ([] : va_W)) H := hP
  replace hD : va_D A ([(h0, .inr (3, [.ref q7, .int (iZ 0)])), (q7, .inl (C.2.1, 10, .inr (.inr (.inr (.inr (fun _ => none)))))), (q31_1, .inr (2, [.int (iZ 0), .int (iZ 0), .int (iZ 0), .null, .null, .null, .null]))] ++ ([] : va_W)) := hD
  refine lv_dup hx hb dX3_init_34 rfl ?_
  have hFc := va_free (wc := [(q31_1, .inr (2, [.int (iZ 0), .int (iZ 0), .int (iZ 0), .null, .null, .null, .null]))]) hD hS hA [2] rfl
  have hPc : va_P D vwCl [(q31_1, .inr (2, [.int (iZ 0), .int (iZ 0), .int (iZ 0), .null, .null, .null, .null]))] H := hP.sub (ws' := [(q31_1, .inr (2, [.int (iZ 0), .int (iZ 0), .int (iZ 0), .null, .null, .null, .null]))]) [2] rfl
  have hDc := hD.sub (ws' := [(q31_1, .inr (2, [.int (iZ 0), .int (iZ 0), .int (iZ 0), .null, .null, .null, .null]))]) [2] (by decide) rfl
  refine va_callv (va_runIN (As := []) (rest := [.ref q31_1, .int (iZ 0), .ref q7]) ⟨hx, hb, hml, hown, hts⟩ (K_X2_init l D C q31_1 H.size) ⟨va_cnB (host := RX7) 0 hts gX3_init_X2_init_n21 rfl rfl rfl hp3.1 (hts (.initialized RX2) (List.mem_cons_of_mem _ (List.mem_append_left _ (List.mem_append_left _ (List.mem_of_getElem? (i := 7) rfl))))) (by decide +kernel) ⟨Nat.le_of_ble_eq_true rfl, Nat.le_of_ble_eq_true rfl⟩, rfl, (hts (.instanceMethod yX2_init) (List.mem_cons_of_mem _ (List.mem_append_left _ (List.mem_append_left _ (List.mem_of_getElem? (i := 8) rfl)))))⟩ ⟨fun a U g mk q => by obtain ⟨q0, q1, qP, qK, qD⟩ := q; exact ⟨q0, q1, qP, va_K.moved (u := U) (U := U.calling g mk a) (Vm.Alike.refl U.vm) qK, qD⟩, fun U hU hW => ⟨rfl, by rw [hU], by rw [hU]; exact hPc, va_K.moved hW.alike hK, hDc.weaken (fun _ _ _ _ => trivial)⟩⟩ rfl rfl hl.1 rfl (lv_room (Nat.le_of_ble_eq_true rfl)) dX3_init_35 ⟨Nat.le_of_ble_eq_true rfl, Nat.le_of_ble_eq_true rfl⟩) hS (fun q _ h => hFc q h) hFc (fun u t H1 locs ht hvm hw hB hz1 hk1 hS => ?_)
  obtain ⟨u35_2, rfl⟩ : ∃ z, z = u := ⟨_, rfl⟩
  obtain ⟨hP1, hD1⟩ := hB
  rw [ht] at hP1
  have hwu35_2 : u35_2 0 = q31_1 := hw
  obtain ⟨hP, hD⟩ := kn_join (X := [(h0, .inr (3, [.ref q7, .int (iZ 0)])), (q7, .inl (C.2.1, 10, .inr (.inr (.inr (.inr (fun _ => none))))))]) hP hD hk1 hFc hP1 hD1
  generalize H1 = H at hP hS ⊢
  refine W.widen (k := 6) (n := 43) (Nat.le_refl _) (Nat.le_refl _) ?_
  replace hP : va_P D vwCl ([(h0, .inr (3, [.ref q7, .int (iZ 0)])), (q7, .inl (C.2.1, 10, .inr (.inr (.inr (.inr (fun _ => none))))))] ++ (moB C u35_2 ++ ([] : va_W))) H := hP
  replace hD : va_D A ([(h0, .inr (3, [.ref q7, .int (iZ 0)])), (q7, .inl (C.2.1, 10, .inr (.inr (.inr (.inr (fun _ => none))))))] ++ (moB C u35_2 ++ ([] : va_W))) := hD
  clear hFc hPc hDc hk1 hz1 hw
  refine va_astq hx hb hK hP hD hS 1 1 2 2 (r := (RX2, TX2, 7)) rfl rfl (moB_head hwu35_2) rfl (iZ_in (i := 0) (n := 10) (by decide) (by decide)) dX3_init_38 (fun H locs hP hD hS => ?_)
  replace hP : va_P D vwCl ([(h0, .inr (3, [.ref q7, .int (iZ 0)])), (q7, .inl (C.2.1, 10, .inr (.inr (.inr (.inr (va_up (fun _ => none) 0 (some q31_1)))))))] ++ (moB C u35_2 ++ ([] : va_W))) H := hP
  replace hD : va_D A ([(h0, .inr (3, [.ref q7, .int (iZ 0)])), (q7, .inl (C.2.1, 10, .inr (.inr (.inr (.inr (va_up (fun _ => none) 0 (some q31_1)))))))] ++ (moB C u35_2 ++ ([] : va_W))) := hD
  refine lv_iinc (v := iZ 1) (lv' := [(1, .int (iZ 1)), (0, .ref h0)]) hx hb dX3_init_39 hl (k := 0) rfl rfl (by decide) rfl (fun ls hl => ?_)
  refine lv_goto (tgt := 20) hx hb dX3_init_42 (by decide) ?_
  refine lv_iload_n hx hb dX3_init_20 rfl (lv_at hl 0 rfl) ?_
  refine lv_bipush (v := iZ 10) hx hb dX3_init_21 (by decide) ?_
  refine z_icmp_ge (x := 1) (y := 10) (tgt := 45) hx hb (by decide) (by decide) dX3_init_23 (by decide) (fun c9 => absurd c9 (by decide)) (fun c9 => ?_)
  refine lv_aload_n hx hb dX3_init_26 rfl (lv_at hl 1 rfl) ?_
  refine va_get (D := D) (ci := 3) (C := RX3) (T := TX3) (N := 2) hx hb hts hin_X3 hown hK hP 0 rfl rfl 0 (by decide) (hts (.fieldLink RX3 11 "WordFletchers$Past" "moments" "[LWordFletchers$Moment;") (List.mem_cons_of_mem _ (List.mem_append_left _ (List.mem_append_left _ (List.mem_of_getElem? (i := 4) rfl))))) (fun _ h9 => h9) rfl dX3_init_27 ?_
  refine lv_iload_n hx hb dX3_init_30 rfl (lv_at hl 0 rfl) ?_
  refine kn_new (ci := 2) (fs := [.int (iZ 0), .int (iZ 0), .int (iZ 0), .null, .null, .null, .null]) (RC := RX2) (T := TX2) (N := 7) hx hb hts hin_X2 tyX2 tyX2_ok hown (hts (.classLink RX3 9 RX2) (List.mem_cons_of_mem _ (List.mem_append_left _ (List.mem_append_left _ (List.mem_of_getElem? (i := 3) rfl))))) (hts (.instantiable RX2 7) (List.mem_cons_of_mem _ (List.mem_append_left _ (List.mem_append_left _ (List.mem_of_getElem? (i := 6) rfl))))) (hts (.initialized RX2) (List.mem_cons_of_mem _ (List.mem_append_left _ (List.mem_append_left _ (List.mem_of_getElem? (i := 7) rfl))))) hK hP hD hS hA rfl (by intro j hj; match j, hj with | 0, _ => rfl | 1, _ => rfl | 2, _ => rfl | 3, _ => rfl | 4, _ => rfl | 5, _ => rfl | 6, _ => rfl) (Nat.le_of_ble_eq_true rfl) (Nat.le_of_ble_eq_true rfl) dX3_init_31 (fun q31_3 H hP hD hS => ?_)
  refine W.widen (k := 7) (n := 50) (Nat.le_refl _) (Nat.le_refl _) ?_
  replace hP : va_P D vwCl ([(h0, .inr (3, [.ref q7, .int (iZ 0)])), (q7, .inl (C.2.1, 10, .inr (.inr (.inr (.inr (va_up (fun _ => none) 0 (some q31_1))))))), (q31_3, .inr (2, [.int (iZ 0), .int (iZ 0), .int (iZ 0), .null, .null, .null, .null]))] ++ (moB C u35_2 ++ ([] : va_W))) H := hP
  replace hD : va_D A ([(h0, .inr (3, [.ref q7, .int (iZ 0)])), (q7, .inl (C.2.1, 10, .inr (.inr (.inr (.inr (va_up (fun _ => none) 0 (some q31_1))))))), (q31_3, .inr (2, [.int (iZ 0), .int (iZ 0), .int (iZ 0), .null, .null, .null, .null]))] ++ (moB C u35_2 ++ ([] : va_W))) := hD
  refine lv_dup hx hb dX3_init_34 rfl ?_
  have hFc := va_free (wc := [(q31_3, .inr (2, [.int (iZ 0), .int (iZ 0), .int (iZ 0), .null, .null, .null, .null]))]) hD hS hA [2] rfl
  have hPc : va_P D vwCl [(q31_3, .inr (2, [.int (iZ 0), .int (iZ 0), .int (iZ 0), .null, .null, .null, .null]))] H := hP.sub (ws' := [(q31_3, .inr (2, [.int (iZ 0), .int (iZ 0), .int (iZ 0), .null, .null, .null, .null]))]) [2] rfl
  have hDc := hD.sub (ws' := [(q31_3, .inr (2, [.int (iZ 0), .int (iZ 0), .int (iZ 0), .null, .null, .null, .null]))]) [2] (by decide) rfl
  refine va_callv (va_runIN (As := []) (rest := [.ref q31_3, .int (iZ 1), .ref q7]) ⟨hx, hb, hml, hown, hts⟩ (K_X2_init l D C q31_3 H.size) ⟨va_cnB (host := RX7) 0 hts gX3_init_X2_init_n21 rfl rfl rfl hp3.1 (hts (.initialized RX2) (List.mem_cons_of_mem _ (List.mem_append_left _ (List.mem_append_left _ (List.mem_of_getElem? (i := 7) rfl))))) (by decide +kernel) ⟨Nat.le_of_ble_eq_true rfl, Nat.le_of_ble_eq_true rfl⟩, rfl, (hts (.instanceMethod yX2_init) (List.mem_cons_of_mem _ (List.mem_append_left _ (List.mem_append_left _ (List.mem_of_getElem? (i := 8) rfl)))))⟩ ⟨fun a U g mk q => by obtain ⟨q0, q1, qP, qK, qD⟩ := q; exact ⟨q0, q1, qP, va_K.moved (u := U) (U := U.calling g mk a) (Vm.Alike.refl U.vm) qK, qD⟩, fun U hU hW => ⟨rfl, by rw [hU], by rw [hU]; exact hPc, va_K.moved hW.alike hK, hDc.weaken (fun _ _ _ _ => trivial)⟩⟩ rfl rfl hl.1 rfl (lv_room (Nat.le_of_ble_eq_true rfl)) dX3_init_35 ⟨Nat.le_of_ble_eq_true rfl, Nat.le_of_ble_eq_true rfl⟩) hS (fun q _ h => hFc q h) hFc (fun u t H1 locs ht hvm hw hB hz1 hk1 hS => ?_)
  obtain ⟨u35_4, rfl⟩ : ∃ z, z = u := ⟨_, rfl⟩
  obtain ⟨hP1, hD1⟩ := hB
  rw [ht] at hP1
  have hwu35_4 : u35_4 0 = q31_3 := hw
  obtain ⟨hP, hD⟩ := kn_join (X := [(h0, .inr (3, [.ref q7, .int (iZ 0)])), (q7, .inl (C.2.1, 10, .inr (.inr (.inr (.inr (va_up (fun _ => none) 0 (some q31_1)))))))]) hP hD hk1 hFc hP1 hD1
  generalize H1 = H at hP hS ⊢
  refine W.widen (k := 11) (n := 76) (Nat.le_refl _) (Nat.le_refl _) ?_
  replace hP : va_P D vwCl ([(h0, .inr (3, [.ref q7, .int (iZ 0)])), (q7, .inl (C.2.1, 10, .inr (.inr (.inr (.inr (va_up (fun _ => none) 0 (some q31_1)))))))] ++ (moB C u35_4 ++ (moB C u35_2 ++ ([] : va_W)))) H := hP
  replace hD : va_D A ([(h0, .inr (3, [.ref q7, .int (iZ 0)])), (q7, .inl (C.2.1, 10, .inr (.inr (.inr (.inr (va_up (fun _ => none) 0 (some q31_1)))))))] ++ (moB C u35_4 ++ (moB C u35_2 ++ ([] : va_W)))) := hD
  clear hFc hPc hDc hk1 hz1 hw
  refine va_astq hx hb hK hP hD hS 1 1 2 2 (r := (RX2, TX2, 7)) rfl rfl (moB_head hwu35_4) rfl (iZ_in (i := 1) (n := 10) (by decide) (by decide)) dX3_init_38 (fun H locs hP hD hS => ?_)
  replace hP : va_P D vwCl ([(h0, .inr (3, [.ref q7, .int (iZ 0)])), (q7, .inl (C.2.1, 10, .inr (.inr (.inr (.inr (va_up (va_up (fun _ => none) 0 (some q31_1)) 1 (some q31_3)))))))] ++ (moB C u35_4 ++ (moB C u35_2 ++ ([] : va_W)))) H := hP
  replace hD : va_D A ([(h0, .inr (3, [.ref q7, .int (iZ 0)])), (q7, .inl (C.2.1, 10, .inr (.inr (.inr (.inr (va_up (va_up (fun _ => none) 0 (some q31_1)) 1 (some q31_3)))))))] ++ (moB C u35_4 ++ (moB C u35_2 ++ ([] : va_W)))) := hD
  refine lv_iinc (v := iZ 2) (lv' := [(1, .int (iZ 2)), (0, .ref h0)]) hx hb dX3_init_39 hl (k := 0) rfl rfl (by decide) rfl (fun ls hl => ?_)
  refine lv_goto (tgt := 20) hx hb dX3_init_42 (by decide) ?_
  refine lv_iload_n hx hb dX3_init_20 rfl (lv_at hl 0 rfl) ?_
  refine lv_bipush (v := iZ 10) hx hb dX3_init_21 (by decide) ?_
  refine z_icmp_ge (x := 2) (y := 10) (tgt := 45) hx hb (by decide) (by decide) dX3_init_23 (by decide) (fun c9 => absurd c9 (by decide)) (fun c9 => ?_)
  refine lv_aload_n hx hb dX3_init_26 rfl (lv_at hl 1 rfl) ?_
  refine va_get (D := D) (ci := 3) (C := RX3) (T := TX3) (N := 2) hx hb hts hin_X3 hown hK hP 0 rfl rfl 0 (by decide) (hts (.fieldLink RX3 11 "WordFletchers$Past" "moments" "[LWordFletchers$Moment;") (List.mem_cons_of_mem _ (List.mem_append_left _ (List.mem_append_left _ (List.mem_of_getElem? (i := 4) rfl))))) (fun _ h9 => h9) rfl dX3_init_27 ?_
  refine lv_iload_n hx hb dX3_init_30 rfl (lv_at hl 0 rfl) ?_
  refine kn_new (ci := 2) (fs := [.int (iZ 0), .int (iZ 0), .int (iZ 0), .null, .null, .null, .null]) (RC := RX2) (T := TX2) (N := 7) hx hb hts hin_X2 tyX2 tyX2_ok hown (hts (.classLink RX3 9 RX2) (List.mem_cons_of_mem _ (List.mem_append_left _ (List.mem_append_left _ (List.mem_of_getElem? (i := 3) rfl))))) (hts (.instantiable RX2 7) (List.mem_cons_of_mem _ (List.mem_append_left _ (List.mem_append_left _ (List.mem_of_getElem? (i := 6) rfl))))) (hts (.initialized RX2) (List.mem_cons_of_mem _ (List.mem_append_left _ (List.mem_append_left _ (List.mem_of_getElem? (i := 7) rfl))))) hK hP hD hS hA rfl (by intro j hj; match j, hj with | 0, _ => rfl | 1, _ => rfl | 2, _ => rfl | 3, _ => rfl | 4, _ => rfl | 5, _ => rfl | 6, _ => rfl) (Nat.le_of_ble_eq_true rfl) (Nat.le_of_ble_eq_true rfl) dX3_init_31 (fun q31_5 H hP hD hS => ?_)
  refine W.widen (k := 12) (n := 83) (Nat.le_refl _) (Nat.le_refl _) ?_
  replace hP : va_P D vwCl ([(h0, .inr (3, [.ref q7, .int (iZ 0)])), (q7, .inl (C.2.1, 10, .inr (.inr (.inr (.inr (va_up (va_up (fun _ => none) 0 (some q31_1)) 1 (some q31_3))))))), (q31_5, .inr (2, [.int (iZ 0), .int (iZ 0), .int (iZ 0), .null, .null, .null, .null]))] ++ (moB C u35_4 ++ (moB C u35_2 ++ ([] : va_W)))) H := hP
  replace hD : va_D A ([(h0, .inr (3, [.ref q7, .int (iZ 0)])), (q7, .inl (C.2.1, 10, .inr (.inr (.inr (.inr (va_up (va_up (fun _ => none) 0 (some q31_1)) 1 (some q31_3))))))), (q31_5, .inr (2, [.int (iZ 0), .int (iZ 0), .int (iZ 0), .null, .null, .null, .null]))] ++ (moB C u35_4 ++ (moB C u35_2 ++ ([] : va_W)))) := hD
  refine lv_dup hx hb dX3_init_34 rfl ?_
  have hFc := va_free (wc := [(q31_5, .inr (2, [.int (iZ 0), .int (iZ 0), .int (iZ 0), .null, .null, .null, .null]))]) hD hS hA [2] rfl
  have hPc : va_P D vwCl [(q31_5, .inr (2, [.int (iZ 0), .int (iZ 0), .int (iZ 0), .null, .null, .null, .null]))] H := hP.sub (ws' := [(q31_5, .inr (2, [.int (iZ 0), .int (iZ 0), .int (iZ 0), .null, .null, .null, .null]))]) [2] rfl
  have hDc := hD.sub (ws' := [(q31_5, .inr (2, [.int (iZ 0), .int (iZ 0), .int (iZ 0), .null, .null, .null, .null]))]) [2] (by decide) rfl
  refine va_callv (va_runIN (As := []) (rest := [.ref q31_5, .int (iZ 2), .ref q7]) ⟨hx, hb, hml, hown, hts⟩ (K_X2_init l D C q31_5 H.size) ⟨va_cnB (host := RX7) 0 hts gX3_init_X2_init_n21 rfl rfl rfl hp3.1 (hts (.initialized RX2) (List.mem_cons_of_mem _ (List.mem_append_left _ (List.mem_append_left _ (List.mem_of_getElem? (i := 7) rfl))))) (by decide +kernel) ⟨Nat.le_of_ble_eq_true rfl, Nat.le_of_ble_eq_true rfl⟩, rfl, (hts (.instanceMethod yX2_init) (List.mem_cons_of_mem _ (List.mem_append_left _ (List.mem_append_left _ (List.mem_of_getElem? (i := 8) rfl)))))⟩ ⟨fun a U g mk q => by obtain ⟨q0, q1, qP, qK, qD⟩ := q; exact ⟨q0, q1, qP, va_K.moved (u := U) (U := U.calling g mk a) (Vm.Alike.refl U.vm) qK, qD⟩, fun U hU hW => ⟨rfl, by rw [hU], by rw [hU]; exact hPc, va_K.moved hW.alike hK, hDc.weaken (fun _ _ _ _ => trivial)⟩⟩ rfl rfl hl.1 rfl (lv_room (Nat.le_of_ble_eq_true rfl)) dX3_init_35 ⟨Nat.le_of_ble_eq_true rfl, Nat.le_of_ble_eq_true rfl⟩) hS (fun q _ h => hFc q h) hFc (fun u t H1 locs ht hvm hw hB hz1 hk1 hS => ?_)
  obtain ⟨u35_6, rfl⟩ : ∃ z, z = u := ⟨_, rfl⟩
  obtain ⟨hP1, hD1⟩ := hB
  rw [ht] at hP1
  have hwu35_6 : u35_6 0 = q31_5 := hw
  obtain ⟨hP, hD⟩ := kn_join (X := [(h0, .inr (3, [.ref q7, .int (iZ 0)])), (q7, .inl (C.2.1, 10, .inr (.inr (.inr (.inr (va_up (va_up (fun _ => none) 0 (some q31_1)) 1 (some q31_3)))))))]) hP hD hk1 hFc hP1 hD1
  generalize H1 = H at hP hS ⊢
  refine W.widen (k := 16) (n := 109) (Nat.le_refl _) (Nat.le_refl _) ?_
  replace hP : va_P D vwCl ([(h0, .inr (3, [.ref q7, .int (iZ 0)])), (q7, .inl (C.2.1, 10, .inr (.inr (.inr (.inr (va_up (va_up (fun _ => none) 0 (some q31_1)) 1 (some q31_3)))))))] ++ (moB C u35_6 ++ (moB C u35_4 ++ (moB C u35_2 ++ ([] : va_W))))) H := hP
  replace hD : va_D A ([(h0, .inr (3, [.ref q7, .int (iZ 0)])), (q7, .inl (C.2.1, 10, .inr (.inr (.inr (.inr (va_up (va_up (fun _ => none) 0 (some q31_1)) 1 (some q31_3)))))))] ++ (moB C u35_6 ++ (moB C u35_4 ++ (moB C u35_2 ++ ([] : va_W))))) := hD
  clear hFc hPc hDc hk1 hz1 hw
  refine va_astq hx hb hK hP hD hS 1 1 2 2 (r := (RX2, TX2, 7)) rfl rfl (moB_head hwu35_6) rfl (iZ_in (i := 2) (n := 10) (by decide) (by decide)) dX3_init_38 (fun H locs hP hD hS => ?_)
  replace hP : va_P D vwCl ([(h0, .inr (3, [.ref q7, .int (iZ 0)])), (q7, .inl (C.2.1, 10, .inr (.inr (.inr (.inr (va_up (va_up (va_up (fun _ => none) 0 (some q31_1)) 1 (some q31_3)) 2 (some q31_5)))))))] ++ (moB C u35_6 ++ (moB C u35_4 ++ (moB C u35_2 ++ ([] : va_W))))) H := hP
  replace hD : va_D A ([(h0, .inr (3, [.ref q7, .int (iZ 0)])), (q7, .inl (C.2.1, 10, .inr (.inr (.inr (.inr (va_up (va_up (va_up (fun _ => none) 0 (some q31_1)) 1 (some q31_3)) 2 (some q31_5)))))))] ++ (moB C u35_6 ++ (moB C u35_4 ++ (moB C u35_2 ++ ([] : va_W))))) := hD
  refine lv_iinc (v := iZ 3) (lv' := [(1, .int (iZ 3)), (0, .ref h0)]) hx hb dX3_init_39 hl (k := 0) rfl rfl (by decide) rfl (fun ls hl => ?_)
  refine lv_goto (tgt := 20) hx hb dX3_init_42 (by decide) ?_
  refine lv_iload_n hx hb dX3_init_20 rfl (lv_at hl 0 rfl) ?_
  refine lv_bipush (v := iZ 10) hx hb dX3_init_21 (by decide) ?_
  refine z_icmp_ge (x := 3) (y := 10) (tgt := 45) hx hb (by decide) (by decide) dX3_init_23 (by decide) (fun c9 => absurd c9 (by decide)) (fun c9 => ?_)
  refine lv_aload_n hx hb dX3_init_26 rfl (lv_at hl 1 rfl) ?_
  refine va_get (D := D) (ci := 3) (C := RX3) (T := TX3) (N := 2) hx hb hts hin_X3 hown hK hP 0 rfl rfl 0 (by decide) (hts (.fieldLink RX3 11 "WordFletchers$Past" "moments" "[LWordFletchers$Moment;") (List.mem_cons_of_mem _ (List.mem_append_left _ (List.mem_append_left _ (List.mem_of_getElem? (i := 4) rfl))))) (fun _ h9 => h9) rfl dX3_init_27 ?_
  refine lv_iload_n hx hb dX3_init_30 rfl (lv_at hl 0 rfl) ?_
  refine kn_new (ci := 2) (fs := [.int (iZ 0), .int (iZ 0), .int (iZ 0), .null, .null, .null, .null]) (RC := RX2) (T := TX2) (N := 7) hx hb hts hin_X2 tyX2 tyX2_ok hown (hts (.classLink RX3 9 RX2) (List.mem_cons_of_mem _ (List.mem_append_left _ (List.mem_append_left _ (List.mem_of_getElem? (i := 3) rfl))))) (hts (.instantiable RX2 7) (List.mem_cons_of_mem _ (List.mem_append_left _ (List.mem_append_left _ (List.mem_of_getElem? (i := 6) rfl))))) (hts (.initialized RX2) (List.mem_cons_of_mem _ (List.mem_append_left _ (List.mem_append_left _ (List.mem_of_getElem? (i := 7) rfl))))) hK hP hD hS hA rfl (by intro j hj; match j, hj with | 0, _ => rfl | 1, _ => rfl | 2, _ => rfl | 3, _ => rfl | 4, _ => rfl | 5, _ => rfl | 6, _ => rfl) (Nat.le_of_ble_eq_true rfl) (Nat.le_of_ble_eq_true rfl) dX3_init_31 (fun q31_7 H hP hD hS => ?_)
  refine W.widen (k := 17) (n := 116) (Nat.le_refl _) (Nat.le_refl _) ?_
  replace hP : va_P D vwCl ([(h0, .inr (3, [.ref q7, .int (iZ 0)])), (q7, .inl (C.2.1, 10, .inr (.inr (.inr (.inr (va_up (va_up (va_up (fun _ => none) 0 (some q31_1)) 1 (some q31_3)) 2 (some q31_5))))))), (q31_7, .inr (2, [.int (iZ 0), .int (iZ 0), .int (iZ 0), .null, .null, .null, .null]))] ++ (moB C u35_6 ++ (moB C u35_4 ++ (moB C u35_2 ++ ([] : va_W))))) H := hP
  replace hD : va_D A ([(h0, .inr (3, [.ref q7, .int (iZ 0)])), (q7, .inl (C.2.1, 10, .inr (.inr (.inr (.inr (va_up (va_up (va_up (fun _ => none) 0 (some q31_1)) 1 (some q31_3)) 2 (some q31_5))))))), (q31_7, .inr (2, [.int (iZ 0), .int (iZ 0), .int (iZ 0), .null, .null, .null, .null]))] ++ (moB C u35_6 ++ (moB C u35_4 ++ (moB C u35_2 ++ ([] : va_W))))) := hD
  refine lv_dup hx hb dX3_init_34 rfl ?_
  have hFc := va_free (wc := [(q31_7, .inr (2, [.int (iZ 0), .int (iZ 0), .int (iZ 0), .null, .null, .null, .null]))]) hD hS hA [2] rfl
  have hPc : va_P D vwCl [(q31_7, .inr (2, [.int (iZ 0), .int (iZ 0), .int (iZ 0), .null, .null, .null, .null]))] H := hP.sub (ws' := [(q31_7, .inr (2, [.int (iZ 0), .int (iZ 0), .int (iZ 0), .null, .null, .null, .null]))]) [2] rfl
  have hDc := hD.sub (ws' := [(q31_7, .inr (2, [.int (iZ 0), .int (iZ 0), .int (iZ 0), .null, .null, .null, .null]))]) [2] (by decide) rfl
  refine va_callv (va_runIN (As := []) (rest := [.ref q31_7, .int (iZ 3), .ref q7]) ⟨hx, hb, hml, hown, hts⟩ (K_X2_init l D C q31_7 H.size) ⟨va_cnB (host := RX7) 0 hts gX3_init_X2_init_n21 rfl rfl rfl hp3.1 (hts (.initialized RX2) (List.mem_cons_of_mem _ (List.mem_append_left _ (List.mem_append_left _ (List.mem_of_getElem? (i := 7) rfl))))) (by decide +kernel) ⟨Nat.le_of_ble_eq_true rfl, Nat.le_of_ble_eq_true rfl⟩, rfl, (hts (.instanceMethod yX2_init) (List.mem_cons_of_mem _ (List.mem_append_left _ (List.mem_append_left _ (List.mem_of_getElem? (i := 8) rfl)))))⟩ ⟨fun a U g mk q => by obtain ⟨q0, q1, qP, qK, qD⟩ := q; exact ⟨q0, q1, qP, va_K.moved (u := U) (U := U.calling g mk a) (Vm.Alike.refl U.vm) qK, qD⟩, fun U hU hW => ⟨rfl, by rw [hU], by rw [hU]; exact hPc, va_K.moved hW.alike hK, hDc.weaken (fun _ _ _ _ => trivial)⟩⟩ rfl rfl hl.1 rfl (lv_room (Nat.le_of_ble_eq_true rfl)) dX3_init_35 ⟨Nat.le_of_ble_eq_true rfl, Nat.le_of_ble_eq_true rfl⟩) hS (fun q _ h => hFc q h) hFc (fun u t H1 locs ht hvm hw hB hz1 hk1 hS => ?_)
  obtain ⟨u35_8, rfl⟩ : ∃ z, z = u := ⟨_, rfl⟩
  obtain ⟨hP1, hD1⟩ := hB
  rw [ht] at hP1
  have hwu35_8 : u35_8 0 = q31_7 := hw
  obtain ⟨hP, hD⟩ := kn_join (X := [(h0, .inr (3, [.ref q7, .int (iZ 0)])), (q7, .inl (C.2.1, 10, .inr (.inr (.inr (.inr (va_up (va_up (va_up (fun _ => none) 0 (some q31_1)) 1 (some q31_3)) 2 (some q31_5)))))))]) hP hD hk1 hFc hP1 hD1
  generalize H1 = H at hP hS ⊢
  refine W.widen (k := 21) (n := 142) (Nat.le_refl _) (Nat.le_refl _) ?_
  replace hP : va_P D vwCl ([(h0, .inr (3, [.ref q7, .int (iZ 0)])), (q7, .inl (C.2.1, 10, .inr (.inr (.inr (.inr (va_up (va_up (va_up (fun _ => none) 0 (some q31_1)) 1 (some q31_3)) 2 (some q31_5)))))))] ++ (moB C u35_8 ++ (moB C u35_6 ++ (moB C u35_4 ++ (moB C u35_2 ++ ([] : va_W)))))) H := hP
  replace hD : va_D A ([(h0, .inr (3, [.ref q7, .int (iZ 0)])), (q7, .inl (C.2.1, 10, .inr (.inr (.inr (.inr (va_up (va_up (va_up (fun _ => none) 0 (some q31_1)) 1 (some q31_3)) 2 (some q31_5)))))))] ++ (moB C u35_8 ++ (moB C u35_6 ++ (moB C u35_4 ++ (moB C u35_2 ++ ([] : va_W)))))) := hD
  clear hFc hPc hDc hk1 hz1 hw
  refine va_astq hx hb hK hP hD hS 1 1 2 2 (r := (RX2, TX2, 7)) rfl rfl (moB_head hwu35_8) rfl (iZ_in (i := 3) (n := 10) (by decide) (by decide)) dX3_init_38 (fun H locs hP hD hS => ?_)
  replace hP : va_P D vwCl ([(h0, .inr (3, [.ref q7, .int (iZ 0)])), (q7, .inl (C.2.1, 10, .inr (.inr (.inr (.inr (va_up (va_up (va_up (va_up (fun _ => none) 0 (some q31_1)) 1 (some q31_3)) 2 (some q31_5)) 3 (some q31_7)))))))] ++ (moB C u35_8 ++ (moB C u35_6 ++ (moB C u35_4 ++ (moB C u35_2 ++ ([] : va_W)))))) H := hP
  replace hD : va_D A ([(h0, .inr (3, [.ref q7, .int (iZ 0)])), (q7, .inl (C.2.1, 10, .inr (.inr (.inr (.inr (va_up (va_up (va_up (va_up (fun _ => none) 0 (some q31_1)) 1 (some q31_3)) 2 (some q31_5)) 3 (some q31_7)))))))] ++ (moB C u35_8 ++ (moB C u35_6 ++ (moB C u35_4 ++ (moB C u35_2 ++ ([] : va_W)))))) := hD
  refine lv_iinc (v := iZ 4) (lv' := [(1, .int (iZ 4)), (0, .ref h0)]) hx hb dX3_init_39 hl (k := 0) rfl rfl (by decide) rfl (fun ls hl => ?_)
  refine lv_goto (tgt := 20) hx hb dX3_init_42 (by decide) ?_
  refine lv_iload_n hx hb dX3_init_20 rfl (lv_at hl 0 rfl) ?_
  refine lv_bipush (v := iZ 10) hx hb dX3_init_21 (by decide) ?_
  refine z_icmp_ge (x := 4) (y := 10) (tgt := 45) hx hb (by decide) (by decide) dX3_init_23 (by decide) (fun c9 => absurd c9 (by decide)) (fun c9 => ?_)
  refine lv_aload_n hx hb dX3_init_26 rfl (lv_at hl 1 rfl) ?_
  refine va_get (D := D) (ci := 3) (C := RX3) (T := TX3) (N := 2) hx hb hts hin_X3 hown hK hP 0 rfl rfl 0 (by decide) (hts (.fieldLink RX3 11 "WordFletchers$Past" "moments" "[LWordFletchers$Moment;") (List.mem_cons_of_mem _ (List.mem_append_left _ (List.mem_append_left _ (List.mem_of_getElem? (i := 4) rfl))))) (fun _ h9 => h9) rfl dX3_init_27 ?_
  refine lv_iload_n hx hb dX3_init_30 rfl (lv_at hl 0 rfl) ?_
  refine kn_new (ci := 2) (fs := [.int (iZ 0), .int (iZ 0), .int (iZ 0), .null, .null, .null, .null]) (RC := RX2) (T := TX2) (N := 7) hx hb hts hin_X2 tyX2 tyX2_ok hown (hts (.classLink RX3 9 RX2) (List.mem_cons_of_mem _ (List.mem_append_left _ (List.mem_append_left _ (List.mem_of_getElem? (i := 3) rfl))))) (hts (.instantiable RX2 7) (List.mem_cons_of_mem _ (List.mem_append_left _ (List.mem_append_left _ (List.mem_of_getElem? (i := 6) rfl))))) (hts (.initialized RX2) (List.mem_cons_of_mem _ (List.mem_append_left _ (List.mem_append_left _ (List.mem_of_getElem? (i := 7) rfl))))) hK hP hD hS hA rfl (by intro j hj; match j, hj with | 0, _ => rfl | 1, _ => rfl | 2, _ => rfl | 3, _ => rfl | 4, _ => rfl | 5, _ => rfl | 6, _ => rfl) (Nat.le_of_ble_eq_true rfl) (Nat.le_of_ble_eq_true rfl) dX3_init_31 (fun q31_9 H hP hD hS => ?_)
  refine W.widen (k := 22) (n := 149) (Nat.le_refl _) (Nat.le_refl _) ?_
  replace hP : va_P D vwCl ([(h0, .inr (3, [.ref q7, .int (iZ 0)])), (q7, .inl (C.2.1, 10, .inr (.inr (.inr (.inr (va_up (va_up (va_up (va_up (fun _ => none) 0 (some q31_1)) 1 (some q31_3)) 2 (some q31_5)) 3 (some q31_7))))))), (q31_9, .inr (2, [.int (iZ 0), .int (iZ 0), .int (iZ 0), .null, .null, .null, .null]))] ++ (moB C u35_8 ++ (moB C u35_6 ++ (moB C u35_4 ++ (moB C u35_2 ++ ([] : va_W)))))) H := hP
  replace hD : va_D A ([(h0, .inr (3, [.ref q7, .int (iZ 0)])), (q7, .inl (C.2.1, 10, .inr (.inr (.inr (.inr (va_up (va_up (va_up (va_up (fun _ => none) 0 (some q31_1)) 1 (some q31_3)) 2 (some q31_5)) 3 (some q31_7))))))), (q31_9, .inr (2, [.int (iZ 0), .int (iZ 0), .int (iZ 0), .null, .null, .null, .null]))] ++ (moB C u35_8 ++ (moB C u35_6 ++ (moB C u35_4 ++ (moB C u35_2 ++ ([] : va_W)))))) := hD
  refine lv_dup hx hb dX3_init_34 rfl ?_
  have hFc := va_free (wc := [(q31_9, .inr (2, [.int (iZ 0), .int (iZ 0), .int (iZ 0), .null, .null, .null, .null]))]) hD hS hA [2] rfl
  have hPc : va_P D vwCl [(q31_9, .inr (2, [.int (iZ 0), .int (iZ 0), .int (iZ 0), .null, .null, .null, .null]))] H := hP.sub (ws' := [(q31_9, .inr (2, [.int (iZ 0), .int (iZ 0), .int (iZ 0), .null, .null, .null, .null]))]) [2] rfl
  have hDc := hD.sub (ws' := [(q31_9, .inr (2, [.int (iZ 0), .int (iZ 0), .int (iZ 0), .null, .null, .null, .null]))]) [2] (by decide) rfl
  refine va_callv (va_runIN (As := []) (rest := [.ref q31_9, .int (iZ 4), .ref q7]) ⟨hx, hb, hml, hown, hts⟩ (K_X2_init l D C q31_9 H.size) ⟨va_cnB (host := RX7) 0 hts gX3_init_X2_init_n21 rfl rfl rfl hp3.1 (hts (.initialized RX2) (List.mem_cons_of_mem _ (List.mem_append_left _ (List.mem_append_left _ (List.mem_of_getElem? (i := 7) rfl))))) (by decide +kernel) ⟨Nat.le_of_ble_eq_true rfl, Nat.le_of_ble_eq_true rfl⟩, rfl, (hts (.instanceMethod yX2_init) (List.mem_cons_of_mem _ (List.mem_append_left _ (List.mem_append_left _ (List.mem_of_getElem? (i := 8) rfl)))))⟩ ⟨fun a U g mk q => by obtain ⟨q0, q1, qP, qK, qD⟩ := q; exact ⟨q0, q1, qP, va_K.moved (u := U) (U := U.calling g mk a) (Vm.Alike.refl U.vm) qK, qD⟩, fun U hU hW => ⟨rfl, by rw [hU], by rw [hU]; exact hPc, va_K.moved hW.alike hK, hDc.weaken (fun _ _ _ _ => trivial)⟩⟩ rfl rfl hl.1 rfl (lv_room (Nat.le_of_ble_eq_true rfl)) dX3_init_35 ⟨Nat.le_of_ble_eq_true rfl, Nat.le_of_ble_eq_true rfl⟩) hS (fun q _ h => hFc q h) hFc (fun u t H1 locs ht hvm hw hB hz1 hk1 hS => ?_)
  obtain ⟨u35_10, rfl⟩ : ∃ z, z = u := ⟨_, rfl⟩
  obtain ⟨hP1, hD1⟩ := hB
  rw [ht] at hP1
  have hwu35_10 : u35_10 0 = q31_9 := hw
  obtain ⟨hP, hD⟩ := kn_join (X := [(h0, .inr (3, [.ref q7, .int (iZ 0)])), (q7, .inl (C.2.1, 10, .inr (.inr (.inr (.inr (va_up (va_up (va_up (va_up (fun _ => none) 0 (some q31_1)) 1 (some q31_3)) 2 (some q31_5)) 3 (some q31_7)))))))]) hP hD hk1 hFc hP1 hD1
  generalize H1 = H at hP hS ⊢
  refine W.widen (k := 26) (n := 175) (Nat.le_refl _) (Nat.le_refl _) ?_
  replace hP : va_P D vwCl ([(h0, .inr (3, [.ref q7, .int (iZ 0)])), (q7, .inl (C.2.1, 10, .inr (.inr (.inr (.inr (va_up (va_up (va_up (va_up (fun _ => none) 0 (some q31_1)) 1 (some q31_3)) 2 (some q31_5)) 3 (some q31_7)))))))] ++ (moB C u35_10 ++ (moB C u35_8 ++ (moB C u35_6 ++ (moB C u35_4 ++ (moB C u35_2 ++ ([] : va_W))))))) H := hP
  replace hD : va_D A ([(h0, .inr (3, [.ref q7, .int (iZ 0)])), (q7, .inl (C.2.1, 10, .inr (.inr (.inr (.inr (va_up (va_up (va_up (va_up (fun _ => none) 0 (some q31_1)) 1 (some q31_3)) 2 (some q31_5)) 3 (some q31_7)))))))] ++ (moB C u35_10 ++ (moB C u35_8 ++ (moB C u35_6 ++ (moB C u35_4 ++ (moB C u35_2 ++ ([] : va_W))))))) := hD
  clear hFc hPc hDc hk1 hz1 hw
  refine va_astq hx hb hK hP hD hS 1 1 2 2 (r := (RX2, TX2, 7)) rfl rfl (moB_head hwu35_10) rfl (iZ_in (i := 4) (n := 10) (by decide) (by decide)) dX3_init_38 (fun H locs hP hD hS => ?_)
  replace hP : va_P D vwCl ([(h0, .inr (3, [.ref q7, .int (iZ 0)])), (q7, .inl (C.2.1, 10, .inr (.inr (.inr (.inr (va_up (va_up (va_up (va_up (va_up (fun _ => none) 0 (some q31_1)) 1 (some q31_3)) 2 (some q31_5)) 3 (some q31_7)) 4 (some q31_9)))))))] ++ (moB C u35_10 ++ (moB C u35_8 ++ (moB C u35_6 ++ (moB C u35_4 ++ (moB C u35_2 ++ ([] : va_W))))))) H := hP
  replace hD : va_D A ([(h0, .inr (3, [.ref q7, .int (iZ 0)])), (q7, .inl (C.2.1, 10, .inr (.inr (.inr (.inr (va_up (va_up (va_up (va_up (va_up (fun _ => none) 0 (some q31_1)) 1 (some q31_3)) 2 (some q31_5)) 3 (some q31_7)) 4 (some q31_9)))))))] ++ (moB C u35_10 ++ (moB C u35_8 ++ (moB C u35_6 ++ (moB C u35_4 ++ (moB C u35_2 ++ ([] : va_W))))))) := hD
  refine lv_iinc (v := iZ 5) (lv' := [(1, .int (iZ 5)), (0, .ref h0)]) hx hb dX3_init_39 hl (k := 0) rfl rfl (by decide) rfl (fun ls hl => ?_)
  refine lv_goto (tgt := 20) hx hb dX3_init_42 (by decide) ?_
  refine lv_iload_n hx hb dX3_init_20 rfl (lv_at hl 0 rfl) ?_
  refine lv_bipush (v := iZ 10) hx hb dX3_init_21 (by decide) ?_
  refine z_icmp_ge (x := 5) (y := 10) (tgt := 45) hx hb (by decide) (by decide) dX3_init_23 (by decide) (fun c9 => absurd c9 (by decide)) (fun c9 => ?_)
  refine lv_aload_n hx hb dX3_init_26 rfl (lv_at hl 1 rfl) ?_
  refine va_get (D := D) (ci := 3) (C := RX3) (T := TX3) (N := 2) hx hb hts hin_X3 hown hK hP 0 rfl rfl 0 (by decide) (hts (.fieldLink RX3 11 "WordFletchers$Past" "moments" "[LWordFletchers$Moment;") (List.mem_cons_of_mem _ (List.mem_append_left _ (List.mem_append_left _ (List.mem_of_getElem? (i := 4) rfl))))) (fun _ h9 => h9) rfl dX3_init_27 ?_
  refine lv_iload_n hx hb dX3_init_30 rfl (lv_at hl 0 rfl) ?_
  refine kn_new (ci := 2) (fs := [.int (iZ 0), .int (iZ 0), .int (iZ 0), .null, .null, .null, .null]) (RC := RX2) (T := TX2) (N := 7) hx hb hts hin_X2 tyX2 tyX2_ok hown (hts (.classLink RX3 9 RX2) (List.mem_cons_of_mem _ (List.mem_append_left _ (List.mem_append_left _ (List.mem_of_getElem? (i := 3) rfl))))) (hts (.instantiable RX2 7) (List.mem_cons_of_mem _ (List.mem_append_left _ (List.mem_append_left _ (List.mem_of_getElem? (i := 6) rfl))))) (hts (.initialized RX2) (List.mem_cons_of_mem _ (List.mem_append_left _ (List.mem_append_left _ (List.mem_of_getElem? (i := 7) rfl))))) hK hP hD hS hA rfl (by intro j hj; match j, hj with | 0, _ => rfl | 1, _ => rfl | 2, _ => rfl | 3, _ => rfl | 4, _ => rfl | 5, _ => rfl | 6, _ => rfl) (Nat.le_of_ble_eq_true rfl) (Nat.le_of_ble_eq_true rfl) dX3_init_31 (fun q31_11 H hP hD hS => ?_)
  refine W.widen (k := 27) (n := 182) (Nat.le_refl _) (Nat.le_refl _) ?_
  replace hP : va_P D vwCl ([(h0, .inr (3, [.ref q7, .int (iZ 0)])), (q7, .inl (C.2.1, 10, .inr (.inr (.inr (.inr (va_up (va_up (va_up (va_up (va_up (fun _ => none) 0 (some q31_1)) 1 (some q31_3)) 2 (some q31_5)) 3 (some q31_7)) 4 (some q31_9))))))), (q31_11, .inr (2, [.int (iZ 0), .int (iZ 0), .int (iZ 0), .null, .null, .null, .null]))] ++ (moB C u35_10 ++ (moB C u35_8 ++ (moB C u35_6 ++ (moB C u35_4 ++ (moB C u35_2 ++ ([] : va_W))))))) H := hP
  replace hD : va_D A ([(h0, .inr (3, [.ref q7, .int (iZ 0)])), (q7, .inl (C.2.1, 10, .inr (.inr (.inr (.inr (va_up (va_up (va_up (va_up (va_up (fun _ => none) 0 (some q31_1)) 1 (some q31_3)) 2 (some q31_5)) 3 (some q31_7)) 4 (some q31_9))))))), (q31_11, .inr (2, [.int (iZ 0), .int (iZ 0), .int (iZ 0), .null, .null, .null, .null]))] ++ (moB C u35_10 ++ (moB C u35_8 ++ (moB C u35_6 ++ (moB C u35_4 ++ (moB C u35_2 ++ ([] : va_W))))))) := hD
  refine lv_dup hx hb dX3_init_34 rfl ?_
  have hFc := va_free (wc := [(q31_11, .inr (2, [.int (iZ 0), .int (iZ 0), .int (iZ 0), .null, .null, .null, .null]))]) hD hS hA [2] rfl
  have hPc : va_P D vwCl [(q31_11, .inr (2, [.int (iZ 0), .int (iZ 0), .int (iZ 0), .null, .null, .null, .null]))] H := hP.sub (ws' := [(q31_11, .inr (2, [.int (iZ 0), .int (iZ 0), .int (iZ 0), .null, .null, .null, .null]))]) [2] rfl
  have hDc := hD.sub (ws' := [(q31_11, .inr (2, [.int (iZ 0), .int (iZ 0), .int (iZ 0), .null, .null, .null, .null]))]) [2] (by decide) rfl
  refine va_callv (va_runIN (As := []) (rest := [.ref q31_11, .int (iZ 5), .ref q7]) ⟨hx, hb, hml, hown, hts⟩ (K_X2_init l D C q31_11 H.size) ⟨va_cnB (host := RX7) 0 hts gX3_init_X2_init_n21 rfl rfl rfl hp3.1 (hts (.initialized RX2) (List.mem_cons_of_mem _ (List.mem_append_left _ (List.mem_append_left _ (List.mem_of_getElem? (i := 7) rfl))))) (by decide +kernel) ⟨Nat.le_of_ble_eq_true rfl, Nat.le_of_ble_eq_true rfl⟩, rfl, (hts (.instanceMethod yX2_init) (List.mem_cons_of_mem _ (List.mem_append_left _ (List.mem_append_left _ (List.mem_of_getElem? (i := 8) rfl)))))⟩ ⟨fun a U g mk q => by obtain ⟨q0, q1, qP, qK, qD⟩ := q; exact ⟨q0, q1, qP, va_K.moved (u := U) (U := U.calling g mk a) (Vm.Alike.refl U.vm) qK, qD⟩, fun U hU hW => ⟨rfl, by rw [hU], by rw [hU]; exact hPc, va_K.moved hW.alike hK, hDc.weaken (fun _ _ _ _ => trivial)⟩⟩ rfl rfl hl.1 rfl (lv_room (Nat.le_of_ble_eq_true rfl)) dX3_init_35 ⟨Nat.le_of_ble_eq_true rfl, Nat.le_of_ble_eq_true rfl⟩) hS (fun q _ h => hFc q h) hFc (fun u t H1 locs ht hvm hw hB hz1 hk1 hS => ?_)
  obtain ⟨u35_12, rfl⟩ : ∃ z, z = u := ⟨_, rfl⟩
  obtain ⟨hP1, hD1⟩ := hB
  rw [ht] at hP1
  have hwu35_12 : u35_12 0 = q31_11 := hw
  obtain ⟨hP, hD⟩ := kn_join (X := [(h0, .inr (3, [.ref q7, .int (iZ 0)])), (q7, .inl (C.2.1, 10, .inr (.inr (.inr (.inr (va_up (va_up (va_up (va_up (va_up (fun _ => none) 0 (some q31_1)) 1 (some q31_3)) 2 (some q31_5)) 3 (some q31_7)) 4 (some q31_9)))))))]) hP hD hk1 hFc hP1 hD1
  generalize H1 = H at hP hS ⊢
  refine W.widen (k := 31) (n := 208) (Nat.le_refl _) (Nat.le_refl _) ?_
  replace hP : va_P D vwCl ([(h0, .inr (3, [.ref q7, .int (iZ 0)])), (q7, .inl (C.2.1, 10, .inr (.inr (.inr (.inr (va_up (va_up (va_up (va_up (va_up (fun _ => none) 0 (some q31_1)) 1 (some q31_3)) 2 (some q31_5)) 3 (some q31_7)) 4 (some q31_9)))))))] ++ (moB C u35_12 ++ (moB C u35_10 ++ (moB C u35_8 ++ (moB C u35_6 ++ (moB C u35_4 ++ (moB C u35_2 ++ ([] : va_W)))))))) H := hP
  replace hD : va_D A ([(h0, .inr (3, [.ref q7, .int (iZ 0)])), (q7, .inl (C.2.1, 10, .inr (.inr (.inr (.inr (va_up (va_up (va_up (va_up (va_up (fun _ => none) 0 (some q31_1)) 1 (some q31_3)) 2 (some q31_5)) 3 (some q31_7)) 4 (some q31_9)))))))] ++ (moB C u35_12 ++ (moB C u35_10 ++ (moB C u35_8 ++ (moB C u35_6 ++ (moB C u35_4 ++ (moB C u35_2 ++ ([] : va_W)))))))) := hD
  clear hFc hPc hDc hk1 hz1 hw
  refine va_astq hx hb hK hP hD hS 1 1 2 2 (r := (RX2, TX2, 7)) rfl rfl (moB_head hwu35_12) rfl (iZ_in (i := 5) (n := 10) (by decide) (by decide)) dX3_init_38 (fun H locs hP hD hS => ?_)
  replace hP : va_P D vwCl ([(h0, .inr (3, [.ref q7, .int (iZ 0)])), (q7, .inl (C.2.1, 10, .inr (.inr (.inr (.inr (va_up (va_up (va_up (va_up (va_up (va_up (fun _ => none) 0 (some q31_1)) 1 (some q31_3)) 2 (some q31_5)) 3 (some q31_7)) 4 (some q31_9)) 5 (some q31_11)))))))] ++ (moB C u35_12 ++ (moB C u35_10 ++ (moB C u35_8 ++ (moB C u35_6 ++ (moB C u35_4 ++ (moB C u35_2 ++ ([] : va_W)))))))) H := hP
  replace hD : va_D A ([(h0, .inr (3, [.ref q7, .int (iZ 0)])), (q7, .inl (C.2.1, 10, .inr (.inr (.inr (.inr (va_up (va_up (va_up (va_up (va_up (va_up (fun _ => none) 0 (some q31_1)) 1 (some q31_3)) 2 (some q31_5)) 3 (some q31_7)) 4 (some q31_9)) 5 (some q31_11)))))))] ++ (moB C u35_12 ++ (moB C u35_10 ++ (moB C u35_8 ++ (moB C u35_6 ++ (moB C u35_4 ++ (moB C u35_2 ++ ([] : va_W)))))))) := hD
  refine lv_iinc (v := iZ 6) (lv' := [(1, .int (iZ 6)), (0, .ref h0)]) hx hb dX3_init_39 hl (k := 0) rfl rfl (by decide) rfl (fun ls hl => ?_)
  refine lv_goto (tgt := 20) hx hb dX3_init_42 (by decide) ?_
  refine lv_iload_n hx hb dX3_init_20 rfl (lv_at hl 0 rfl) ?_
  refine lv_bipush (v := iZ 10) hx hb dX3_init_21 (by decide) ?_
  refine z_icmp_ge (x := 6) (y := 10) (tgt := 45) hx hb (by decide) (by decide) dX3_init_23 (by decide) (fun c9 => absurd c9 (by decide)) (fun c9 => ?_)
  refine lv_aload_n hx hb dX3_init_26 rfl (lv_at hl 1 rfl) ?_
  refine va_get (D := D) (ci := 3) (C := RX3) (T := TX3) (N := 2) hx hb hts hin_X3 hown hK hP 0 rfl rfl 0 (by decide) (hts (.fieldLink RX3 11 "WordFletchers$Past" "moments" "[LWordFletchers$Moment;") (List.mem_cons_of_mem _ (List.mem_append_left _ (List.mem_append_left _ (List.mem_of_getElem? (i := 4) rfl))))) (fun _ h9 => h9) rfl dX3_init_27 ?_
  refine lv_iload_n hx hb dX3_init_30 rfl (lv_at hl 0 rfl) ?_
  refine kn_new (ci := 2) (fs := [.int (iZ 0), .int (iZ 0), .int (iZ 0), .null, .null, .null, .null]) (RC := RX2) (T := TX2) (N := 7) hx hb hts hin_X2 tyX2 tyX2_ok hown (hts (.classLink RX3 9 RX2) (List.mem_cons_of_mem _ (List.mem_append_left _ (List.mem_append_left _ (List.mem_of_getElem? (i := 3) rfl))))) (hts (.instantiable RX2 7) (List.mem_cons_of_mem _ (List.mem_append_left _ (List.mem_append_left _ (List.mem_of_getElem? (i := 6) rfl))))) (hts (.initialized RX2) (List.mem_cons_of_mem _ (List.mem_append_left _ (List.mem_append_left _ (List.mem_of_getElem? (i := 7) rfl))))) hK hP hD hS hA rfl (by intro j hj; match j, hj with | 0, _ => rfl | 1, _ => rfl | 2, _ => rfl | 3, _ => rfl | 4, _ => rfl | 5, _ => rfl | 6, _ => rfl) (Nat.le_of_ble_eq_true rfl) (Nat.le_of_ble_eq_true rfl) dX3_init_31 (fun q31_13 H hP hD hS => ?_)
  refine W.widen (k := 32) (n := 215) (Nat.le_refl _) (Nat.le_refl _) ?_
  replace hP : va_P D vwCl ([(h0, .inr (3, [.ref q7, .int (iZ 0)])), (q7, .inl (C.2.1, 10, .inr (.inr (.inr (.inr (va_up (va_up (va_up (va_up (va_up (va_up (fun _ => none) 0 (some q31_1)) 1 (some q31_3)) 2 (some q31_5)) 3 (some q31_7)) 4 (some q31_9)) 5 (some q31_11))))))), (q31_13, .inr (2, [.int (iZ 0), .int (iZ 0), .int (iZ 0), .null, .null, .null, .null]))] ++ (moB C u35_12 ++ (moB C u35_10 ++ (moB C u35_8 ++ (moB C u35_6 ++ (moB C u35_4 ++ (moB C u35_2 ++ ([] : va_W)))))))) H := hP
  replace hD : va_D A ([(h0, .inr (3, [.ref q7, .int (iZ 0)])), (q7, .inl (C.2.1, 10, .inr (.inr (.inr (.inr (va_up (va_up (va_up (va_up (va_up (va_up (fun _ => none) 0 (some q31_1)) 1 (some q31_3)) 2 (some q31_5)) 3 (some q31_7)) 4 (some q31_9)) 5 (some q31_11))))))), (q31_13, .inr (2, [.int (iZ 0), .int (iZ 0), .int (iZ 0), .null, .null, .null, .null]))] ++ (moB C u35_12 ++ (moB C u35_10 ++ (moB C u35_8 ++ (moB C u35_6 ++ (moB C u35_4 ++ (moB C u35_2 ++ ([] : va_W)))))))) := hD
  refine lv_dup hx hb dX3_init_34 rfl ?_
  have hFc := va_free (wc := [(q31_13, .inr (2, [.int (iZ 0), .int (iZ 0), .int (iZ 0), .null, .null, .null, .null]))]) hD hS hA [2] rfl
  have hPc : va_P D vwCl [(q31_13, .inr (2, [.int (iZ 0), .int (iZ 0), .int (iZ 0), .null, .null, .null, .null]))] H := hP.sub (ws' := [(q31_13, .inr (2, [.int (iZ 0), .int (iZ 0), .int (iZ 0), .null, .null, .null, .null]))]) [2] rfl
  have hDc := hD.sub (ws' := [(q31_13, .inr (2, [.int (iZ 0), .int (iZ 0), .int (iZ 0), .null, .null, .null, .null]))]) [2] (by decide) rfl
  refine va_callv (va_runIN (As := []) (rest := [.ref q31_13, .int (iZ 6), .ref q7]) ⟨hx, hb, hml, hown, hts⟩ (K_X2_init l D C q31_13 H.size) ⟨va_cnB (host := RX7) 0 hts gX3_init_X2_init_n21 rfl rfl rfl hp3.1 (hts (.initialized RX2) (List.mem_cons_of_mem _ (List.mem_append_left _ (List.mem_append_left _ (List.mem_of_getElem? (i := 7) rfl))))) (by decide +kernel) ⟨Nat.le_of_ble_eq_true rfl, Nat.le_of_ble_eq_true rfl⟩, rfl, (hts (.instanceMethod yX2_init) (List.mem_cons_of_mem _ (List.mem_append_left _ (List.mem_append_left _ (List.mem_of_getElem? (i := 8) rfl)))))⟩ ⟨fun a U g mk q => by obtain ⟨q0, q1, qP, qK, qD⟩ := q; exact ⟨q0, q1, qP, va_K.moved (u := U) (U := U.calling g mk a) (Vm.Alike.refl U.vm) qK, qD⟩, fun U hU hW => ⟨rfl, by rw [hU], by rw [hU]; exact hPc, va_K.moved hW.alike hK, hDc.weaken (fun _ _ _ _ => trivial)⟩⟩ rfl rfl hl.1 rfl (lv_room (Nat.le_of_ble_eq_true rfl)) dX3_init_35 ⟨Nat.le_of_ble_eq_true rfl, Nat.le_of_ble_eq_true rfl⟩) hS (fun q _ h => hFc q h) hFc (fun u t H1 locs ht hvm hw hB hz1 hk1 hS => ?_)
  obtain ⟨u35_14, rfl⟩ : ∃ z, z = u := ⟨_, rfl⟩
  obtain ⟨hP1, hD1⟩ := hB
  rw [ht] at hP1
  have hwu35_14 : u35_14 0 = q31_13 := hw
  obtain ⟨hP, hD⟩ := kn_join (X := [(h0, .inr (3, [.ref q7, .int (iZ 0)])), (q7, .inl (C.2.1, 10, .inr (.inr (.inr (.inr (va_up (va_up (va_up (va_up (va_up (va_up (fun _ => none) 0 (some q31_1)) 1 (some q31_3)) 2 (some q31_5)) 3 (some q31_7)) 4 (some q31_9)) 5 (some q31_11)))))))]) hP hD hk1 hFc hP1 hD1
  generalize H1 = H at hP hS ⊢
  refine W.widen (k := 36) (n := 241) (Nat.le_refl _) (Nat.le_refl _) ?_
  replace hP : va_P D vwCl ([(h0, .inr (3, [.ref q7, .int (iZ 0)])), (q7, .inl (C.2.1, 10, .inr (.inr (.inr (.inr (va_up (va_up (va_up (va_up (va_up (va_up (fun _ => none) 0 (some q31_1)) 1 (some q31_3)) 2 (some q31_5)) 3 (some q31_7)) 4 (some q31_9)) 5 (some q31_11)))))))] ++ (moB C u35_14 ++ (moB C u35_12 ++ (moB C u35_10 ++ (moB C u35_8 ++ (moB C u35_6 ++ (moB C u35_4 ++ (moB C u35_2 ++ ([] : va_W))))))))) H := hP
  replace hD : va_D A ([(h0, .inr (3, [.ref q7, .int (iZ 0)])), (q7, .inl (C.2.1, 10, .inr (.inr (.inr (.inr (va_up (va_up (va_up (va_up (va_up (va_up (fun _ => none) 0 (some q31_1)) 1 (some q31_3)) 2 (some q31_5)) 3 (some q31_7)) 4 (some q31_9)) 5 (some q31_11)))))))] ++ (moB C u35_14 ++ (moB C u35_12 ++ (moB C u35_10 ++ (moB C u35_8 ++ (moB C u35_6 ++ (moB C u35_4 ++ (moB C u35_2 ++ ([] : va_W))))))))) := hD
  clear hFc hPc hDc hk1 hz1 hw
  refine va_astq hx hb hK hP hD hS 1 1 2 2 (r := (RX2, TX2, 7)) rfl rfl (moB_head hwu35_14) rfl (iZ_in (i := 6) (n := 10) (by decide) (by decide)) dX3_init_38 (fun H locs hP hD hS => ?_)
  replace hP : va_P D vwCl ([(h0, .inr (3, [.ref q7, .int (iZ 0)])), (q7, .inl (C.2.1, 10, .inr (.inr (.inr (.inr (va_up (va_up (va_up (va_up (va_up (va_up (va_up (fun _ => none) 0 (some q31_1)) 1 (some q31_3)) 2 (some q31_5)) 3 (some q31_7)) 4 (some q31_9)) 5 (some q31_11)) 6 (some q31_13)))))))] ++ (moB C u35_14 ++ (moB C u35_12 ++ (moB C u35_10 ++ (moB C u35_8 ++ (moB C u35_6 ++ (moB C u35_4 ++ (moB C u35_2 ++ ([] : va_W))))))))) H := hP
  replace hD : va_D A ([(h0, .inr (3, [.ref q7, .int (iZ 0)])), (q7, .inl (C.2.1, 10, .inr (.inr (.inr (.inr (va_up (va_up (va_up (va_up (va_up (va_up (va_up (fun _ => none) 0 (some q31_1)) 1 (some q31_3)) 2 (some q31_5)) 3 (some q31_7)) 4 (some q31_9)) 5 (some q31_11)) 6 (some q31_13)))))))] ++ (moB C u35_14 ++ (moB C u35_12 ++ (moB C u35_10 ++ (moB C u35_8 ++ (moB C u35_6 ++ (moB C u35_4 ++ (moB C u35_2 ++ ([] : va_W))))))))) := hD
  refine lv_iinc (v := iZ 7) (lv' := [(1, .int (iZ 7)), (0, .ref h0)]) hx hb dX3_init_39 hl (k := 0) rfl rfl (by decide) rfl (fun ls hl => ?_)
  refine lv_goto (tgt := 20) hx hb dX3_init_42 (by decide) ?_
  refine lv_iload_n hx hb dX3_init_20 rfl (lv_at hl 0 rfl) ?_
  refine lv_bipush (v := iZ 10) hx hb dX3_init_21 (by decide) ?_
  refine z_icmp_ge (x := 7) (y := 10) (tgt := 45) hx hb (by decide) (by decide) dX3_init_23 (by decide) (fun c9 => absurd c9 (by decide)) (fun c9 => ?_)
  refine lv_aload_n hx hb dX3_init_26 rfl (lv_at hl 1 rfl) ?_
  refine va_get (D := D) (ci := 3) (C := RX3) (T := TX3) (N := 2) hx hb hts hin_X3 hown hK hP 0 rfl rfl 0 (by decide) (hts (.fieldLink RX3 11 "WordFletchers$Past" "moments" "[LWordFletchers$Moment;") (List.mem_cons_of_mem _ (List.mem_append_left _ (List.mem_append_left _ (List.mem_of_getElem? (i := 4) rfl))))) (fun _ h9 => h9) rfl dX3_init_27 ?_
  refine lv_iload_n hx hb dX3_init_30 rfl (lv_at hl 0 rfl) ?_
  refine kn_new (ci := 2) (fs := [.int (iZ 0), .int (iZ 0), .int (iZ 0), .null, .null, .null, .null]) (RC := RX2) (T := TX2) (N := 7) hx hb hts hin_X2 tyX2 tyX2_ok hown (hts (.classLink RX3 9 RX2) (List.mem_cons_of_mem _ (List.mem_append_left _ (List.mem_append_left _ (List.mem_of_getElem? (i := 3) rfl))))) (hts (.instantiable RX2 7) (List.mem_cons_of_mem _ (List.mem_append_left _ (List.mem_append_left _ (List.mem_of_getElem? (i := 6) rfl))))) (hts (.initialized RX2) (List.mem_cons_of_mem _ (List.mem_append_left _ (List.mem_append_left _ (List.mem_of_getElem? (i := 7) rfl))))) hK hP hD hS hA rfl (by intro j hj; match j, hj with | 0, _ => rfl | 1, _ => rfl | 2, _ => rfl | 3, _ => rfl | 4, _ => rfl | 5, _ => rfl | 6, _ => rfl) (Nat.le_of_ble_eq_true rfl) (Nat.le_of_ble_eq_true rfl) dX3_init_31 (fun q31_15 H hP hD hS => ?_)
  refine W.widen (k := 37) (n := 248) (Nat.le_refl _) (Nat.le_refl _) ?_
  replace hP : va_P D vwCl ([(h0, .inr (3, [.ref q7, .int (iZ 0)])), (q7, .inl (C.2.1, 10, .inr (.inr (.inr (.inr (va_up (va_up (va_up (va_up (va_up (va_up (va_up (fun _ => none) 0 (some q31_1)) 1 (some q31_3)) 2 (some q31_5)) 3 (some q31_7)) 4 (some q31_9)) 5 (some q31_11)) 6 (some q31_13))))))), (q31_15, .inr (2, [.int (iZ 0), .int (iZ 0), .int (iZ 0), .null, .null, .null, .null]))] ++ (moB C u35_14 ++ (moB C u35_12 ++ (moB C u35_10 ++ (moB C u35_8 ++ (moB C u35_6 ++ (moB C u35_4 ++ (moB C u35_2 ++ ([] : va_W))))))))) H := hP
  replace hD : va_D A ([(h0, .inr (3, [.ref q7, .int (iZ 0)])), (q7, .inl (C.2.1, 10, .inr (.inr (.inr (.inr (va_up (va_up (va_up (va_up (va_up (va_up (va_up (fun _ => none) 0 (some q31_1)) 1 (some q31_3)) 2 (some q31_5)) 3 (some q31_7)) 4 (some q31_9)) 5 (some q31_11)) 6 (some q31_13))))))), (q31_15, .inr (2, [.int (iZ 0), .int (iZ 0), .int (iZ 0), .null, .null, .null, .null]))] ++ (moB C u35_14 ++ (moB C u35_12 ++ (moB C u35_10 ++ (moB C u35_8 ++ (moB C u35_6 ++ (moB C u35_4 ++ (moB C u35_2 ++ ([] : va_W))))))))) := hD
  refine lv_dup hx hb dX3_init_34 rfl ?_
  have hFc := va_free (wc := [(q31_15, .inr (2, [.int (iZ 0), .int (iZ 0), .int (iZ 0), .null, .null, .null, .null]))]) hD hS hA [2] rfl
  have hPc : va_P D vwCl [(q31_15, .inr (2, [.int (iZ 0), .int (iZ 0), .int (iZ 0), .null, .null, .null, .null]))] H := hP.sub (ws' := [(q31_15, .inr (2, [.int (iZ 0), .int (iZ 0), .int (iZ 0), .null, .null, .null, .null]))]) [2] rfl
  have hDc := hD.sub (ws' := [(q31_15, .inr (2, [.int (iZ 0), .int (iZ 0), .int (iZ 0), .null, .null, .null, .null]))]) [2] (by decide) rfl
  refine va_callv (va_runIN (As := []) (rest := [.ref q31_15, .int (iZ 7), .ref q7]) ⟨hx, hb, hml, hown, hts⟩ (K_X2_init l D C q31_15 H.size) ⟨va_cnB (host := RX7) 0 hts gX3_init_X2_init_n21 rfl rfl rfl hp3.1 (hts (.initialized RX2) (List.mem_cons_of_mem _ (List.mem_append_left _ (List.mem_append_left _ (List.mem_of_getElem? (i := 7) rfl))))) (by decide +kernel) ⟨Nat.le_of_ble_eq_true rfl, Nat.le_of_ble_eq_true rfl⟩, rfl, (hts (.instanceMethod yX2_init) (List.mem_cons_of_mem _ (List.mem_append_left _ (List.mem_append_left _ (List.mem_of_getElem? (i := 8) rfl)))))⟩ ⟨fun a U g mk q => by obtain ⟨q0, q1, qP, qK, qD⟩ := q; exact ⟨q0, q1, qP, va_K.moved (u := U) (U := U.calling g mk a) (Vm.Alike.refl U.vm) qK, qD⟩, fun U hU hW => ⟨rfl, by rw [hU], by rw [hU]; exact hPc, va_K.moved hW.alike hK, hDc.weaken (fun _ _ _ _ => trivial)⟩⟩ rfl rfl hl.1 rfl (lv_room (Nat.le_of_ble_eq_true rfl)) dX3_init_35 ⟨Nat.le_of_ble_eq_true rfl, Nat.le_of_ble_eq_true rfl⟩) hS (fun q _ h => hFc q h) hFc (fun u t H1 locs ht hvm hw hB hz1 hk1 hS => ?_)
  obtain ⟨u35_16, rfl⟩ : ∃ z, z = u := ⟨_, rfl⟩
  obtain ⟨hP1, hD1⟩ := hB
  rw [ht] at hP1
  have hwu35_16 : u35_16 0 = q31_15 := hw
  obtain ⟨hP, hD⟩ := kn_join (X := [(h0, .inr (3, [.ref q7, .int (iZ 0)])), (q7, .inl (C.2.1, 10, .inr (.inr (.inr (.inr (va_up (va_up (va_up (va_up (va_up (va_up (va_up (fun _ => none) 0 (some q31_1)) 1 (some q31_3)) 2 (some q31_5)) 3 (some q31_7)) 4 (some q31_9)) 5 (some q31_11)) 6 (some q31_13)))))))]) hP hD hk1 hFc hP1 hD1
  generalize H1 = H at hP hS ⊢
  refine W.widen (k := 41) (n := 274) (Nat.le_refl _) (Nat.le_refl _) ?_
  replace hP : va_P D vwCl ([(h0, .inr (3, [.ref q7, .int (iZ 0)])), (q7, .inl (C.2.1, 10, .inr (.inr (.inr (.inr (va_up (va_up (va_up (va_up (va_up (va_up (va_up (fun _ => none) 0 (some q31_1)) 1 (some q31_3)) 2 (some q31_5)) 3 (some q31_7)) 4 (some q31_9)) 5 (some q31_11)) 6 (some q31_13)))))))] ++ (moB C u35_16 ++ (moB C u35_14 ++ (moB C u35_12 ++ (moB C u35_10 ++ (moB C u35_8 ++ (moB C u35_6 ++ (moB C u35_4 ++ (moB C u35_2 ++ ([] : va_W)))))))))) H := hP
  replace hD : va_D A ([(h0, .inr (3, [.ref q7, .int (iZ 0)])), (q7, .inl (C.2.1, 10, .inr (.inr (.inr (.inr (va_up (va_up (va_up (va_up (va_up (va_up (va_up (fun _ => none) 0 (some q31_1)) 1 (some q31_3)) 2 (some q31_5)) 3 (some q31_7)) 4 (some q31_9)) 5 (some q31_11)) 6 (some q31_13)))))))] ++ (moB C u35_16 ++ (moB C u35_14 ++ (moB C u35_12 ++ (moB C u35_10 ++ (moB C u35_8 ++ (moB C u35_6 ++ (moB C u35_4 ++ (moB C u35_2 ++ ([] : va_W)))))))))) := hD
  clear hFc hPc hDc hk1 hz1 hw
  refine va_astq hx hb hK hP hD hS 1 1 2 2 (r := (RX2, TX2, 7)) rfl rfl (moB_head hwu35_16) rfl (iZ_in (i := 7) (n := 10) (by decide) (by decide)) dX3_init_38 (fun H locs hP hD hS => ?_)
  replace hP : va_P D vwCl ([(h0, .inr (3, [.ref q7, .int (iZ 0)])), (q7, .inl (C.2.1, 10, .inr (.inr (.inr (.inr (va_up (va_up (va_up (va_up (va_up (va_up (va_up (va_up (fun _ => none) 0 (some q31_1)) 1 (some q31_3)) 2 (some q31_5)) 3 (some q31_7)) 4 (some q31_9)) 5 (some q31_11)) 6 (some q31_13)) 7 (some q31_15)))))))] ++ (moB C u35_16 ++ (moB C u35_14 ++ (moB C u35_12 ++ (moB C u35_10 ++ (moB C u35_8 ++ (moB C u35_6 ++ (moB C u35_4 ++ (moB C u35_2 ++ ([] : va_W)))))))))) H := hP
  replace hD : va_D A ([(h0, .inr (3, [.ref q7, .int (iZ 0)])), (q7, .inl (C.2.1, 10, .inr (.inr (.inr (.inr (va_up (va_up (va_up (va_up (va_up (va_up (va_up (va_up (fun _ => none) 0 (some q31_1)) 1 (some q31_3)) 2 (some q31_5)) 3 (some q31_7)) 4 (some q31_9)) 5 (some q31_11)) 6 (some q31_13)) 7 (some q31_15)))))))] ++ (moB C u35_16 ++ (moB C u35_14 ++ (moB C u35_12 ++ (moB C u35_10 ++ (moB C u35_8 ++ (moB C u35_6 ++ (moB C u35_4 ++ (moB C u35_2 ++ ([] : va_W)))))))))) := hD
  refine lv_iinc (v := iZ 8) (lv' := [(1, .int (iZ 8)), (0, .ref h0)]) hx hb dX3_init_39 hl (k := 0) rfl rfl (by decide) rfl (fun ls hl => ?_)
  refine lv_goto (tgt := 20) hx hb dX3_init_42 (by decide) ?_
  refine lv_iload_n hx hb dX3_init_20 rfl (lv_at hl 0 rfl) ?_
  refine lv_bipush (v := iZ 10) hx hb dX3_init_21 (by decide) ?_
  refine z_icmp_ge (x := 8) (y := 10) (tgt := 45) hx hb (by decide) (by decide) dX3_init_23 (by decide) (fun c9 => absurd c9 (by decide)) (fun c9 => ?_)
  refine lv_aload_n hx hb dX3_init_26 rfl (lv_at hl 1 rfl) ?_
  refine va_get (D := D) (ci := 3) (C := RX3) (T := TX3) (N := 2) hx hb hts hin_X3 hown hK hP 0 rfl rfl 0 (by decide) (hts (.fieldLink RX3 11 "WordFletchers$Past" "moments" "[LWordFletchers$Moment;") (List.mem_cons_of_mem _ (List.mem_append_left _ (List.mem_append_left _ (List.mem_of_getElem? (i := 4) rfl))))) (fun _ h9 => h9) rfl dX3_init_27 ?_
  refine lv_iload_n hx hb dX3_init_30 rfl (lv_at hl 0 rfl) ?_
  refine kn_new (ci := 2) (fs := [.int (iZ 0), .int (iZ 0), .int (iZ 0), .null, .null, .null, .null]) (RC := RX2) (T := TX2) (N := 7) hx hb hts hin_X2 tyX2 tyX2_ok hown (hts (.classLink RX3 9 RX2) (List.mem_cons_of_mem _ (List.mem_append_left _ (List.mem_append_left _ (List.mem_of_getElem? (i := 3) rfl))))) (hts (.instantiable RX2 7) (List.mem_cons_of_mem _ (List.mem_append_left _ (List.mem_append_left _ (List.mem_of_getElem? (i := 6) rfl))))) (hts (.initialized RX2) (List.mem_cons_of_mem _ (List.mem_append_left _ (List.mem_append_left _ (List.mem_of_getElem? (i := 7) rfl))))) hK hP hD hS hA rfl (by intro j hj; match j, hj with | 0, _ => rfl | 1, _ => rfl | 2, _ => rfl | 3, _ => rfl | 4, _ => rfl | 5, _ => rfl | 6, _ => rfl) (Nat.le_of_ble_eq_true rfl) (Nat.le_of_ble_eq_true rfl) dX3_init_31 (fun q31_17 H hP hD hS => ?_)
  refine W.widen (k := 42) (n := 281) (Nat.le_refl _) (Nat.le_refl _) ?_
  replace hP : va_P D vwCl ([(h0, .inr (3, [.ref q7, .int (iZ 0)])), (q7, .inl (C.2.1, 10, .inr (.inr (.inr (.inr (va_up (va_up (va_up (va_up (va_up (va_up (va_up (va_up (fun _ => none) 0 (some q31_1)) 1 (some q31_3)) 2 (some q31_5)) 3 (some q31_7)) 4 (some q31_9)) 5 (some q31_11)) 6 (some q31_13)) 7 (some q31_15))))))), (q31_17, .inr (2, [.int (iZ 0), .int (iZ 0), .int (iZ 0), .null, .null, .null, .null]))] ++ (moB C u35_16 ++ (moB C u35_14 ++ (moB C u35_12 ++ (moB C u35_10 ++ (moB C u35_8 ++ (moB C u35_6 ++ (moB C u35_4 ++ (moB C u35_2 ++ ([] : va_W)))))))))) H := hP
  replace hD : va_D A ([(h0, .inr (3, [.ref q7, .int (iZ 0)])), (q7, .inl (C.2.1, 10, .inr (.inr (.inr (.inr (va_up (va_up (va_up (va_up (va_up (va_up (va_up (va_up (fun _ => none) 0 (some q31_1)) 1 (some q31_3)) 2 (some q31_5)) 3 (some q31_7)) 4 (some q31_9)) 5 (some q31_11)) 6 (some q31_13)) 7 (some q31_15))))))), (q31_17, .inr (2, [.int (iZ 0), .int (iZ 0), .int (iZ 0), .null, .null, .null, .null]))] ++ (moB C u35_16 ++ (moB C u35_14 ++ (moB C u35_12 ++ (moB C u35_10 ++ (moB C u35_8 ++ (moB C u35_6 ++ (moB C u35_4 ++ (moB C u35_2 ++ ([] : va_W)))))))))) := hD
  refine lv_dup hx hb dX3_init_34 rfl ?_
  have hFc := va_free (wc := [(q31_17, .inr (2, [.int (iZ 0), .int (iZ 0), .int (iZ 0), .null, .null, .null, .null]))]) hD hS hA [2] rfl
  have hPc : va_P D vwCl [(q31_17, .inr (2, [.int (iZ 0), .int (iZ 0), .int (iZ 0), .null, .null, .null, .null]))] H := hP.sub (ws' := [(q31_17, .inr (2, [.int (iZ 0), .int (iZ 0), .int (iZ 0), .null, .null, .null, .null]))]) [2] rfl
  have hDc := hD.sub (ws' := [(q31_17, .inr (2, [.int (iZ 0), .int (iZ 0), .int (iZ 0), .null, .null, .null, .null]))]) [2] (by decide) rfl
  refine va_callv (va_runIN (As := []) (rest := [.ref q31_17, .int (iZ 8), .ref q7]) ⟨hx, hb, hml, hown, hts⟩ (K_X2_init l D C q31_17 H.size) ⟨va_cnB (host := RX7) 0 hts gX3_init_X2_init_n21 rfl rfl rfl hp3.1 (hts (.initialized RX2) (List.mem_cons_of_mem _ (List.mem_append_left _ (List.mem_append_left _ (List.mem_of_getElem? (i := 7) rfl))))) (by decide +kernel) ⟨Nat.le_of_ble_eq_true rfl, Nat.le_of_ble_eq_true rfl⟩, rfl, (hts (.instanceMethod yX2_init) (List.mem_cons_of_mem _ (List.mem_append_left _ (List.mem_append_left _ (List.mem_of_getElem? (i := 8) rfl)))))⟩ ⟨fun a U g mk q => by obtain ⟨q0, q1, qP, qK, qD⟩ := q; exact ⟨q0, q1, qP, va_K.moved (u := U) (U := U.calling g mk a) (Vm.Alike.refl U.vm) qK, qD⟩, fun U hU hW => ⟨rfl, by rw [hU], by rw [hU]; exact hPc, va_K.moved hW.alike hK, hDc.weaken (fun _ _ _ _ => trivial)⟩⟩ rfl rfl hl.1 rfl (lv_room (Nat.le_of_ble_eq_true rfl)) dX3_init_35 ⟨Nat.le_of_ble_eq_true rfl, Nat.le_of_ble_eq_true rfl⟩) hS (fun q _ h => hFc q h) hFc (fun u t H1 locs ht hvm hw hB hz1 hk1 hS => ?_)
  obtain ⟨u35_18, rfl⟩ : ∃ z, z = u := ⟨_, rfl⟩
  obtain ⟨hP1, hD1⟩ := hB
  rw [ht] at hP1
  have hwu35_18 : u35_18 0 = q31_17 := hw
  obtain ⟨hP, hD⟩ := kn_join (X := [(h0, .inr (3, [.ref q7, .int (iZ 0)])), (q7, .inl (C.2.1, 10, .inr (.inr (.inr (.inr (va_up (va_up (va_up (va_up (va_up (va_up (va_up (va_up (fun _ => none) 0 (some q31_1)) 1 (some q31_3)) 2 (some q31_5)) 3 (some q31_7)) 4 (some q31_9)) 5 (some q31_11)) 6 (some q31_13)) 7 (some q31_15)))))))]) hP hD hk1 hFc hP1 hD1
  generalize H1 = H at hP hS ⊢
  refine W.widen (k := 46) (n := 307) (Nat.le_refl _) (Nat.le_refl _) ?_
  replace hP : va_P D vwCl ([(h0, .inr (3, [.ref q7, .int (iZ 0)])), (q7, .inl (C.2.1, 10, .inr (.inr (.inr (.inr (va_up (va_up (va_up (va_up (va_up (va_up (va_up (va_up (fun _ => none) 0 (some q31_1)) 1 (some q31_3)) 2 (some q31_5)) 3 (some q31_7)) 4 (some q31_9)) 5 (some q31_11)) 6 (some q31_13)) 7 (some q31_15)))))))] ++ (moB C u35_18 ++ (moB C u35_16 ++ (moB C u35_14 ++ (moB C u35_12 ++ (moB C u35_10 ++ (moB C u35_8 ++ (moB C u35_6 ++ (moB C u35_4 ++ (moB C u35_2 ++ ([] : va_W))))))))))) H := hP
  replace hD : va_D A ([(h0, .inr (3, [.ref q7, .int (iZ 0)])), (q7, .inl (C.2.1, 10, .inr (.inr (.inr (.inr (va_up (va_up (va_up (va_up (va_up (va_up (va_up (va_up (fun _ => none) 0 (some q31_1)) 1 (some q31_3)) 2 (some q31_5)) 3 (some q31_7)) 4 (some q31_9)) 5 (some q31_11)) 6 (some q31_13)) 7 (some q31_15)))))))] ++ (moB C u35_18 ++ (moB C u35_16 ++ (moB C u35_14 ++ (moB C u35_12 ++ (moB C u35_10 ++ (moB C u35_8 ++ (moB C u35_6 ++ (moB C u35_4 ++ (moB C u35_2 ++ ([] : va_W))))))))))) := hD
  clear hFc hPc hDc hk1 hz1 hw
  refine va_astq hx hb hK hP hD hS 1 1 2 2 (r := (RX2, TX2, 7)) rfl rfl (moB_head hwu35_18) rfl (iZ_in (i := 8) (n := 10) (by decide) (by decide)) dX3_init_38 (fun H locs hP hD hS => ?_)
  replace hP : va_P D vwCl ([(h0, .inr (3, [.ref q7, .int (iZ 0)])), (q7, .inl (C.2.1, 10, .inr (.inr (.inr (.inr (va_up (va_up (va_up (va_up (va_up (va_up (va_up (va_up (va_up (fun _ => none) 0 (some q31_1)) 1 (some q31_3)) 2 (some q31_5)) 3 (some q31_7)) 4 (some q31_9)) 5 (some q31_11)) 6 (some q31_13)) 7 (some q31_15)) 8 (some q31_17)))))))] ++ (moB C u35_18 ++ (moB C u35_16 ++ (moB C u35_14 ++ (moB C u35_12 ++ (moB C u35_10 ++ (moB C u35_8 ++ (moB C u35_6 ++ (moB C u35_4 ++ (moB C u35_2 ++ ([] : va_W))))))))))) H := hP
  replace hD : va_D A ([(h0, .inr (3, [.ref q7, .int (iZ 0)])), (q7, .inl (C.2.1, 10, .inr (.inr (.inr (.inr (va_up (va_up (va_up (va_up (va_up (va_up (va_up (va_up (va_up (fun _ => none) 0 (some q31_1)) 1 (some q31_3)) 2 (some q31_5)) 3 (some q31_7)) 4 (some q31_9)) 5 (some q31_11)) 6 (some q31_13)) 7 (some q31_15)) 8 (some q31_17)))))))] ++ (moB C u35_18 ++ (moB C u35_16 ++ (moB C u35_14 ++ (moB C u35_12 ++ (moB C u35_10 ++ (moB C u35_8 ++ (moB C u35_6 ++ (moB C u35_4 ++ (moB C u35_2 ++ ([] : va_W))))))))))) := hD
  refine lv_iinc (v := iZ 9) (lv' := [(1, .int (iZ 9)), (0, .ref h0)]) hx hb dX3_init_39 hl (k := 0) rfl rfl (by decide) rfl (fun ls hl => ?_)
  refine lv_goto (tgt := 20) hx hb dX3_init_42 (by decide) ?_
  refine lv_iload_n hx hb dX3_init_20 rfl (lv_at hl 0 rfl) ?_
  refine lv_bipush (v := iZ 10) hx hb dX3_init_21 (by decide) ?_
  refine z_icmp_ge (x := 9) (y := 10) (tgt := 45) hx hb (by decide) (by decide) dX3_init_23 (by decide) (fun c9 => absurd c9 (by decide)) (fun c9 => ?_)
  refine lv_aload_n hx hb dX3_init_26 rfl (lv_at hl 1 rfl) ?_
  refine va_get (D := D) (ci := 3) (C := RX3) (T := TX3) (N := 2) hx hb hts hin_X3 hown hK hP 0 rfl rfl 0 (by decide) (hts (.fieldLink RX3 11 "WordFletchers$Past" "moments" "[LWordFletchers$Moment;") (List.mem_cons_of_mem _ (List.mem_append_left _ (List.mem_append_left _ (List.mem_of_getElem? (i := 4) rfl))))) (fun _ h9 => h9) rfl dX3_init_27 ?_
  refine lv_iload_n hx hb dX3_init_30 rfl (lv_at hl 0 rfl) ?_
  refine kn_new (ci := 2) (fs := [.int (iZ 0), .int (iZ 0), .int (iZ 0), .null, .null, .null, .null]) (RC := RX2) (T := TX2) (N := 7) hx hb hts hin_X2 tyX2 tyX2_ok hown (hts (.classLink RX3 9 RX2) (List.mem_cons_of_mem _ (List.mem_append_left _ (List.mem_append_left _ (List.mem_of_getElem? (i := 3) rfl))))) (hts (.instantiable RX2 7) (List.mem_cons_of_mem _ (List.mem_append_left _ (List.mem_append_left _ (List.mem_of_getElem? (i := 6) rfl))))) (hts (.initialized RX2) (List.mem_cons_of_mem _ (List.mem_append_left _ (List.mem_append_left _ (List.mem_of_getElem? (i := 7) rfl))))) hK hP hD hS hA rfl (by intro j hj; match j, hj with | 0, _ => rfl | 1, _ => rfl | 2, _ => rfl | 3, _ => rfl | 4, _ => rfl | 5, _ => rfl | 6, _ => rfl) (Nat.le_of_ble_eq_true rfl) (Nat.le_of_ble_eq_true rfl) dX3_init_31 (fun q31_19 H hP hD hS => ?_)
  refine W.widen (k := 47) (n := 314) (Nat.le_refl _) (Nat.le_refl _) ?_
  replace hP : va_P D vwCl ([(h0, .inr (3, [.ref q7, .int (iZ 0)])), (q7, .inl (C.2.1, 10, .inr (.inr (.inr (.inr (va_up (va_up (va_up (va_up (va_up (va_up (va_up (va_up (va_up (fun _ => none) 0 (some q31_1)) 1 (some q31_3)) 2 (some q31_5)) 3 (some q31_7)) 4 (some q31_9)) 5 (some q31_11)) 6 (some q31_13)) 7 (some q31_15)) 8 (some q31_17))))))), (q31_19, .inr (2, [.int (iZ 0), .int (iZ 0), .int (iZ 0), .null, .null, .null, .null]))] ++ (moB C u35_18 ++ (moB C u35_16 ++ (moB C u35_14 ++ (moB C u35_12 ++ (moB C u35_10 ++ (moB C u35_8 ++ (moB C u35_6 ++ (moB C u35_4 ++ (moB C u35_2 ++ ([] : va_W))))))))))) H := hP
  replace hD : va_D A ([(h0, .inr (3, [.ref q7, .int (iZ 0)])), (q7, .inl (C.2.1, 10, .inr (.inr (.inr (.inr (va_up (va_up (va_up (va_up (va_up (va_up (va_up (va_up (va_up (fun _ => none) 0 (some q31_1)) 1 (some q31_3)) 2 (some q31_5)) 3 (some q31_7)) 4 (some q31_9)) 5 (some q31_11)) 6 (some q31_13)) 7 (some q31_15)) 8 (some q31_17))))))), (q31_19, .inr (2, [.int (iZ 0), .int (iZ 0), .int (iZ 0), .null, .null, .null, .null]))] ++ (moB C u35_18 ++ (moB C u35_16 ++ (moB C u35_14 ++ (moB C u35_12 ++ (moB C u35_10 ++ (moB C u35_8 ++ (moB C u35_6 ++ (moB C u35_4 ++ (moB C u35_2 ++ ([] : va_W))))))))))) := hD
  refine lv_dup hx hb dX3_init_34 rfl ?_
  have hFc := va_free (wc := [(q31_19, .inr (2, [.int (iZ 0), .int (iZ 0), .int (iZ 0), .null, .null, .null, .null]))]) hD hS hA [2] rfl
  have hPc : va_P D vwCl [(q31_19, .inr (2, [.int (iZ 0), .int (iZ 0), .int (iZ 0), .null, .null, .null, .null]))] H := hP.sub (ws' := [(q31_19, .inr (2, [.int (iZ 0), .int (iZ 0), .int (iZ 0), .null, .null, .null, .null]))]) [2] rfl
  have hDc := hD.sub (ws' := [(q31_19, .inr (2, [.int (iZ 0), .int (iZ 0), .int (iZ 0), .null, .null, .null, .null]))]) [2] (by decide) rfl
  refine va_callv (va_runIN (As := []) (rest := [.ref q31_19, .int (iZ 9), .ref q7]) ⟨hx, hb, hml, hown, hts⟩ (K_X2_init l D C q31_19 H.size) ⟨va_cnB (host := RX7) 0 hts gX3_init_X2_init_n21 rfl rfl rfl hp3.1 (hts (.initialized RX2) (List.mem_cons_of_mem _ (List.mem_append_left _ (List.mem_append_left _ (List.mem_of_getElem? (i := 7) rfl))))) (by decide +kernel) ⟨Nat.le_of_ble_eq_true rfl, Nat.le_of_ble_eq_true rfl⟩, rfl, (hts (.instanceMethod yX2_init) (List.mem_cons_of_mem _ (List.mem_append_left _ (List.mem_append_left _ (List.mem_of_getElem? (i := 8) rfl)))))⟩ ⟨fun a U g mk q => by obtain ⟨q0, q1, qP, qK, qD⟩ := q; exact ⟨q0, q1, qP, va_K.moved (u := U) (U := U.calling g mk a) (Vm.Alike.refl U.vm) qK, qD⟩, fun U hU hW => ⟨rfl, by rw [hU], by rw [hU]; exact hPc, va_K.moved hW.alike hK, hDc.weaken (fun _ _ _ _ => trivial)⟩⟩ rfl rfl hl.1 rfl (lv_room (Nat.le_of_ble_eq_true rfl)) dX3_init_35 ⟨Nat.le_of_ble_eq_true rfl, Nat.le_of_ble_eq_true rfl⟩) hS (fun q _ h => hFc q h) hFc (fun u t H1 locs ht hvm hw hB hz1 hk1 hS => ?_)
  obtain ⟨u35_20, rfl⟩ : ∃ z, z = u := ⟨_, rfl⟩
  obtain ⟨hP1, hD1⟩ := hB
  rw [ht] at hP1
  have hwu35_20 : u35_20 0 = q31_19 := hw
  obtain ⟨hP, hD⟩ := kn_join (X := [(h0, .inr (3, [.ref q7, .int (iZ 0)])), (q7, .inl (C.2.1, 10, .inr (.inr (.inr (.inr (va_up (va_up (va_up (va_up (va_up (va_up (va_up (va_up (va_up (fun _ => none) 0 (some q31_1)) 1 (some q31_3)) 2 (some q31_5)) 3 (some q31_7)) 4 (some q31_9)) 5 (some q31_11)) 6 (some q31_13)) 7 (some q31_15)) 8 (some q31_17)))))))]) hP hD hk1 hFc hP1 hD1
  generalize H1 = H at hP hS ⊢
  refine W.widen (k := 51) (n := 340) (Nat.le_refl _) (Nat.le_refl _) ?_
  replace hP : va_P D vwCl ([(h0, .inr (3, [.ref q7, .int (iZ 0)])), (q7, .inl (C.2.1, 10, .inr (.inr (.inr (.inr (va_up (va_up (va_up (va_up (va_up (va_up (va_up (va_up (va_up (fun _ => none) 0 (some q31_1)) 1 (some q31_3)) 2 (some q31_5)) 3 (some q31_7)) 4 (some q31_9)) 5 (some q31_11)) 6 (some q31_13)) 7 (some q31_15)) 8 (some q31_17)))))))] ++ (moB C u35_20 ++ (moB C u35_18 ++ (moB C u35_16 ++ (moB C u35_14 ++ (moB C u35_12 ++ (moB C u35_10 ++ (moB C u35_8 ++ (moB C u35_6 ++ (moB C u35_4 ++ (moB C u35_2 ++ ([] : va_W)))))))))))) H := hP
  replace hD : va_D A ([(h0, .inr (3, [.ref q7, .int (iZ 0)])), (q7, .inl (C.2.1, 10, .inr (.inr (.inr (.inr (va_up (va_up (va_up (va_up (va_up (va_up (va_up (va_up (va_up (fun _ => none) 0 (some q31_1)) 1 (some q31_3)) 2 (some q31_5)) 3 (some q31_7)) 4 (some q31_9)) 5 (some q31_11)) 6 (some q31_13)) 7 (some q31_15)) 8 (some q31_17)))))))] ++ (moB C u35_20 ++ (moB C u35_18 ++ (moB C u35_16 ++ (moB C u35_14 ++ (moB C u35_12 ++ (moB C u35_10 ++ (moB C u35_8 ++ (moB C u35_6 ++ (moB C u35_4 ++ (moB C u35_2 ++ ([] : va_W)))))))))))) := hD
  clear hFc hPc hDc hk1 hz1 hw
  refine va_astq hx hb hK hP hD hS 1 1 2 2 (r := (RX2, TX2, 7)) rfl rfl (moB_head hwu35_20) rfl (iZ_in (i := 9) (n := 10) (by decide) (by decide)) dX3_init_38 (fun H locs hP hD hS => ?_)
  replace hP : va_P D vwCl ([(h0, .inr (3, [.ref q7, .int (iZ 0)])), (q7, .inl (C.2.1, 10, .inr (.inr (.inr (.inr (va_up (va_up (va_up (va_up (va_up (va_up (va_up (va_up (va_up (va_up (fun _ => none) 0 (some q31_1)) 1 (some q31_3)) 2 (some q31_5)) 3 (some q31_7)) 4 (some q31_9)) 5 (some q31_11)) 6 (some q31_13)) 7 (some q31_15)) 8 (some q31_17)) 9 (some q31_19)))))))] ++ (moB C u35_20 ++ (moB C u35_18 ++ (moB C u35_16 ++ (moB C u35_14 ++ (moB C u35_12 ++ (moB C u35_10 ++ (moB C u35_8 ++ (moB C u35_6 ++ (moB C u35_4 ++ (moB C u35_2 ++ ([] : va_W)))))))))))) H := hP
  replace hD : va_D A ([(h0, .inr (3, [.ref q7, .int (iZ 0)])), (q7, .inl (C.2.1, 10, .inr (.inr (.inr (.inr (va_up (va_up (va_up (va_up (va_up (va_up (va_up (va_up (va_up (va_up (fun _ => none) 0 (some q31_1)) 1 (some q31_3)) 2 (some q31_5)) 3 (some q31_7)) 4 (some q31_9)) 5 (some q31_11)) 6 (some q31_13)) 7 (some q31_15)) 8 (some q31_17)) 9 (some q31_19)))))))] ++ (moB C u35_20 ++ (moB C u35_18 ++ (moB C u35_16 ++ (moB C u35_14 ++ (moB C u35_12 ++ (moB C u35_10 ++ (moB C u35_8 ++ (moB C u35_6 ++ (moB C u35_4 ++ (moB C u35_2 ++ ([] : va_W)))))))))))) := hD
  refine lv_iinc (v := iZ 10) (lv' := [(1, .int (iZ 10)), (0, .ref h0)]) hx hb dX3_init_39 hl (k := 0) rfl rfl (by decide) rfl (fun ls hl => ?_)
  refine lv_goto (tgt := 20) hx hb dX3_init_42 (by decide) ?_
  refine lv_iload_n hx hb dX3_init_20 rfl (lv_at hl 0 rfl) ?_
  refine lv_bipush (v := iZ 10) hx hb dX3_init_21 (by decide) ?_
  refine z_icmp_ge (x := 10) (y := 10) (tgt := 45) hx hb (by decide) (by decide) dX3_init_23 (by decide) (fun c9 => ?_) (fun c9 => absurd c9 (by decide))
  obtain ⟨us, hus⟩ : ∃ z : Nat → Nat → Nat, z = (fun j => ([u35_2, u35_4, u35_6, u35_8, u35_10, u35_12, u35_14, u35_16, u35_18, u35_20] : List (Nat → Nat)).getD j (fun _ => 0)) := ⟨_, rfl⟩
  obtain ⟨f9, hf9⟩ : ∃ z : Nat → Option Nat, z = (va_up (va_up (va_up (va_up (va_up (va_up (va_up (va_up (va_up (va_up (fun _ => none) 0 (some q31_1)) 1 (some q31_3)) 2 (some q31_5)) 3 (some q31_7)) 4 (some q31_9)) 5 (some q31_11)) 6 (some q31_13)) 7 (some q31_15)) 8 (some q31_17)) 9 (some q31_19)) := ⟨_, rfl⟩
  have hq : ∃ q : Nat → Nat, q = fun i => if i = 0 then h0 else if i = 1 then q7 else us ((i - 2) / 5) ((i - 2) % 5) := ⟨_, rfl⟩
  obtain ⟨q, hq⟩ := hq
  have e2 : ∀ j k, j < 10 → k < 5 → q (2 + 5 * j + k) = us j k := by
    intro j k hj hk
    rw [hq]
    show (if 2 + 5 * j + k = 0 then h0 else if 2 + 5 * j + k = 1 then _ else us ((2 + 5 * j + k - 2) / 5) ((2 + 5 * j + k - 2) % 5)) = us j k
    rw [if_neg (by omega), if_neg (by omega), show (2 + 5 * j + k - 2) / 5 = j by omega, show (2 + 5 * j + k - 2) % 5 = k by omega]
  have hP2 : va_P D vwCl ([(h0, .inr (3, [.ref q7, .int (iZ 0)])), (q7, .inl (C.2.1, 10, .inr (.inr (.inr (.inr f9)))))] ++ moBs C us 10) H := by rw [hf9, hus]; exact hP
  have hD2 : va_D A ([(h0, .inr (3, [.ref q7, .int (iZ 0)])), (q7, .inl (C.2.1, 10, .inr (.inr (.inr (.inr f9)))))] ++ moBs C us 10) := by rw [hf9, hus]; exact hD
  obtain ⟨hP3, hD3⟩ := paB_of hP2 hD2 q (by rw [hq]; rfl) (by rw [hq]; rfl) e2
  have hf : ∀ j : Nat, j < 10 → f9 j = some (q (2 + 5 * j)) := by
    intro j hj
    rw [show 2 + 5 * j = 2 + 5 * j + 0 from rfl, e2 j 0 hj (by decide), hf9, hus]
    match j, hj with
    | 0, _ => exact congrArg some hwu35_2.symm
    | 1, _ => exact congrArg some hwu35_4.symm
    | 2, _ => exact congrArg some hwu35_6.symm
    | 3, _ => exact congrArg some hwu35_8.symm
    | 4, _ => exact congrArg some hwu35_10.symm
    | 5, _ => exact congrArg some hwu35_12.symm
    | 6, _ => exact congrArg some hwu35_14.symm
    | 7, _ => exact congrArg some hwu35_16.symm
    | 8, _ => exact congrArg some hwu35_18.symm
    | 9, _ => exact congrArg some hwu35_20.symm
    | n + 10, h => exact absurd h (by omega)
  exact W.vret hx hb hr (fun t ht hW => ⟨⟨(q, f9), rfl, ⟨by rw [hq]; rfl, hf⟩, by rw [ht]; exact hP3, hD3⟩, hS.F ht⟩) hS.2.2 dX3_init_45 hlocks
set_option maxHeartbeats 4000000 in
set_option maxRecDepth 100000 in
theorem K_X1_init (l : Launch) (D : va_G) (C : cC) (h0 sz : Nat) : Met l yX1_init wsX1_init ({ frames := 3, cells := 57, slots := 375, locals := 66 }) (va_Pc [.ref h0] (fun U => U.heap.size = sz ∧ va_P D vwCl [(h0, .inr (1, [.null, .null, .int (iZ 0)]))] U.heap ∧ va_K D vwCl (cT C) U ∧ va_D (fun _ => True) [(h0, .inr (1, [.null, .null, .int (iZ 0)]))] ∧ nP1 U)) (va_Qv (fun q : (Nat → Nat) × (Nat → Option Nat) => q.1 0 = h0 ∧ ∀ j : Nat, j < 10 → q.2 j = some (q.1 (8 + 5 * j))) (fun q t => va_P D vwCl (imB C q.1 q.2) t.heap ∧ va_D (va_A [(h0, .inr (1, [.null, .null, .int (iZ 0)]))] sz) (imB C q.1 q.2)) (va_A [(h0, .inr (1, [.null, .null, .int (iZ 0)]))] sz)) 57 375 (va_A [(h0, .inr (1, [.null, .null, .int (iZ 0)]))] sz) := by
  refine Met.ofW (cc := cX1_init) (maxL := 1) (ret := none) (by decide) rfl ?_
  intro p e s m args below meth c s₁ B hml hv
  obtain ⟨rfl, hsz, hP, hK, hD0, hpre⟩ := hv
  have hx := B.exec
  have hb := B.bytes
  have hr := B.returns
  have hts := atoms_spec (ws := wsX1_init) B.pre
  have hown : s.vm.findClass RX1 = some m.cls := findClass_of_methodNamed B.named
  have hlocks := B.notSynchronized
  have hinit : meth.name = "<init>" := (name_of_methodNamed B.named B.method).1
  have hin_X2 : ∀ w ∈ wsX20, w ∈ wsX1_init := fun _ w_h => (List.mem_cons_of_mem _ (List.mem_append_left _ (List.mem_append_left _ (List.mem_append_right _ w_h))))
  have hin_X1 : ∀ w ∈ wsX10, w ∈ wsX1_init := fun _ w_h => (List.mem_cons_of_mem _ (List.mem_append_left _ (List.mem_append_right _ w_h)))
  have hin_X3 : ∀ w ∈ wsX30, w ∈ wsX1_init := fun _ w_h => (List.mem_cons_of_mem _ (List.mem_append_right _ w_h))
  subst hsz
  have hD := hD0.self (sz := s.heap.size)
  generalize hAe : va_A [(h0, .inr (1, [.null, .null, .int (iZ 0)]))] s.heap.size = A at hD ⊢
  have hA : ∀ q : Nat, s.heap.size ≤ q → A q := fun q h => by rw [← hAe]; exact Or.inr h
  have hS : va_S A s.heap s.heap [] := va_S.rf
  have hl := lv_entry ([.ref h0]) (n := 1) (Nat.le_of_ble_eq_true rfl)
  rw [lg_entry_eq]
  generalize (lg_sl ([.ref h0]) ++ List.replicate (1 - (lg_sl ([.ref h0])).length) Slot.unset).toArray = ls at hl ⊢
  replace hl : lv_has ls 1 [(0, .ref h0)] := hl
  generalize hHe : s.heap = H at hP ⊢
  have hS : va_S A s.heap H [] := by rw [hHe]; exact va_S.rf
  generalize hlo : ([] : List Loc) = locs at hS ⊢
  clear hHe hlo
  replace hP : va_P D vwCl ([(h0, .inr (1, [.null, .null, .int (iZ 0)]))] ++ ([] : va_W)) H := by rw [List.append_nil]; exact hP
  replace hD : va_D A ([(h0, .inr (1, [.null, .null, .int (iZ 0)]))] ++ ([] : va_W)) := by rw [List.append_nil]; exact hD
  have hp1 := hpre
  have hp3 := hp1.2
  refine lv_aload_n hx hb dX1_init_0 rfl (lv_at hl 0 rfl) ?_
  refine W.objInit hx hb hown (hts (.methodLink RX1 1 objectInit) (List.mem_cons_of_mem _ (List.mem_append_left _ (List.mem_append_left _ (List.mem_append_left _ (List.mem_append_left _ (List.mem_of_getElem? (i := 0) rfl))))))) (hts (.instanceMethod objectInit) (List.mem_cons_of_mem _ (List.mem_append_left _ (List.mem_append_left _ (List.mem_append_left _ (List.mem_append_left _ (List.mem_of_getElem? (i := 1) rfl))))))) (hts (.code objectInit ⟨#[0xb1]⟩ 1 none) (List.mem_cons_of_mem _ (List.mem_append_left _ (List.mem_append_left _ (List.mem_append_left _ (List.mem_append_left _ (List.mem_of_getElem? (i := 2) rfl))))))) rfl (by rw [hml]; exact hl.1) rfl dX1_init_1 (Nat.le_of_ble_eq_true rfl) (Nat.le_of_ble_eq_true rfl) ?_
  refine W.eq (g2 := F0 m 4 ls []) rfl ?_
  refine lv_aload_n hx hb dX1_init_4 rfl (lv_at hl 0 rfl) ?_
  refine kn_new (ci := 2) (fs := [.int (iZ 0), .int (iZ 0), .int (iZ 0), .null, .null, .null, .null]) (RC := RX2) (T := TX2) (N := 7) hx hb hts hin_X2 tyX2 tyX2_ok hown (hts (.classLink RX1 7 RX2) (List.mem_cons_of_mem _ (List.mem_append_left _ (List.mem_append_left _ (List.mem_append_left _ (List.mem_append_left _ (List.mem_of_getElem? (i := 3) rfl))))))) (hts (.instantiable RX2 7) (List.mem_cons_of_mem _ (List.mem_append_left _ (List.mem_append_left _ (List.mem_append_left _ (List.mem_append_left _ (List.mem_of_getElem? (i := 4) rfl))))))) (hts (.initialized RX2) (List.mem_cons_of_mem _ (List.mem_append_left _ (List.mem_append_left _ (List.mem_append_left _ (List.mem_append_left _ (List.mem_of_getElem? (i := 5) rfl))))))) hK hP hD hS hA rfl (by intro j hj; match j, hj with | 0, _ => rfl | 1, _ => rfl | 2, _ => rfl | 3, _ => rfl | 4, _ => rfl | 5, _ => rfl | 6, _ => rfl) (Nat.le_of_ble_eq_true rfl) (Nat.le_of_ble_eq_true rfl) dX1_init_5 (fun q5_1 H hP hD hS => ?_)
  refine W.widen (k := 1) (n := 7) (Nat.le_refl _) (Nat.le_refl _) ?_
  replace hP : va_P D vwCl ([(h0, .inr (1, [.null, .null, .int (iZ 0)])), (q5_1, .inr (2, [.int (iZ 0), .int (iZ 0), .int (iZ 0), .null, .null, .null, .null]))] ++ ([] : va_W)) H := hP
  replace hD : va_D A ([(h0, .inr (1, [.null, .null, .int (iZ 0)])), (q5_1, .inr (2, [.int (iZ 0), .int (iZ 0), .int (iZ 0), .null, .null, .null, .null]))] ++ ([] : va_W)) := hD
  refine lv_dup hx hb dX1_init_8 rfl ?_
  have hFc := va_free (wc := [(q5_1, .inr (2, [.int (iZ 0), .int (iZ 0), .int (iZ 0), .null, .null, .null, .null]))]) hD hS hA [1] rfl
  have hPc : va_P D vwCl [(q5_1, .inr (2, [.int (iZ 0), .int (iZ 0), .int (iZ 0), .null, .null, .null, .null]))] H := hP.sub (ws' := [(q5_1, .inr (2, [.int (iZ 0), .int (iZ 0), .int (iZ 0), .null, .null, .null, .null]))]) [1] rfl
  have hDc := hD.sub (ws' := [(q5_1, .inr (2, [.int (iZ 0), .int (iZ 0), .int (iZ 0), .null, .null, .null, .null]))]) [1] (by decide) rfl
  refine va_callv (va_runIN (As := []) (rest := [.ref q5_1, .ref h0]) ⟨hx, hb, hml, hown, hts⟩ (K_X2_init l D C q5_1 H.size) ⟨va_cnB (host := RX7) 0 hts gX1_init_X2_init_n9 rfl rfl rfl hp1.1 (hts (.initialized RX2) (List.mem_cons_of_mem _ (List.mem_append_left _ (List.mem_append_left _ (List.mem_append_left _ (List.mem_append_left _ (List.mem_of_getElem? (i := 5) rfl))))))) (by decide +kernel) ⟨Nat.le_of_ble_eq_true rfl, Nat.le_of_ble_eq_true rfl⟩, rfl, (hts (.instanceMethod yX2_init) (List.mem_cons_of_mem _ (List.mem_append_left _ (List.mem_append_left _ (List.mem_append_left _ (List.mem_append_left _ (List.mem_of_getElem? (i := 12) rfl)))))))⟩ ⟨fun a U g mk q => by obtain ⟨q0, q1, qP, qK, qD⟩ := q; exact ⟨q0, q1, qP, va_K.moved (u := U) (U := U.calling g mk a) (Vm.Alike.refl U.vm) qK, qD⟩, fun U hU hW => ⟨rfl, by rw [hU], by rw [hU]; exact hPc, va_K.moved hW.alike hK, hDc.weaken (fun _ _ _ _ => trivial)⟩⟩ rfl rfl hl.1 rfl (lv_room (Nat.le_of_ble_eq_true rfl)) dX1_init_9 ⟨Nat.le_of_ble_eq_true rfl, Nat.le_of_ble_eq_true rfl⟩) hS (fun q _ h => hFc q h) hFc (fun u t H1 locs ht hvm hw hB hz1 hk1 hS => ?_)
  obtain ⟨u9_2, rfl⟩ : ∃ z, z = u := ⟨_, rfl⟩
  obtain ⟨hP1, hD1⟩ := hB
  rw [ht] at hP1
  have hwu9_2 : u9_2 0 = q5_1 := hw
  obtain ⟨hP, hD⟩ := kn_join (X := [(h0, .inr (1, [.null, .null, .int (iZ 0)]))]) hP hD hk1 hFc hP1 hD1
  generalize H1 = H at hP hS ⊢
  refine W.widen (k := 5) (n := 33) (Nat.le_refl _) (Nat.le_refl _) ?_
  replace hP : va_P D vwCl ([(h0, .inr (1, [.null, .null, .int (iZ 0)]))] ++ (moB C u9_2 ++ ([] : va_W))) H := hP
  replace hD : va_D A ([(h0, .inr (1, [.null, .null, .int (iZ 0)]))] ++ (moB C u9_2 ++ ([] : va_W))) := hD
  clear hFc hPc hDc hk1 hz1 hw
  refine va_putF (D := D) (ci := 1) (v := .ref q5_1) (ty := .object "WordFletchers$Moment") (C := RX1) (T := TX1) (N := 3) hx hb hts hin_X1 tyX1 tyX1_ok nmX1 hown hK hP hD hS 0 rfl rfl 0 (by decide) (hts (.fieldLink RX1 10 "WordFletchers$Image" "moment" "LWordFletchers$Moment;") (List.mem_cons_of_mem _ (List.mem_append_left _ (List.mem_append_left _ (List.mem_append_left _ (List.mem_append_left _ (List.mem_of_getElem? (i := 6) rfl))))))) (fun _ h9 => h9) rfl hinit rfl (by decide +kernel) rfl rfl (Nat.le_of_ble_eq_true rfl) dX1_init_12 (fun H locs hP hD hS => ?_)
  replace hP : va_P D vwCl ([(h0, .inr (1, [.ref q5_1, .null, .int (iZ 0)]))] ++ (moB C u9_2 ++ ([] : va_W))) H := hP
  replace hD : va_D A ([(h0, .inr (1, [.ref q5_1, .null, .int (iZ 0)]))] ++ (moB C u9_2 ++ ([] : va_W))) := hD
  refine lv_aload_n hx hb dX1_init_15 rfl (lv_at hl 0 rfl) ?_
  refine kn_new (ci := 3) (fs := [.null, .int (iZ 0)]) (RC := RX3) (T := TX3) (N := 2) hx hb hts hin_X3 tyX3 tyX3_ok hown (hts (.classLink RX1 16 RX3) (List.mem_cons_of_mem _ (List.mem_append_left _ (List.mem_append_left _ (List.mem_append_left _ (List.mem_append_left _ (List.mem_of_getElem? (i := 7) rfl))))))) (hts (.instantiable RX3 2) (List.mem_cons_of_mem _ (List.mem_append_left _ (List.mem_append_left _ (List.mem_append_left _ (List.mem_append_left _ (List.mem_of_getElem? (i := 8) rfl))))))) (hts (.initialized RX3) (List.mem_cons_of_mem _ (List.mem_append_left _ (List.mem_append_left _ (List.mem_append_left _ (List.mem_append_left _ (List.mem_of_getElem? (i := 9) rfl))))))) hK hP hD hS hA rfl (by intro j hj; match j, hj with | 0, _ => rfl | 1, _ => rfl) (Nat.le_of_ble_eq_true rfl) (Nat.le_of_ble_eq_true rfl) dX1_init_16 (fun q16_3 H hP hD hS => ?_)
  refine W.widen (k := 6) (n := 35) (Nat.le_refl _) (Nat.le_refl _) ?_
  replace hP : va_P D vwCl ([(h0, .inr (1, [.ref q5_1, .null, .int (iZ 0)])), (q16_3, .inr (3, [.null, .int (iZ 0)]))] ++ (moB C u9_2 ++ ([] : va_W))) H := hP
  replace hD : va_D A ([(h0, .inr (1, [.ref q5_1, .null, .int (iZ 0)])), (q16_3, .inr (3, [.null, .int (iZ 0)]))] ++ (moB C u9_2 ++ ([] : va_W))) := hD
  refine lv_dup hx hb dX1_init_19 rfl ?_
  have hFc := va_free (wc := [(q16_3, .inr (3, [.null, .int (iZ 0)]))]) hD hS hA [1] rfl
  have hPc : va_P D vwCl [(q16_3, .inr (3, [.null, .int (iZ 0)]))] H := hP.sub (ws' := [(q16_3, .inr (3, [.null, .int (iZ 0)]))]) [1] rfl
  have hDc := hD.sub (ws' := [(q16_3, .inr (3, [.null, .int (iZ 0)]))]) [1] (by decide) rfl
  refine va_callv (va_runI (As := []) (rest := [.ref q16_3, .ref h0]) ⟨hx, hb, hml, hown, hts⟩ (K_X3_init l D C q16_3 H.size) (cwI 0 hts gX1_init_X3_init rfl rfl rfl (hts (.initialized RX3) (List.mem_cons_of_mem _ (List.mem_append_left _ (List.mem_append_left _ (List.mem_append_left _ (List.mem_append_left _ (List.mem_of_getElem? (i := 9) rfl))))))) (hts (.methodLink RX1 18 yX3_init) (List.mem_cons_of_mem _ (List.mem_append_left _ (List.mem_append_left _ (List.mem_append_left _ (List.mem_append_left _ (List.mem_of_getElem? (i := 20) rfl))))))) (hts (.instanceMethod yX3_init) (List.mem_cons_of_mem _ (List.mem_append_left _ (List.mem_append_left _ (List.mem_append_left _ (List.mem_append_left _ (List.mem_of_getElem? (i := 21) rfl))))))) rfl (by decide +kernel) ⟨Nat.le_of_ble_eq_true rfl, Nat.le_of_ble_eq_true rfl⟩) ⟨fun a U g mk q => by obtain ⟨q0, q1, qP, qK, qD, qE⟩ := q; exact ⟨q0, q1, qP, va_K.moved (u := U) (U := U.calling g mk a) (Vm.Alike.refl U.vm) qK, qD, nP3.bl qE⟩, fun U hU hW => ⟨rfl, by rw [hU], by rw [hU]; exact hPc, va_K.moved hW.alike hK, hDc.weaken (fun _ _ _ _ => trivial), nP3.mv hW hp3⟩⟩ rfl rfl hl.1 rfl (lv_room (Nat.le_of_ble_eq_true rfl)) dX1_init_20 ⟨Nat.le_of_ble_eq_true rfl, Nat.le_of_ble_eq_true rfl⟩) hS (fun q _ h => hFc q h) hFc (fun u t H1 locs ht hvm hw hB hz1 hk1 hS => ?_)
  obtain ⟨u20_4, rfl⟩ : ∃ z, z = u := ⟨_, rfl⟩
  obtain ⟨hP1, hD1⟩ := hB
  rw [ht] at hP1
  have hwu20_4 : u20_4.1 0 = q16_3 ∧ ∀ j : Nat, j < 10 → u20_4.2 j = some (u20_4.1 (2 + 5 * j)) := hw
  obtain ⟨hP, hD⟩ := kn_join (X := [(h0, .inr (1, [.ref q5_1, .null, .int (iZ 0)]))]) hP hD hk1 hFc hP1 hD1
  generalize H1 = H at hP hS ⊢
  refine W.widen (k := 57) (n := 375) (Nat.le_refl _) (Nat.le_refl _) ?_
  replace hP : va_P D vwCl ([(h0, .inr (1, [.ref q5_1, .null, .int (iZ 0)]))] ++ (paB C u20_4.1 u20_4.2 ++ (moB C u9_2 ++ ([] : va_W)))) H := hP
  replace hD : va_D A ([(h0, .inr (1, [.ref q5_1, .null, .int (iZ 0)]))] ++ (paB C u20_4.1 u20_4.2 ++ (moB C u9_2 ++ ([] : va_W)))) := hD
  clear hFc hPc hDc hk1 hz1 hw
  refine va_putF (D := D) (ci := 1) (v := .ref q16_3) (ty := .object "WordFletchers$Past") (C := RX1) (T := TX1) (N := 3) hx hb hts hin_X1 tyX1 tyX1_ok nmX1 hown hK hP hD hS 0 rfl rfl 1 (by decide) (hts (.fieldLink RX1 19 "WordFletchers$Image" "past" "LWordFletchers$Past;") (List.mem_cons_of_mem _ (List.mem_append_left _ (List.mem_append_left _ (List.mem_append_left _ (List.mem_append_left _ (List.mem_of_getElem? (i := 10) rfl))))))) (fun _ h9 => h9) rfl hinit rfl (by decide +kernel) rfl rfl (Nat.le_of_ble_eq_true rfl) dX1_init_23 (fun H locs hP hD hS => ?_)
  replace hP : va_P D vwCl ([(h0, .inr (1, [.ref q5_1, .ref q16_3, .int (iZ 0)]))] ++ (paB C u20_4.1 u20_4.2 ++ (moB C u9_2 ++ ([] : va_W)))) H := hP
  replace hD : va_D A ([(h0, .inr (1, [.ref q5_1, .ref q16_3, .int (iZ 0)]))] ++ (paB C u20_4.1 u20_4.2 ++ (moB C u9_2 ++ ([] : va_W)))) := hD
  refine lv_aload_n hx hb dX1_init_26 rfl (lv_at hl 0 rfl) ?_
  refine lv_iconst (v := iZ 0) hx hb dX1_init_27 (by decide) ?_
  refine va_put (D := D) (ci := 1) (v := .int (iZ 0)) (ty := .boolean) (C := RX1) (T := TX1) (N := 3) hx hb hts hin_X1 tyX1 tyX1_ok nmX1 hown hK hP hD hS 0 rfl rfl 2 (by decide) (hts (.fieldLink RX1 23 "WordFletchers$Image" "kept" "Z") (List.mem_cons_of_mem _ (List.mem_append_left _ (List.mem_append_left _ (List.mem_append_left _ (List.mem_append_left _ (List.mem_of_getElem? (i := 11) rfl))))))) (fun _ h9 => h9) rfl (by decide +kernel) (by decide +kernel) (by decide +kernel) (Nat.le_of_ble_eq_true rfl) dX1_init_28 (fun H locs hP hD hS => ?_)
  replace hP : va_P D vwCl ([(h0, .inr (1, [.ref q5_1, .ref q16_3, .int (iZ 0)]))] ++ (paB C u20_4.1 u20_4.2 ++ (moB C u9_2 ++ ([] : va_W)))) H := hP
  replace hD : va_D A ([(h0, .inr (1, [.ref q5_1, .ref q16_3, .int (iZ 0)]))] ++ (paB C u20_4.1 u20_4.2 ++ (moB C u9_2 ++ ([] : va_W)))) := hD
  obtain ⟨q, hq⟩ : ∃ q : Nat → Nat, q = fun i => if i = 0 then h0 else if i < 6 then u9_2 (i - 1) else u20_4.1 (i - 6) := ⟨_, rfl⟩
  have e1 : ∀ t, t < 5 → q (1 + t) = u9_2 t := fun t ht => by rw [hq]; show (if 1 + t = 0 then h0 else if 1 + t < 6 then u9_2 (1 + t - 1) else u20_4.1 (1 + t - 6)) = _; rw [if_neg (by omega), if_pos (by omega), show 1 + t - 1 = t by omega]
  have e2 : ∀ t, t < 52 → q (6 + t) = u20_4.1 t := fun t ht => by rw [hq]; show (if 6 + t = 0 then h0 else if 6 + t < 6 then u9_2 (6 + t - 1) else u20_4.1 (6 + t - 6)) = _; rw [if_neg (by omega), if_neg (by omega), show 6 + t - 6 = t by omega]
  obtain ⟨hP3, hD3⟩ := imB_of hwu9_2 hwu20_4.1 hP hD q (by rw [hq]; rfl) e1 e2
  have hf : ∀ j : Nat, j < 10 → u20_4.2 j = some (q (8 + 5 * j)) := fun j hj => by rw [hwu20_4.2 j hj, ← e2 _ (by omega)]; congr 2; omega
  exact W.vret hx hb hr (fun t ht hW => ⟨⟨(q, u20_4.2), rfl, ⟨by rw [hq]; rfl, hf⟩, by rw [ht]; exact hP3, hD3⟩, hS.F ht⟩) hS.2.2 dX1_init_31 hlocks
