set_option maxHeartbeats 4000000 in
set_option maxRecDepth 100000 in
theorem K_X2_init (l : Launch) (D : va_G) (C : cC) (h0 sz : Nat) : Met l yX2_init wsX2_init ({ frames := 1, cells := 4, slots := 26, locals := 24 }) (va_Pc [.ref h0] (fun U => U.heap.size = sz ∧ va_P D vwCl [(h0, .inr (2, [.int (iZ 0), .int (iZ 0), .int (iZ 0), .null, .null, .null, .null]))] U.heap ∧ va_K D vwCl (cT C) U ∧ va_D (fun _ => True) [(h0, .inr (2, [.int (iZ 0), .int (iZ 0), .int (iZ 0), .null, .null, .null, .null]))])) (va_Qv (fun q : Nat → Nat => q 0 = h0) (fun q t => va_P D vwCl (moB C q) t.heap ∧ va_D (va_A [(h0, .inr (2, [.int (iZ 0), .int (iZ 0), .int (iZ 0), .null, .null, .null, .null]))] sz) (moB C q)) (va_A [(h0, .inr (2, [.int (iZ 0), .int (iZ 0), .int (iZ 0), .null, .null, .null, .null]))] sz)) 4 26 (va_A [(h0, .inr (2, [.int (iZ 0), .int (iZ 0), .int (iZ 0), .null, .null, .null, .null]))] sz) := by
  refine Met.ofW (cc := cX2_init) (maxL := 1) (ret := none) (by decide) rfl ?_
  intro p e s m args below meth c s₁ B hml hv
  obtain ⟨rfl, hsz, hP, hK, hD0⟩ := hv
  have hx := B.exec
  have hb := B.bytes
  have hr := B.returns
  have hts := atoms_spec (ws := wsX2_init) B.pre
  have hown : s.vm.findClass RX2 = some m.cls := findClass_of_methodNamed B.named
  have hlocks := B.notSynchronized
  have hinit : meth.name = "<init>" := (name_of_methodNamed B.named B.method).1
  have hin_X2 : ∀ w ∈ wsX20, w ∈ wsX2_init := fun _ w_h => (List.mem_cons_of_mem _ (List.mem_append_right _ w_h))
  subst hsz
  have hD := hD0.self (sz := s.heap.size)
  generalize hAe : va_A [(h0, .inr (2, [.int (iZ 0), .int (iZ 0), .int (iZ 0), .null, .null, .null, .null]))] s.heap.size = A at hD ⊢
  have hA : ∀ q : Nat, s.heap.size ≤ q → A q := fun q h => by rw [← hAe]; exact Or.inr h
  have hS : va_S A s.heap s.heap [] := va_S.rf
  have hl := lv_entry ([.ref h0]) (n := 1) (Nat.le_of_ble_eq_true rfl)
  rw [lg_entry_eq]
  generalize (lg_sl ([.ref h0]) ++ List.replicate (1 - (lg_sl ([.ref h0])).length) Slot.unset).toArray = ls at hl ⊢
  replace hl : lv_has ls 1 [(0, .ref h0)] := hl
  generalize hHe : s.heap = H at hP ⊢
  have hS : va_S A s.heap H [] := by rw [hHe]; exact va_S.rf
  generalize hlo : ([] : List Loc) = locs at hS ⊢
  clear hHe hlo
  replace hP : va_P D vwCl ([(h0, .inr (2, [.int (iZ 0), .int (iZ 0), .int (iZ 0), .null, .null, .null, .null]))] ++ ([] : va_W)) H := by rw [List.append_nil]; exact hP
  replace hD : va_D A ([(h0, .inr (2, [.int (iZ 0), .int (iZ 0), .int (iZ 0), .null, .null, .null, .null]))] ++ ([] : va_W)) := by rw [List.append_nil]; exact hD
  refine lv_aload_n hx hb dX2_init_0 rfl (lv_at hl 0 rfl) ?_
  refine W.objInit hx hb hown (hts (.methodLink RX2 3 objectInit) (List.mem_cons_of_mem _ (List.mem_append_left _ (List.mem_of_getElem? (i := 0) rfl)))) (hts (.instanceMethod objectInit) (List.mem_cons_of_mem _ (List.mem_append_left _ (List.mem_of_getElem? (i := 1) rfl)))) (hts (.code objectInit ⟨#[0xb1]⟩ 1 none) (List.mem_cons_of_mem _ (List.mem_append_left _ (List.mem_of_getElem? (i := 2) rfl)))) rfl (by rw [hml]; exact hl.1) rfl dX2_init_1 (Nat.le_of_ble_eq_true rfl) (Nat.le_of_ble_eq_true rfl) ?_
  refine W.eq (g2 := F0 m 4 ls []) rfl ?_
  refine lv_aload_n hx hb dX2_init_4 rfl (lv_at hl 0 rfl) ?_
  refine lv_iconst (v := iZ 4) hx hb dX2_init_5 (by decide) ?_
  refine kn_newaI (N9 := 4) hx hb (hts (.arrayClass .int) (List.mem_cons_of_mem _ (List.mem_append_left _ (List.mem_of_getElem? (i := 3) rfl)))) hK 0 rfl hP hD hS hA (by decide) rfl (by decide) (Nat.le_of_ble_eq_true rfl) (Nat.le_of_ble_eq_true rfl) dX2_init_6 (fun q6 H hP hD hS => ?_)
  refine W.widen (k := 1) (n := 4) (Nat.le_refl _) (Nat.le_refl _) ?_
  replace hP : va_P D vwCl ([(h0, .inr (2, [.int (iZ 0), .int (iZ 0), .int (iZ 0), .null, .null, .null, .null])), (q6, .inl (C.1, 4, .inl (fun _ => iZ 0)))] ++ ([] : va_W)) H := hP
  replace hD : va_D A ([(h0, .inr (2, [.int (iZ 0), .int (iZ 0), .int (iZ 0), .null, .null, .null, .null])), (q6, .inl (C.1, 4, .inl (fun _ => iZ 0)))] ++ ([] : va_W)) := hD
  refine va_putF (D := D) (ci := 2) (v := .ref q6) (ty := .array .int) (C := RX2) (T := TX2) (N := 7) hx hb hts hin_X2 tyX2 tyX2_ok nmX2 hown hK hP hD hS 0 rfl rfl 3 (by decide) (hts (.fieldLink RX2 9 "WordFletchers$Moment" "feathers" "[I") (List.mem_cons_of_mem _ (List.mem_append_left _ (List.mem_of_getElem? (i := 4) rfl)))) (fun _ h9 => h9) rfl hinit rfl (by decide +kernel) rfl rfl (Nat.le_of_ble_eq_true rfl) dX2_init_8 (fun H locs hP hD hS => ?_)
  replace hP : va_P D vwCl ([(h0, .inr (2, [.int (iZ 0), .int (iZ 0), .int (iZ 0), .ref q6, .null, .null, .null])), (q6, .inl (C.1, 4, .inl (fun _ => iZ 0)))] ++ ([] : va_W)) H := hP
  replace hD : va_D A ([(h0, .inr (2, [.int (iZ 0), .int (iZ 0), .int (iZ 0), .ref q6, .null, .null, .null])), (q6, .inl (C.1, 4, .inl (fun _ => iZ 0)))] ++ ([] : va_W)) := hD
  refine lv_aload_n hx hb dX2_init_11 rfl (lv_at hl 0 rfl) ?_
  refine lv_bipush (v := iZ 6) hx hb dX2_init_12 (by decide) ?_
  refine kn_newaI (N9 := 6) hx hb (hts (.arrayClass .int) (List.mem_cons_of_mem _ (List.mem_append_left _ (List.mem_of_getElem? (i := 3) rfl)))) hK 0 rfl hP hD hS hA (by decide) rfl (by decide) (Nat.le_of_ble_eq_true rfl) (Nat.le_of_ble_eq_true rfl) dX2_init_14 (fun q14 H hP hD hS => ?_)
  refine W.widen (k := 2) (n := 10) (Nat.le_refl _) (Nat.le_refl _) ?_
  replace hP : va_P D vwCl ([(h0, .inr (2, [.int (iZ 0), .int (iZ 0), .int (iZ 0), .ref q6, .null, .null, .null])), (q6, .inl (C.1, 4, .inl (fun _ => iZ 0))), (q14, .inl (C.1, 6, .inl (fun _ => iZ 0)))] ++ ([] : va_W)) H := hP
  replace hD : va_D A ([(h0, .inr (2, [.int (iZ 0), .int (iZ 0), .int (iZ 0), .ref q6, .null, .null, .null])), (q6, .inl (C.1, 4, .inl (fun _ => iZ 0))), (q14, .inl (C.1, 6, .inl (fun _ => iZ 0)))] ++ ([] : va_W)) := hD
  refine va_putF (D := D) (ci := 2) (v := .ref q14) (ty := .array .int) (C := RX2) (T := TX2) (N := 7) hx hb hts hin_X2 tyX2 tyX2_ok nmX2 hown hK hP hD hS 0 rfl rfl 4 (by decide) (hts (.fieldLink RX2 15 "WordFletchers$Moment" "knows" "[I") (List.mem_cons_of_mem _ (List.mem_append_left _ (List.mem_of_getElem? (i := 5) rfl)))) (fun _ h9 => h9) rfl hinit rfl (by decide +kernel) rfl rfl (Nat.le_of_ble_eq_true rfl) dX2_init_16 (fun H locs hP hD hS => ?_)
  replace hP : va_P D vwCl ([(h0, .inr (2, [.int (iZ 0), .int (iZ 0), .int (iZ 0), .ref q6, .ref q14, .null, .null])), (q6, .inl (C.1, 4, .inl (fun _ => iZ 0))), (q14, .inl (C.1, 6, .inl (fun _ => iZ 0)))] ++ ([] : va_W)) H := hP
  replace hD : va_D A ([(h0, .inr (2, [.int (iZ 0), .int (iZ 0), .int (iZ 0), .ref q6, .ref q14, .null, .null])), (q6, .inl (C.1, 4, .inl (fun _ => iZ 0))), (q14, .inl (C.1, 6, .inl (fun _ => iZ 0)))] ++ ([] : va_W)) := hD
  refine lv_aload_n hx hb dX2_init_19 rfl (lv_at hl 0 rfl) ?_
  refine lv_bipush (v := iZ 8) hx hb dX2_init_20 (by decide) ?_
  refine kn_newaI (N9 := 8) hx hb (hts (.arrayClass .int) (List.mem_cons_of_mem _ (List.mem_append_left _ (List.mem_of_getElem? (i := 3) rfl)))) hK 0 rfl hP hD hS hA (by decide) rfl (by decide) (Nat.le_of_ble_eq_true rfl) (Nat.le_of_ble_eq_true rfl) dX2_init_22 (fun q22 H hP hD hS => ?_)
  refine W.widen (k := 3) (n := 18) (Nat.le_refl _) (Nat.le_refl _) ?_
  replace hP : va_P D vwCl ([(h0, .inr (2, [.int (iZ 0), .int (iZ 0), .int (iZ 0), .ref q6, .ref q14, .null, .null])), (q6, .inl (C.1, 4, .inl (fun _ => iZ 0))), (q14, .inl (C.1, 6, .inl (fun _ => iZ 0))), (q22, .inl (C.1, 8, .inl (fun _ => iZ 0)))] ++ ([] : va_W)) H := hP
  replace hD : va_D A ([(h0, .inr (2, [.int (iZ 0), .int (iZ 0), .int (iZ 0), .ref q6, .ref q14, .null, .null])), (q6, .inl (C.1, 4, .inl (fun _ => iZ 0))), (q14, .inl (C.1, 6, .inl (fun _ => iZ 0))), (q22, .inl (C.1, 8, .inl (fun _ => iZ 0)))] ++ ([] : va_W)) := hD
  refine va_putF (D := D) (ci := 2) (v := .ref q22) (ty := .array .int) (C := RX2) (T := TX2) (N := 7) hx hb hts hin_X2 tyX2 tyX2_ok nmX2 hown hK hP hD hS 0 rfl rfl 5 (by decide) (hts (.fieldLink RX2 18 "WordFletchers$Moment" "straySaying" "[I") (List.mem_cons_of_mem _ (List.mem_append_left _ (List.mem_of_getElem? (i := 6) rfl)))) (fun _ h9 => h9) rfl hinit rfl (by decide +kernel) rfl rfl (Nat.le_of_ble_eq_true rfl) dX2_init_24 (fun H locs hP hD hS => ?_)
  replace hP : va_P D vwCl ([(h0, .inr (2, [.int (iZ 0), .int (iZ 0), .int (iZ 0), .ref q6, .ref q14, .ref q22, .null])), (q6, .inl (C.1, 4, .inl (fun _ => iZ 0))), (q14, .inl (C.1, 6, .inl (fun _ => iZ 0))), (q22, .inl (C.1, 8, .inl (fun _ => iZ 0)))] ++ ([] : va_W)) H := hP
  replace hD : va_D A ([(h0, .inr (2, [.int (iZ 0), .int (iZ 0), .int (iZ 0), .ref q6, .ref q14, .ref q22, .null])), (q6, .inl (C.1, 4, .inl (fun _ => iZ 0))), (q14, .inl (C.1, 6, .inl (fun _ => iZ 0))), (q22, .inl (C.1, 8, .inl (fun _ => iZ 0)))] ++ ([] : va_W)) := hD
  refine lv_aload_n hx hb dX2_init_27 rfl (lv_at hl 0 rfl) ?_
  refine lv_bipush (v := iZ 8) hx hb dX2_init_28 (by decide) ?_
  refine kn_newaI (N9 := 8) hx hb (hts (.arrayClass .int) (List.mem_cons_of_mem _ (List.mem_append_left _ (List.mem_of_getElem? (i := 3) rfl)))) hK 0 rfl hP hD hS hA (by decide) rfl (by decide) (Nat.le_of_ble_eq_true rfl) (Nat.le_of_ble_eq_true rfl) dX2_init_30 (fun q30 H hP hD hS => ?_)
  refine W.widen (k := 4) (n := 26) (Nat.le_refl _) (Nat.le_refl _) ?_
  replace hP : va_P D vwCl ([(h0, .inr (2, [.int (iZ 0), .int (iZ 0), .int (iZ 0), .ref q6, .ref q14, .ref q22, .null])), (q6, .inl (C.1, 4, .inl (fun _ => iZ 0))), (q14, .inl (C.1, 6, .inl (fun _ => iZ 0))), (q22, .inl (C.1, 8, .inl (fun _ => iZ 0))), (q30, .inl (C.1, 8, .inl (fun _ => iZ 0)))] ++ ([] : va_W)) H := hP
  replace hD : va_D A ([(h0, .inr (2, [.int (iZ 0), .int (iZ 0), .int (iZ 0), .ref q6, .ref q14, .ref q22, .null])), (q6, .inl (C.1, 4, .inl (fun _ => iZ 0))), (q14, .inl (C.1, 6, .inl (fun _ => iZ 0))), (q22, .inl (C.1, 8, .inl (fun _ => iZ 0))), (q30, .inl (C.1, 8, .inl (fun _ => iZ 0)))] ++ ([] : va_W)) := hD
  refine va_putF (D := D) (ci := 2) (v := .ref q30) (ty := .array .int) (C := RX2) (T := TX2) (N := 7) hx hb hts hin_X2 tyX2 tyX2_ok nmX2 hown hK hP hD hS 0 rfl rfl 6 (by decide) (hts (.fieldLink RX2 21 "WordFletchers$Moment" "strayPlace" "[I") (List.mem_cons_of_mem _ (List.mem_append_left _ (List.mem_of_getElem? (i := 7) rfl)))) (fun _ h9 => h9) rfl hinit rfl (by decide +kernel) rfl rfl (Nat.le_of_ble_eq_true rfl) dX2_init_32 (fun H locs hP hD hS => ?_)
  replace hP : va_P D vwCl ([(h0, .inr (2, [.int (iZ 0), .int (iZ 0), .int (iZ 0), .ref q6, .ref q14, .ref q22, .ref q30])), (q6, .inl (C.1, 4, .inl (fun _ => iZ 0))), (q14, .inl (C.1, 6, .inl (fun _ => iZ 0))), (q22, .inl (C.1, 8, .inl (fun _ => iZ 0))), (q30, .inl (C.1, 8, .inl (fun _ => iZ 0)))] ++ ([] : va_W)) H := hP
  replace hD : va_D A ([(h0, .inr (2, [.int (iZ 0), .int (iZ 0), .int (iZ 0), .ref q6, .ref q14, .ref q22, .ref q30])), (q6, .inl (C.1, 4, .inl (fun _ => iZ 0))), (q14, .inl (C.1, 6, .inl (fun _ => iZ 0))), (q22, .inl (C.1, 8, .inl (fun _ => iZ 0))), (q30, .inl (C.1, 8, .inl (fun _ => iZ 0)))] ++ ([] : va_W)) := hD
  exact W.vret hx hb hr (fun t ht hW => ⟨⟨(fun i => ([h0, q6, q14, q22, q30] : List Nat).getD i 0), rfl, rfl, by rw [ht]; exact (show va_P D vwCl (moB C (fun i => ([h0, q6, q14, q22, q30] : List Nat).getD i 0)) H from hP), (show va_D A (moB C (fun i => ([h0, q6, q14, q22, q30] : List Nat).getD i 0)) from hD)⟩, hS.F ht⟩) hS.2.2 dX2_init_35 hlocks
set_option maxHeartbeats 4000000 in
set_option maxRecDepth 100000 in
theorem K_X4_init (l : Launch) (D : va_G) (C : cC) (h0 sz : Nat) : Met l yX4_init wsX4_init ({ frames := 1, cells := 4, slots := 16, locals := 24 }) (va_Pc [.ref h0] (fun U => U.heap.size = sz ∧ va_P D vwCl [(h0, .inr (4, [.null, .null, .null, .null, .int (iZ 0)]))] U.heap ∧ va_K D vwCl (cT C) U ∧ va_D (fun _ => True) [(h0, .inr (4, [.null, .null, .null, .null, .int (iZ 0)]))])) (va_Qv (fun q : Nat → Nat => q 0 = h0) (fun q t => va_P D vwCl (siB C q) t.heap ∧ va_D (va_A [(h0, .inr (4, [.null, .null, .null, .null, .int (iZ 0)]))] sz) (siB C q)) (va_A [(h0, .inr (4, [.null, .null, .null, .null, .int (iZ 0)]))] sz)) 4 16 (va_A [(h0, .inr (4, [.null, .null, .null, .null, .int (iZ 0)]))] sz) := by
  refine Met.ofW (cc := cX4_init) (maxL := 1) (ret := none) (by decide) rfl ?_
  intro p e s m args below meth c s₁ B hml hv
  obtain ⟨rfl, hsz, hP, hK, hD0⟩ := hv
  have hx := B.exec
  have hb := B.bytes
  have hr := B.returns
  have hts := atoms_spec (ws := wsX4_init) B.pre
  have hown : s.vm.findClass RX4 = some m.cls := findClass_of_methodNamed B.named
  have hlocks := B.notSynchronized
  have hinit : meth.name = "<init>" := (name_of_methodNamed B.named B.method).1
  have hin_X4 : ∀ w ∈ wsX40, w ∈ wsX4_init := fun _ w_h => (List.mem_cons_of_mem _ (List.mem_append_right _ w_h))
  subst hsz
  have hD := hD0.self (sz := s.heap.size)
  generalize hAe : va_A [(h0, .inr (4, [.null, .null, .null, .null, .int (iZ 0)]))] s.heap.size = A at hD ⊢
  have hA : ∀ q : Nat, s.heap.size ≤ q → A q := fun q h => by rw [← hAe]; exact Or.inr h
  have hS : va_S A s.heap s.heap [] := va_S.rf
  have hl := lv_entry ([.ref h0]) (n := 1) (Nat.le_of_ble_eq_true rfl)
  rw [lg_entry_eq]
  generalize (lg_sl ([.ref h0]) ++ List.replicate (1 - (lg_sl ([.ref h0])).length) Slot.unset).toArray = ls at hl ⊢
  replace hl : lv_has ls 1 [(0, .ref h0)] := hl
  generalize hHe : s.heap = H at hP ⊢
  have hS : va_S A s.heap H [] := by rw [hHe]; exact va_S.rf
  generalize hlo : ([] : List Loc) = locs at hS ⊢
  clear hHe hlo
  replace hP : va_P D vwCl ([(h0, .inr (4, [.null, .null, .null, .null, .int (iZ 0)]))] ++ ([] : va_W)) H := by rw [List.append_nil]; exact hP
  replace hD : va_D A ([(h0, .inr (4, [.null, .null, .null, .null, .int (iZ 0)]))] ++ ([] : va_W)) := by rw [List.append_nil]; exact hD
  refine lv_aload_n hx hb dX4_init_0 rfl (lv_at hl 0 rfl) ?_
  refine W.objInit hx hb hown (hts (.methodLink RX4 3 objectInit) (List.mem_cons_of_mem _ (List.mem_append_left _ (List.mem_of_getElem? (i := 0) rfl)))) (hts (.instanceMethod objectInit) (List.mem_cons_of_mem _ (List.mem_append_left _ (List.mem_of_getElem? (i := 1) rfl)))) (hts (.code objectInit ⟨#[0xb1]⟩ 1 none) (List.mem_cons_of_mem _ (List.mem_append_left _ (List.mem_of_getElem? (i := 2) rfl)))) rfl (by rw [hml]; exact hl.1) rfl dX4_init_1 (Nat.le_of_ble_eq_true rfl) (Nat.le_of_ble_eq_true rfl) ?_
  refine W.eq (g2 := F0 m 4 ls []) rfl ?_
  refine lv_aload_n hx hb dX4_init_4 rfl (lv_at hl 0 rfl) ?_
  refine lv_iconst (v := iZ 4) hx hb dX4_init_5 (by decide) ?_
  refine kn_newaI (N9 := 4) hx hb (hts (.arrayClass .int) (List.mem_cons_of_mem _ (List.mem_append_left _ (List.mem_of_getElem? (i := 3) rfl)))) hK 0 rfl hP hD hS hA (by decide) rfl (by decide) (Nat.le_of_ble_eq_true rfl) (Nat.le_of_ble_eq_true rfl) dX4_init_6 (fun q6 H hP hD hS => ?_)
  refine W.widen (k := 1) (n := 4) (Nat.le_refl _) (Nat.le_refl _) ?_
  replace hP : va_P D vwCl ([(h0, .inr (4, [.null, .null, .null, .null, .int (iZ 0)])), (q6, .inl (C.1, 4, .inl (fun _ => iZ 0)))] ++ ([] : va_W)) H := hP
  replace hD : va_D A ([(h0, .inr (4, [.null, .null, .null, .null, .int (iZ 0)])), (q6, .inl (C.1, 4, .inl (fun _ => iZ 0)))] ++ ([] : va_W)) := hD
  refine va_putF (D := D) (ci := 4) (v := .ref q6) (ty := .array .int) (C := RX4) (T := TX4) (N := 5) hx hb hts hin_X4 tyX4 tyX4_ok nmX4 hown hK hP hD hS 0 rfl rfl 0 (by decide) (hts (.fieldLink RX4 9 "WordFletchers$Sightings" "saying" "[I") (List.mem_cons_of_mem _ (List.mem_append_left _ (List.mem_of_getElem? (i := 4) rfl)))) (fun _ h9 => h9) rfl hinit rfl (by decide +kernel) rfl rfl (Nat.le_of_ble_eq_true rfl) dX4_init_8 (fun H locs hP hD hS => ?_)
  replace hP : va_P D vwCl ([(h0, .inr (4, [.ref q6, .null, .null, .null, .int (iZ 0)])), (q6, .inl (C.1, 4, .inl (fun _ => iZ 0)))] ++ ([] : va_W)) H := hP
  replace hD : va_D A ([(h0, .inr (4, [.ref q6, .null, .null, .null, .int (iZ 0)])), (q6, .inl (C.1, 4, .inl (fun _ => iZ 0)))] ++ ([] : va_W)) := hD
  refine lv_aload_n hx hb dX4_init_11 rfl (lv_at hl 0 rfl) ?_
  refine lv_iconst (v := iZ 4) hx hb dX4_init_12 (by decide) ?_
  refine kn_newaI (N9 := 4) hx hb (hts (.arrayClass .int) (List.mem_cons_of_mem _ (List.mem_append_left _ (List.mem_of_getElem? (i := 3) rfl)))) hK 0 rfl hP hD hS hA (by decide) rfl (by decide) (Nat.le_of_ble_eq_true rfl) (Nat.le_of_ble_eq_true rfl) dX4_init_13 (fun q13 H hP hD hS => ?_)
  refine W.widen (k := 2) (n := 8) (Nat.le_refl _) (Nat.le_refl _) ?_
  replace hP : va_P D vwCl ([(h0, .inr (4, [.ref q6, .null, .null, .null, .int (iZ 0)])), (q6, .inl (C.1, 4, .inl (fun _ => iZ 0))), (q13, .inl (C.1, 4, .inl (fun _ => iZ 0)))] ++ ([] : va_W)) H := hP
  replace hD : va_D A ([(h0, .inr (4, [.ref q6, .null, .null, .null, .int (iZ 0)])), (q6, .inl (C.1, 4, .inl (fun _ => iZ 0))), (q13, .inl (C.1, 4, .inl (fun _ => iZ 0)))] ++ ([] : va_W)) := hD
  refine va_putF (D := D) (ci := 4) (v := .ref q13) (ty := .array .int) (C := RX4) (T := TX4) (N := 5) hx hb hts hin_X4 tyX4 tyX4_ok nmX4 hown hK hP hD hS 0 rfl rfl 1 (by decide) (hts (.fieldLink RX4 15 "WordFletchers$Sightings" "place" "[I") (List.mem_cons_of_mem _ (List.mem_append_left _ (List.mem_of_getElem? (i := 5) rfl)))) (fun _ h9 => h9) rfl hinit rfl (by decide +kernel) rfl rfl (Nat.le_of_ble_eq_true rfl) dX4_init_15 (fun H locs hP hD hS => ?_)
  replace hP : va_P D vwCl ([(h0, .inr (4, [.ref q6, .ref q13, .null, .null, .int (iZ 0)])), (q6, .inl (C.1, 4, .inl (fun _ => iZ 0))), (q13, .inl (C.1, 4, .inl (fun _ => iZ 0)))] ++ ([] : va_W)) H := hP
  replace hD : va_D A ([(h0, .inr (4, [.ref q6, .ref q13, .null, .null, .int (iZ 0)])), (q6, .inl (C.1, 4, .inl (fun _ => iZ 0))), (q13, .inl (C.1, 4, .inl (fun _ => iZ 0)))] ++ ([] : va_W)) := hD
  refine lv_aload_n hx hb dX4_init_18 rfl (lv_at hl 0 rfl) ?_
  refine lv_iconst (v := iZ 4) hx hb dX4_init_19 (by decide) ?_
  refine kn_newaI (N9 := 4) hx hb (hts (.arrayClass .int) (List.mem_cons_of_mem _ (List.mem_append_left _ (List.mem_of_getElem? (i := 3) rfl)))) hK 0 rfl hP hD hS hA (by decide) rfl (by decide) (Nat.le_of_ble_eq_true rfl) (Nat.le_of_ble_eq_true rfl) dX4_init_20 (fun q20 H hP hD hS => ?_)
  refine W.widen (k := 3) (n := 12) (Nat.le_refl _) (Nat.le_refl _) ?_
  replace hP : va_P D vwCl ([(h0, .inr (4, [.ref q6, .ref q13, .null, .null, .int (iZ 0)])), (q6, .inl (C.1, 4, .inl (fun _ => iZ 0))), (q13, .inl (C.1, 4, .inl (fun _ => iZ 0))), (q20, .inl (C.1, 4, .inl (fun _ => iZ 0)))] ++ ([] : va_W)) H := hP
  replace hD : va_D A ([(h0, .inr (4, [.ref q6, .ref q13, .null, .null, .int (iZ 0)])), (q6, .inl (C.1, 4, .inl (fun _ => iZ 0))), (q13, .inl (C.1, 4, .inl (fun _ => iZ 0))), (q20, .inl (C.1, 4, .inl (fun _ => iZ 0)))] ++ ([] : va_W)) := hD
  refine va_putF (D := D) (ci := 4) (v := .ref q20) (ty := .array .int) (C := RX4) (T := TX4) (N := 5) hx hb hts hin_X4 tyX4 tyX4_ok nmX4 hown hK hP hD hS 0 rfl rfl 2 (by decide) (hts (.fieldLink RX4 18 "WordFletchers$Sightings" "wind" "[I") (List.mem_cons_of_mem _ (List.mem_append_left _ (List.mem_of_getElem? (i := 6) rfl)))) (fun _ h9 => h9) rfl hinit rfl (by decide +kernel) rfl rfl (Nat.le_of_ble_eq_true rfl) dX4_init_22 (fun H locs hP hD hS => ?_)
  replace hP : va_P D vwCl ([(h0, .inr (4, [.ref q6, .ref q13, .ref q20, .null, .int (iZ 0)])), (q6, .inl (C.1, 4, .inl (fun _ => iZ 0))), (q13, .inl (C.1, 4, .inl (fun _ => iZ 0))), (q20, .inl (C.1, 4, .inl (fun _ => iZ 0)))] ++ ([] : va_W)) H := hP
  replace hD : va_D A ([(h0, .inr (4, [.ref q6, .ref q13, .ref q20, .null, .int (iZ 0)])), (q6, .inl (C.1, 4, .inl (fun _ => iZ 0))), (q13, .inl (C.1, 4, .inl (fun _ => iZ 0))), (q20, .inl (C.1, 4, .inl (fun _ => iZ 0)))] ++ ([] : va_W)) := hD
  refine lv_aload_n hx hb dX4_init_25 rfl (lv_at hl 0 rfl) ?_
  refine lv_iconst (v := iZ 4) hx hb dX4_init_26 (by decide) ?_
  refine kn_newaI (N9 := 4) hx hb (hts (.arrayClass .int) (List.mem_cons_of_mem _ (List.mem_append_left _ (List.mem_of_getElem? (i := 3) rfl)))) hK 0 rfl hP hD hS hA (by decide) rfl (by decide) (Nat.le_of_ble_eq_true rfl) (Nat.le_of_ble_eq_true rfl) dX4_init_27 (fun q27 H hP hD hS => ?_)
  refine W.widen (k := 4) (n := 16) (Nat.le_refl _) (Nat.le_refl _) ?_
  replace hP : va_P D vwCl ([(h0, .inr (4, [.ref q6, .ref q13, .ref q20, .null, .int (iZ 0)])), (q6, .inl (C.1, 4, .inl (fun _ => iZ 0))), (q13, .inl (C.1, 4, .inl (fun _ => iZ 0))), (q20, .inl (C.1, 4, .inl (fun _ => iZ 0))), (q27, .inl (C.1, 4, .inl (fun _ => iZ 0)))] ++ ([] : va_W)) H := hP
  replace hD : va_D A ([(h0, .inr (4, [.ref q6, .ref q13, .ref q20, .null, .int (iZ 0)])), (q6, .inl (C.1, 4, .inl (fun _ => iZ 0))), (q13, .inl (C.1, 4, .inl (fun _ => iZ 0))), (q20, .inl (C.1, 4, .inl (fun _ => iZ 0))), (q27, .inl (C.1, 4, .inl (fun _ => iZ 0)))] ++ ([] : va_W)) := hD
  refine va_putF (D := D) (ci := 4) (v := .ref q27) (ty := .array .int) (C := RX4) (T := TX4) (N := 5) hx hb hts hin_X4 tyX4 tyX4_ok nmX4 hown hK hP hD hS 0 rfl rfl 3 (by decide) (hts (.fieldLink RX4 21 "WordFletchers$Sightings" "damp" "[I") (List.mem_cons_of_mem _ (List.mem_append_left _ (List.mem_of_getElem? (i := 7) rfl)))) (fun _ h9 => h9) rfl hinit rfl (by decide +kernel) rfl rfl (Nat.le_of_ble_eq_true rfl) dX4_init_29 (fun H locs hP hD hS => ?_)
  replace hP : va_P D vwCl ([(h0, .inr (4, [.ref q6, .ref q13, .ref q20, .ref q27, .int (iZ 0)])), (q6, .inl (C.1, 4, .inl (fun _ => iZ 0))), (q13, .inl (C.1, 4, .inl (fun _ => iZ 0))), (q20, .inl (C.1, 4, .inl (fun _ => iZ 0))), (q27, .inl (C.1, 4, .inl (fun _ => iZ 0)))] ++ ([] : va_W)) H := hP
  replace hD : va_D A ([(h0, .inr (4, [.ref q6, .ref q13, .ref q20, .ref q27, .int (iZ 0)])), (q6, .inl (C.1, 4, .inl (fun _ => iZ 0))), (q13, .inl (C.1, 4, .inl (fun _ => iZ 0))), (q20, .inl (C.1, 4, .inl (fun _ => iZ 0))), (q27, .inl (C.1, 4, .inl (fun _ => iZ 0)))] ++ ([] : va_W)) := hD
  refine lv_aload_n hx hb dX4_init_32 rfl (lv_at hl 0 rfl) ?_
  refine lv_iconst (v := iZ 0) hx hb dX4_init_33 (by decide) ?_
  refine va_put (D := D) (ci := 4) (v := .int (iZ 0)) (ty := .int) (C := RX4) (T := TX4) (N := 5) hx hb hts hin_X4 tyX4 tyX4_ok nmX4 hown hK hP hD hS 0 rfl rfl 4 (by decide) (hts (.fieldLink RX4 24 "WordFletchers$Sightings" "size" "I") (List.mem_cons_of_mem _ (List.mem_append_left _ (List.mem_of_getElem? (i := 8) rfl)))) (fun _ h9 => h9) rfl (by decide +kernel) (by decide +kernel) (by decide +kernel) (Nat.le_of_ble_eq_true rfl) dX4_init_34 (fun H locs hP hD hS => ?_)
  replace hP : va_P D vwCl ([(h0, .inr (4, [.ref q6, .ref q13, .ref q20, .ref q27, .int (iZ 0)])), (q6, .inl (C.1, 4, .inl (fun _ => iZ 0))), (q13, .inl (C.1, 4, .inl (fun _ => iZ 0))), (q20, .inl (C.1, 4, .inl (fun _ => iZ 0))), (q27, .inl (C.1, 4, .inl (fun _ => iZ 0)))] ++ ([] : va_W)) H := hP
  replace hD : va_D A ([(h0, .inr (4, [.ref q6, .ref q13, .ref q20, .ref q27, .int (iZ 0)])), (q6, .inl (C.1, 4, .inl (fun _ => iZ 0))), (q13, .inl (C.1, 4, .inl (fun _ => iZ 0))), (q20, .inl (C.1, 4, .inl (fun _ => iZ 0))), (q27, .inl (C.1, 4, .inl (fun _ => iZ 0)))] ++ ([] : va_W)) := hD
  exact W.vret hx hb hr (fun t ht hW => ⟨⟨(fun i => ([h0, q6, q13, q20, q27] : List Nat).getD i 0), rfl, rfl, by rw [ht]; exact (show va_P D vwCl (siB C (fun i => ([h0, q6, q13, q20, q27] : List Nat).getD i 0)) H from hP), (show va_D A (siB C (fun i => ([h0, q6, q13, q20, q27] : List Nat).getD i 0)) from hD)⟩, hS.F ht⟩) hS.2.2 dX4_init_37 hlocks
set_option maxHeartbeats 4000000 in
set_option maxRecDepth 100000 in
theorem K_X0_init (l : Launch) (D : va_G) (C : cC) (h0 sz : Nat) : Met l yX0_init wsX0_init ({ frames := 1, cells := 3, slots := 34, locals := 24 }) (va_Pc [.ref h0] (fun U => U.heap.size = sz ∧ va_P D vwCl [(h0, .inr (0, [.null, .null, .null, .int (iZ 0), .int (iZ 0), .int (iZ 0)]))] U.heap ∧ va_K D vwCl (cT C) U ∧ va_D (fun _ => True) [(h0, .inr (0, [.null, .null, .null, .int (iZ 0), .int (iZ 0), .int (iZ 0)]))])) (va_Qv (fun q : Nat → Nat => q 0 = h0) (fun q t => va_P D vwCl (alB C q) t.heap ∧ va_D (va_A [(h0, .inr (0, [.null, .null, .null, .int (iZ 0), .int (iZ 0), .int (iZ 0)]))] sz) (alB C q)) (va_A [(h0, .inr (0, [.null, .null, .null, .int (iZ 0), .int (iZ 0), .int (iZ 0)]))] sz)) 3 34 (va_A [(h0, .inr (0, [.null, .null, .null, .int (iZ 0), .int (iZ 0), .int (iZ 0)]))] sz) := by
  refine Met.ofW (cc := cX0_init) (maxL := 1) (ret := none) (by decide) rfl ?_
  intro p e s m args below meth c s₁ B hml hv
  obtain ⟨rfl, hsz, hP, hK, hD0⟩ := hv
  have hx := B.exec
  have hb := B.bytes
  have hr := B.returns
  have hts := atoms_spec (ws := wsX0_init) B.pre
  have hown : s.vm.findClass RX0 = some m.cls := findClass_of_methodNamed B.named
  have hlocks := B.notSynchronized
  have hinit : meth.name = "<init>" := (name_of_methodNamed B.named B.method).1
  have hin_X0 : ∀ w ∈ wsX00, w ∈ wsX0_init := fun _ w_h => (List.mem_cons_of_mem _ (List.mem_append_right _ w_h))
  subst hsz
  have hD := hD0.self (sz := s.heap.size)
  generalize hAe : va_A [(h0, .inr (0, [.null, .null, .null, .int (iZ 0), .int (iZ 0), .int (iZ 0)]))] s.heap.size = A at hD ⊢
  have hA : ∀ q : Nat, s.heap.size ≤ q → A q := fun q h => by rw [← hAe]; exact Or.inr h
  have hS : va_S A s.heap s.heap [] := va_S.rf
  have hl := lv_entry ([.ref h0]) (n := 1) (Nat.le_of_ble_eq_true rfl)
  rw [lg_entry_eq]
  generalize (lg_sl ([.ref h0]) ++ List.replicate (1 - (lg_sl ([.ref h0])).length) Slot.unset).toArray = ls at hl ⊢
  replace hl : lv_has ls 1 [(0, .ref h0)] := hl
  generalize hHe : s.heap = H at hP ⊢
  have hS : va_S A s.heap H [] := by rw [hHe]; exact va_S.rf
  generalize hlo : ([] : List Loc) = locs at hS ⊢
  clear hHe hlo
  replace hP : va_P D vwCl ([(h0, .inr (0, [.null, .null, .null, .int (iZ 0), .int (iZ 0), .int (iZ 0)]))] ++ ([] : va_W)) H := by rw [List.append_nil]; exact hP
  replace hD : va_D A ([(h0, .inr (0, [.null, .null, .null, .int (iZ 0), .int (iZ 0), .int (iZ 0)]))] ++ ([] : va_W)) := by rw [List.append_nil]; exact hD
  refine lv_aload_n hx hb dX0_init_0 rfl (lv_at hl 0 rfl) ?_
  refine W.objInit hx hb hown (hts (.methodLink RX0 3 objectInit) (List.mem_cons_of_mem _ (List.mem_append_left _ (List.mem_of_getElem? (i := 0) rfl)))) (hts (.instanceMethod objectInit) (List.mem_cons_of_mem _ (List.mem_append_left _ (List.mem_of_getElem? (i := 1) rfl)))) (hts (.code objectInit ⟨#[0xb1]⟩ 1 none) (List.mem_cons_of_mem _ (List.mem_append_left _ (List.mem_of_getElem? (i := 2) rfl)))) rfl (by rw [hml]; exact hl.1) rfl dX0_init_1 (Nat.le_of_ble_eq_true rfl) (Nat.le_of_ble_eq_true rfl) ?_
  refine W.eq (g2 := F0 m 4 ls []) rfl ?_
  refine lv_aload_n hx hb dX0_init_4 rfl (lv_at hl 0 rfl) ?_
  refine lv_bipush (v := iZ 6) hx hb dX0_init_5 (by decide) ?_
  refine kn_newaI (N9 := 6) hx hb (hts (.arrayClass .int) (List.mem_cons_of_mem _ (List.mem_append_left _ (List.mem_of_getElem? (i := 3) rfl)))) hK 0 rfl hP hD hS hA (by decide) rfl (by decide) (Nat.le_of_ble_eq_true rfl) (Nat.le_of_ble_eq_true rfl) dX0_init_7 (fun q7 H hP hD hS => ?_)
  refine W.widen (k := 1) (n := 6) (Nat.le_refl _) (Nat.le_refl _) ?_
  replace hP : va_P D vwCl ([(h0, .inr (0, [.null, .null, .null, .int (iZ 0), .int (iZ 0), .int (iZ 0)])), (q7, .inl (C.1, 6, .inl (fun _ => iZ 0)))] ++ ([] : va_W)) H := hP
  replace hD : va_D A ([(h0, .inr (0, [.null, .null, .null, .int (iZ 0), .int (iZ 0), .int (iZ 0)])), (q7, .inl (C.1, 6, .inl (fun _ => iZ 0)))] ++ ([] : va_W)) := hD
  refine va_putF (D := D) (ci := 0) (v := .ref q7) (ty := .array .int) (C := RX0) (T := TX0) (N := 6) hx hb hts hin_X0 tyX0 tyX0_ok nmX0 hown hK hP hD hS 0 rfl rfl 0 (by decide) (hts (.fieldLink RX0 9 "WordFletchers$Allotment" "saying" "[I") (List.mem_cons_of_mem _ (List.mem_append_left _ (List.mem_of_getElem? (i := 4) rfl)))) (fun _ h9 => h9) rfl hinit rfl (by decide +kernel) rfl rfl (Nat.le_of_ble_eq_true rfl) dX0_init_9 (fun H locs hP hD hS => ?_)
  replace hP : va_P D vwCl ([(h0, .inr (0, [.ref q7, .null, .null, .int (iZ 0), .int (iZ 0), .int (iZ 0)])), (q7, .inl (C.1, 6, .inl (fun _ => iZ 0)))] ++ ([] : va_W)) H := hP
  replace hD : va_D A ([(h0, .inr (0, [.ref q7, .null, .null, .int (iZ 0), .int (iZ 0), .int (iZ 0)])), (q7, .inl (C.1, 6, .inl (fun _ => iZ 0)))] ++ ([] : va_W)) := hD
  refine lv_aload_n hx hb dX0_init_12 rfl (lv_at hl 0 rfl) ?_
  refine lv_bipush (v := iZ 24) hx hb dX0_init_13 (by decide) ?_
  refine kn_newaI (N9 := 24) hx hb (hts (.arrayClass .int) (List.mem_cons_of_mem _ (List.mem_append_left _ (List.mem_of_getElem? (i := 3) rfl)))) hK 0 rfl hP hD hS hA (by decide) rfl (by decide) (Nat.le_of_ble_eq_true rfl) (Nat.le_of_ble_eq_true rfl) dX0_init_15 (fun q15 H hP hD hS => ?_)
  refine W.widen (k := 2) (n := 30) (Nat.le_refl _) (Nat.le_refl _) ?_
  replace hP : va_P D vwCl ([(h0, .inr (0, [.ref q7, .null, .null, .int (iZ 0), .int (iZ 0), .int (iZ 0)])), (q7, .inl (C.1, 6, .inl (fun _ => iZ 0))), (q15, .inl (C.1, 24, .inl (fun _ => iZ 0)))] ++ ([] : va_W)) H := hP
  replace hD : va_D A ([(h0, .inr (0, [.ref q7, .null, .null, .int (iZ 0), .int (iZ 0), .int (iZ 0)])), (q7, .inl (C.1, 6, .inl (fun _ => iZ 0))), (q15, .inl (C.1, 24, .inl (fun _ => iZ 0)))] ++ ([] : va_W)) := hD
  refine va_putF (D := D) (ci := 0) (v := .ref q15) (ty := .array .int) (C := RX0) (T := TX0) (N := 6) hx hb hts hin_X0 tyX0 tyX0_ok nmX0 hown hK hP hD hS 0 rfl rfl 1 (by decide) (hts (.fieldLink RX0 15 "WordFletchers$Allotment" "fewest" "[I") (List.mem_cons_of_mem _ (List.mem_append_left _ (List.mem_of_getElem? (i := 5) rfl)))) (fun _ h9 => h9) rfl hinit rfl (by decide +kernel) rfl rfl (Nat.le_of_ble_eq_true rfl) dX0_init_17 (fun H locs hP hD hS => ?_)
  replace hP : va_P D vwCl ([(h0, .inr (0, [.ref q7, .ref q15, .null, .int (iZ 0), .int (iZ 0), .int (iZ 0)])), (q7, .inl (C.1, 6, .inl (fun _ => iZ 0))), (q15, .inl (C.1, 24, .inl (fun _ => iZ 0)))] ++ ([] : va_W)) H := hP
  replace hD : va_D A ([(h0, .inr (0, [.ref q7, .ref q15, .null, .int (iZ 0), .int (iZ 0), .int (iZ 0)])), (q7, .inl (C.1, 6, .inl (fun _ => iZ 0))), (q15, .inl (C.1, 24, .inl (fun _ => iZ 0)))] ++ ([] : va_W)) := hD
  refine lv_aload_n hx hb dX0_init_20 rfl (lv_at hl 0 rfl) ?_
  refine lv_iconst (v := iZ 4) hx hb dX0_init_21 (by decide) ?_
  refine kn_newaI (N9 := 4) hx hb (hts (.arrayClass .int) (List.mem_cons_of_mem _ (List.mem_append_left _ (List.mem_of_getElem? (i := 3) rfl)))) hK 0 rfl hP hD hS hA (by decide) rfl (by decide) (Nat.le_of_ble_eq_true rfl) (Nat.le_of_ble_eq_true rfl) dX0_init_22 (fun q22 H hP hD hS => ?_)
  refine W.widen (k := 3) (n := 34) (Nat.le_refl _) (Nat.le_refl _) ?_
  replace hP : va_P D vwCl ([(h0, .inr (0, [.ref q7, .ref q15, .null, .int (iZ 0), .int (iZ 0), .int (iZ 0)])), (q7, .inl (C.1, 6, .inl (fun _ => iZ 0))), (q15, .inl (C.1, 24, .inl (fun _ => iZ 0))), (q22, .inl (C.1, 4, .inl (fun _ => iZ 0)))] ++ ([] : va_W)) H := hP
  replace hD : va_D A ([(h0, .inr (0, [.ref q7, .ref q15, .null, .int (iZ 0), .int (iZ 0), .int (iZ 0)])), (q7, .inl (C.1, 6, .inl (fun _ => iZ 0))), (q15, .inl (C.1, 24, .inl (fun _ => iZ 0))), (q22, .inl (C.1, 4, .inl (fun _ => iZ 0)))] ++ ([] : va_W)) := hD
  refine va_putF (D := D) (ci := 0) (v := .ref q22) (ty := .array .int) (C := RX0) (T := TX0) (N := 6) hx hb hts hin_X0 tyX0 tyX0_ok nmX0 hown hK hP hD hS 0 rfl rfl 2 (by decide) (hts (.fieldLink RX0 18 "WordFletchers$Allotment" "used" "[I") (List.mem_cons_of_mem _ (List.mem_append_left _ (List.mem_of_getElem? (i := 6) rfl)))) (fun _ h9 => h9) rfl hinit rfl (by decide +kernel) rfl rfl (Nat.le_of_ble_eq_true rfl) dX0_init_24 (fun H locs hP hD hS => ?_)
  replace hP : va_P D vwCl ([(h0, .inr (0, [.ref q7, .ref q15, .ref q22, .int (iZ 0), .int (iZ 0), .int (iZ 0)])), (q7, .inl (C.1, 6, .inl (fun _ => iZ 0))), (q15, .inl (C.1, 24, .inl (fun _ => iZ 0))), (q22, .inl (C.1, 4, .inl (fun _ => iZ 0)))] ++ ([] : va_W)) H := hP
  replace hD : va_D A ([(h0, .inr (0, [.ref q7, .ref q15, .ref q22, .int (iZ 0), .int (iZ 0), .int (iZ 0)])), (q7, .inl (C.1, 6, .inl (fun _ => iZ 0))), (q15, .inl (C.1, 24, .inl (fun _ => iZ 0))), (q22, .inl (C.1, 4, .inl (fun _ => iZ 0)))] ++ ([] : va_W)) := hD
  refine lv_aload_n hx hb dX0_init_27 rfl (lv_at hl 0 rfl) ?_
  refine lv_iconst (v := iZ 0) hx hb dX0_init_28 (by decide) ?_
  refine va_put (D := D) (ci := 0) (v := .int (iZ 0)) (ty := .int) (C := RX0) (T := TX0) (N := 6) hx hb hts hin_X0 tyX0 tyX0_ok nmX0 hown hK hP hD hS 0 rfl rfl 3 (by decide) (hts (.fieldLink RX0 21 "WordFletchers$Allotment" "members" "I") (List.mem_cons_of_mem _ (List.mem_append_left _ (List.mem_of_getElem? (i := 7) rfl)))) (fun _ h9 => h9) rfl (by decide +kernel) (by decide +kernel) (by decide +kernel) (Nat.le_of_ble_eq_true rfl) dX0_init_29 (fun H locs hP hD hS => ?_)
  replace hP : va_P D vwCl ([(h0, .inr (0, [.ref q7, .ref q15, .ref q22, .int (iZ 0), .int (iZ 0), .int (iZ 0)])), (q7, .inl (C.1, 6, .inl (fun _ => iZ 0))), (q15, .inl (C.1, 24, .inl (fun _ => iZ 0))), (q22, .inl (C.1, 4, .inl (fun _ => iZ 0)))] ++ ([] : va_W)) H := hP
  replace hD : va_D A ([(h0, .inr (0, [.ref q7, .ref q15, .ref q22, .int (iZ 0), .int (iZ 0), .int (iZ 0)])), (q7, .inl (C.1, 6, .inl (fun _ => iZ 0))), (q15, .inl (C.1, 24, .inl (fun _ => iZ 0))), (q22, .inl (C.1, 4, .inl (fun _ => iZ 0)))] ++ ([] : va_W)) := hD
  exact W.vret hx hb hr (fun t ht hW => ⟨⟨(fun i => ([h0, q7, q15, q22] : List Nat).getD i 0), rfl, rfl, by rw [ht]; exact (show va_P D vwCl (alB C (fun i => ([h0, q7, q15, q22] : List Nat).getD i 0)) H from hP), (show va_D A (alB C (fun i => ([h0, q7, q15, q22] : List Nat).getD i 0)) from hD)⟩, hS.F ht⟩) hS.2.2 dX0_init_32 hlocks
set_option maxHeartbeats 4000000 in
set_option maxRecDepth 100000 in
theorem K_X5_init (l : Launch) (D : va_G) (C : cC) (h0 sz : Nat) (t9 : Nat) : Met l yX5_init wsX5_init ({ frames := 1, cells := 0, slots := 0, locals := 24 }) (va_Pc [.ref h0, .ref t9] (fun U => U.heap.size = sz ∧ va_P D vwCl [(h0, .inr (5, [.null, .int (iZ 0), .int (iZ 0), .int (iZ 0), .int (iZ 0), .int (iZ 0)]))] U.heap ∧ va_K D vwCl (cT C) U ∧ va_D (fun _ => True) [(h0, .inr (5, [.null, .int (iZ 0), .int (iZ 0), .int (iZ 0), .int (iZ 0), .int (iZ 0)]))])) (va_Qv (fun q : Nat => q = h0) (fun q t => va_P D vwCl (reB q t9) t.heap ∧ va_D (va_A [(h0, .inr (5, [.null, .int (iZ 0), .int (iZ 0), .int (iZ 0), .int (iZ 0), .int (iZ 0)]))] sz) (reB q t9)) (va_A [(h0, .inr (5, [.null, .int (iZ 0), .int (iZ 0), .int (iZ 0), .int (iZ 0), .int (iZ 0)]))] sz)) 0 0 (va_A [(h0, .inr (5, [.null, .int (iZ 0), .int (iZ 0), .int (iZ 0), .int (iZ 0), .int (iZ 0)]))] sz) := by
  refine Met.ofW (cc := cX5_init) (maxL := 2) (ret := none) (by decide) rfl ?_
  intro p e s m args below meth c s₁ B hml hv
  obtain ⟨rfl, hsz, hP, hK, hD0⟩ := hv
  have hx := B.exec
  have hb := B.bytes
  have hr := B.returns
  have hts := atoms_spec (ws := wsX5_init) B.pre
  have hown : s.vm.findClass RX5 = some m.cls := findClass_of_methodNamed B.named
  have hlocks := B.notSynchronized
  have hinit : meth.name = "<init>" := (name_of_methodNamed B.named B.method).1
  have hin_X5 : ∀ w ∈ wsX50, w ∈ wsX5_init := fun _ w_h => (List.mem_cons_of_mem _ (List.mem_append_right _ w_h))
  subst hsz
  have hD := hD0.self (sz := s.heap.size)
  generalize hAe : va_A [(h0, .inr (5, [.null, .int (iZ 0), .int (iZ 0), .int (iZ 0), .int (iZ 0), .int (iZ 0)]))] s.heap.size = A at hD ⊢
  have hA : ∀ q : Nat, s.heap.size ≤ q → A q := fun q h => by rw [← hAe]; exact Or.inr h
  have hS : va_S A s.heap s.heap [] := va_S.rf
  have hl := lv_entry ([.ref h0, .ref t9]) (n := 2) (Nat.le_of_ble_eq_true rfl)
  rw [lg_entry_eq]
  generalize (lg_sl ([.ref h0, .ref t9]) ++ List.replicate (2 - (lg_sl ([.ref h0, .ref t9])).length) Slot.unset).toArray = ls at hl ⊢
  replace hl : lv_has ls 2 [(0, .ref h0), (1, .ref t9)] := hl
  generalize hHe : s.heap = H at hP ⊢
  have hS : va_S A s.heap H [] := by rw [hHe]; exact va_S.rf
  generalize hlo : ([] : List Loc) = locs at hS ⊢
  clear hHe hlo
  replace hP : va_P D vwCl ([(h0, .inr (5, [.null, .int (iZ 0), .int (iZ 0), .int (iZ 0), .int (iZ 0), .int (iZ 0)]))] ++ ([] : va_W)) H := by rw [List.append_nil]; exact hP
  replace hD : va_D A ([(h0, .inr (5, [.null, .int (iZ 0), .int (iZ 0), .int (iZ 0), .int (iZ 0), .int (iZ 0)]))] ++ ([] : va_W)) := by rw [List.append_nil]; exact hD
  refine lv_aload_n hx hb dX5_init_0 rfl (lv_at hl 0 rfl) ?_
  refine W.objInit hx hb hown (hts (.methodLink RX5 3 objectInit) (List.mem_cons_of_mem _ (List.mem_append_left _ (List.mem_of_getElem? (i := 0) rfl)))) (hts (.instanceMethod objectInit) (List.mem_cons_of_mem _ (List.mem_append_left _ (List.mem_of_getElem? (i := 1) rfl)))) (hts (.code objectInit ⟨#[0xb1]⟩ 1 none) (List.mem_cons_of_mem _ (List.mem_append_left _ (List.mem_of_getElem? (i := 2) rfl)))) rfl (by rw [hml]; exact hl.1) rfl dX5_init_1 (Nat.le_of_ble_eq_true rfl) (Nat.le_of_ble_eq_true rfl) ?_
  refine W.eq (g2 := F0 m 4 ls []) rfl ?_
  refine lv_aload_n hx hb dX5_init_4 rfl (lv_at hl 0 rfl) ?_
  refine lv_aload_n hx hb dX5_init_5 rfl (lv_at hl 1 rfl) ?_
  refine va_putF (D := D) (ci := 5) (v := .ref t9) (ty := .array .int) (C := RX5) (T := TX5) (N := 6) hx hb hts hin_X5 tyX5 tyX5_ok nmX5 hown hK hP hD hS 0 rfl rfl 0 (by decide) (hts (.fieldLink RX5 9 "WordFletchers$TextReader" "bytes" "[I") (List.mem_cons_of_mem _ (List.mem_append_left _ (List.mem_of_getElem? (i := 3) rfl)))) (fun _ h9 => h9) rfl hinit rfl (by decide +kernel) rfl rfl (Nat.le_of_ble_eq_true rfl) dX5_init_6 (fun H locs hP hD hS => ?_)
  replace hP : va_P D vwCl ([(h0, .inr (5, [.ref t9, .int (iZ 0), .int (iZ 0), .int (iZ 0), .int (iZ 0), .int (iZ 0)]))] ++ ([] : va_W)) H := hP
  replace hD : va_D A ([(h0, .inr (5, [.ref t9, .int (iZ 0), .int (iZ 0), .int (iZ 0), .int (iZ 0), .int (iZ 0)]))] ++ ([] : va_W)) := hD
  exact W.vret hx hb hr (fun t ht hW => ⟨⟨h0, rfl, rfl, by rw [ht]; exact (show va_P D vwCl (reB h0 t9) H from hP), (show va_D A (reB h0 t9) from hD)⟩, hS.F ht⟩) hS.2.2 dX5_init_9 hlocks
set_option maxHeartbeats 4000000 in
set_option maxRecDepth 100000 in
theorem K_X6_tns (l : Launch) (D : va_G) (C : cC) (k0 k1 k2 k3 k4 k5 k6 k7 sz : Nat) : Met l yX6_tellNothing wsX6_tellNothing ({ frames := 0, cells := 0, slots := 0, locals := 0 }) (va_Pc [.ref k0] (fun U => U.heap.size = sz ∧ va_P D vwCl [(k0, .inr (6, [.ref k1, .ref k2, .ref k3, .ref k4, .ref k5, .ref k6, .ref k7, .int (iZ 0), .int (iZ 0), .int (iZ 0)])), (k1, .inl (C.1, 6, .inl (fun _ => iZ 0))), (k2, .inl (C.1, 6, .inl (fun _ => iZ 0))), (k3, .inl (C.1, 6, .inl (fun _ => iZ 0))), (k4, .inl (C.1, 6, .inl (fun _ => iZ 0))), (k5, .inl (C.1, 6, .inl (fun _ => iZ 0))), (k6, .inl (C.1, 6, .inl (fun _ => iZ 0))), (k7, .inl (C.1, 4, .inl (fun _ => iZ 0)))] U.heap ∧ va_K D vwCl (cT C) U ∧ va_D (fun _ => True) [(k0, .inr (6, [.ref k1, .ref k2, .ref k3, .ref k4, .ref k5, .ref k6, .ref k7, .int (iZ 0), .int (iZ 0), .int (iZ 0)])), (k1, .inl (C.1, 6, .inl (fun _ => iZ 0))), (k2, .inl (C.1, 6, .inl (fun _ => iZ 0))), (k3, .inl (C.1, 6, .inl (fun _ => iZ 0))), (k4, .inl (C.1, 6, .inl (fun _ => iZ 0))), (k5, .inl (C.1, 6, .inl (fun _ => iZ 0))), (k6, .inl (C.1, 6, .inl (fun _ => iZ 0))), (k7, .inl (C.1, 4, .inl (fun _ => iZ 0)))])) (va_Qv (fun _ : Unit => True) (fun _ t => va_P D vwCl (toB C (fun i => ([k0, k1, k2, k3, k4, k5, k6, k7] : List Nat).getD i 0)) t.heap ∧ va_D (va_A [(k0, .inr (6, [.ref k1, .ref k2, .ref k3, .ref k4, .ref k5, .ref k6, .ref k7, .int (iZ 0), .int (iZ 0), .int (iZ 0)])), (k1, .inl (C.1, 6, .inl (fun _ => iZ 0))), (k2, .inl (C.1, 6, .inl (fun _ => iZ 0))), (k3, .inl (C.1, 6, .inl (fun _ => iZ 0))), (k4, .inl (C.1, 6, .inl (fun _ => iZ 0))), (k5, .inl (C.1, 6, .inl (fun _ => iZ 0))), (k6, .inl (C.1, 6, .inl (fun _ => iZ 0))), (k7, .inl (C.1, 4, .inl (fun _ => iZ 0)))] sz) (toB C (fun i => ([k0, k1, k2, k3, k4, k5, k6, k7] : List Nat).getD i 0))) (va_A [(k0, .inr (6, [.ref k1, .ref k2, .ref k3, .ref k4, .ref k5, .ref k6, .ref k7, .int (iZ 0), .int (iZ 0), .int (iZ 0)])), (k1, .inl (C.1, 6, .inl (fun _ => iZ 0))), (k2, .inl (C.1, 6, .inl (fun _ => iZ 0))), (k3, .inl (C.1, 6, .inl (fun _ => iZ 0))), (k4, .inl (C.1, 6, .inl (fun _ => iZ 0))), (k5, .inl (C.1, 6, .inl (fun _ => iZ 0))), (k6, .inl (C.1, 6, .inl (fun _ => iZ 0))), (k7, .inl (C.1, 4, .inl (fun _ => iZ 0)))] sz)) 0 0 (va_A [(k0, .inr (6, [.ref k1, .ref k2, .ref k3, .ref k4, .ref k5, .ref k6, .ref k7, .int (iZ 0), .int (iZ 0), .int (iZ 0)])), (k1, .inl (C.1, 6, .inl (fun _ => iZ 0))), (k2, .inl (C.1, 6, .inl (fun _ => iZ 0))), (k3, .inl (C.1, 6, .inl (fun _ => iZ 0))), (k4, .inl (C.1, 6, .inl (fun _ => iZ 0))), (k5, .inl (C.1, 6, .inl (fun _ => iZ 0))), (k6, .inl (C.1, 6, .inl (fun _ => iZ 0))), (k7, .inl (C.1, 4, .inl (fun _ => iZ 0)))] sz) := by
  refine Met.ofW (cc := cX6_tellNothing) (maxL := 2) (ret := none) (by decide) rfl ?_
  intro p e s m args below meth c s₁ B hml hv
  obtain ⟨rfl, hsz, hP, hK, hD0⟩ := hv
  have hx := B.exec
  have hb := B.bytes
  have hr := B.returns
  have hts := atoms_spec (ws := wsX6_tellNothing) B.pre
  have hown : s.vm.findClass RX6 = some m.cls := findClass_of_methodNamed B.named
  have hlocks := B.notSynchronized
  have hin_X6 : ∀ w ∈ wsX60, w ∈ wsX6_tellNothing := fun _ w_h => (List.mem_cons_of_mem _ (List.mem_append_right _ w_h))
  subst hsz
  have hD := hD0.self (sz := s.heap.size)
  generalize hAe : va_A [(k0, .inr (6, [.ref k1, .ref k2, .ref k3, .ref k4, .ref k5, .ref k6, .ref k7, .int (iZ 0), .int (iZ 0), .int (iZ 0)])), (k1, .inl (C.1, 6, .inl (fun _ => iZ 0))), (k2, .inl (C.1, 6, .inl (fun _ => iZ 0))), (k3, .inl (C.1, 6, .inl (fun _ => iZ 0))), (k4, .inl (C.1, 6, .inl (fun _ => iZ 0))), (k5, .inl (C.1, 6, .inl (fun _ => iZ 0))), (k6, .inl (C.1, 6, .inl (fun _ => iZ 0))), (k7, .inl (C.1, 4, .inl (fun _ => iZ 0)))] s.heap.size = A at hD ⊢
  have hS : va_S A s.heap s.heap [] := va_S.rf
  have hl := lv_entry ([.ref k0]) (n := 2) (Nat.le_of_ble_eq_true rfl)
  rw [lg_entry_eq]
  generalize (lg_sl ([.ref k0]) ++ List.replicate (2 - (lg_sl ([.ref k0])).length) Slot.unset).toArray = ls at hl ⊢
  replace hl : lv_has ls 2 [(0, .ref k0)] := hl
  generalize hHe : s.heap = H at hP ⊢
  have hS : va_S A s.heap H [] := by rw [hHe]; exact va_S.rf
  generalize hlo : ([] : List Loc) = locs at hS ⊢
  clear hHe hlo
  replace hP : va_P D vwCl ([(k0, .inr (6, [.ref k1, .ref k2, .ref k3, .ref k4, .ref k5, .ref k6, .ref k7, .int (iZ 0), .int (iZ 0), .int (iZ 0)])), (k1, .inl (C.1, 6, .inl (fun _ => iZ 0))), (k2, .inl (C.1, 6, .inl (fun _ => iZ 0))), (k3, .inl (C.1, 6, .inl (fun _ => iZ 0))), (k4, .inl (C.1, 6, .inl (fun _ => iZ 0))), (k5, .inl (C.1, 6, .inl (fun _ => iZ 0))), (k6, .inl (C.1, 6, .inl (fun _ => iZ 0))), (k7, .inl (C.1, 4, .inl (fun _ => iZ 0)))] ++ ([] : va_W)) H := by rw [List.append_nil]; exact hP
  replace hD : va_D A ([(k0, .inr (6, [.ref k1, .ref k2, .ref k3, .ref k4, .ref k5, .ref k6, .ref k7, .int (iZ 0), .int (iZ 0), .int (iZ 0)])), (k1, .inl (C.1, 6, .inl (fun _ => iZ 0))), (k2, .inl (C.1, 6, .inl (fun _ => iZ 0))), (k3, .inl (C.1, 6, .inl (fun _ => iZ 0))), (k4, .inl (C.1, 6, .inl (fun _ => iZ 0))), (k5, .inl (C.1, 6, .inl (fun _ => iZ 0))), (k6, .inl (C.1, 6, .inl (fun _ => iZ 0))), (k7, .inl (C.1, 4, .inl (fun _ => iZ 0)))] ++ ([] : va_W)) := by rw [List.append_nil]; exact hD
  refine lv_aload_n hx hb dX6_tellNothing_0 rfl (lv_at hl 0 rfl) ?_
  refine lv_iconst (v := iZ 0) hx hb dX6_tellNothing_1 (by decide) ?_
  refine va_put (D := D) (ci := 6) (v := .int (iZ 0)) (ty := .int) (C := RX6) (T := TX6) (N := 10) hx hb hts hin_X6 tyX6 tyX6_ok nmX6 hown hK hP hD hS 0 rfl rfl 7 (by decide) (hts (.fieldLink RX6 36 "WordFletchers$Told" "people" "I") (List.mem_cons_of_mem _ (List.mem_append_left _ (List.mem_of_getElem? (i := 0) rfl)))) (fun _ h9 => h9) rfl (by decide +kernel) (by decide +kernel) (by decide +kernel) (Nat.le_of_ble_eq_true rfl) dX6_tellNothing_2 (fun H locs hP hD hS => ?_)
  replace hP : va_P D vwCl ([(k0, .inr (6, [.ref k1, .ref k2, .ref k3, .ref k4, .ref k5, .ref k6, .ref k7, .int (iZ 0), .int (iZ 0), .int (iZ 0)])), (k1, .inl (C.1, 6, .inl (fun _ => iZ 0))), (k2, .inl (C.1, 6, .inl (fun _ => iZ 0))), (k3, .inl (C.1, 6, .inl (fun _ => iZ 0))), (k4, .inl (C.1, 6, .inl (fun _ => iZ 0))), (k5, .inl (C.1, 6, .inl (fun _ => iZ 0))), (k6, .inl (C.1, 6, .inl (fun _ => iZ 0))), (k7, .inl (C.1, 4, .inl (fun _ => iZ 0)))] ++ ([] : va_W)) H := hP
  replace hD : va_D A ([(k0, .inr (6, [.ref k1, .ref k2, .ref k3, .ref k4, .ref k5, .ref k6, .ref k7, .int (iZ 0), .int (iZ 0), .int (iZ 0)])), (k1, .inl (C.1, 6, .inl (fun _ => iZ 0))), (k2, .inl (C.1, 6, .inl (fun _ => iZ 0))), (k3, .inl (C.1, 6, .inl (fun _ => iZ 0))), (k4, .inl (C.1, 6, .inl (fun _ => iZ 0))), (k5, .inl (C.1, 6, .inl (fun _ => iZ 0))), (k6, .inl (C.1, 6, .inl (fun _ => iZ 0))), (k7, .inl (C.1, 4, .inl (fun _ => iZ 0)))] ++ ([] : va_W)) := hD
  refine lv_aload_n hx hb dX6_tellNothing_5 rfl (lv_at hl 0 rfl) ?_
  refine lv_iconst (v := iZ 0) hx hb dX6_tellNothing_6 (by decide) ?_
  refine va_put (D := D) (ci := 6) (v := .int (iZ 0)) (ty := .int) (C := RX6) (T := TX6) (N := 10) hx hb hts hin_X6 tyX6 tyX6_ok nmX6 hown hK hP hD hS 0 rfl rfl 8 (by decide) (hts (.fieldLink RX6 40 "WordFletchers$Told" "sayings" "I") (List.mem_cons_of_mem _ (List.mem_append_left _ (List.mem_of_getElem? (i := 1) rfl)))) (fun _ h9 => h9) rfl (by decide +kernel) (by decide +kernel) (by decide +kernel) (Nat.le_of_ble_eq_true rfl) dX6_tellNothing_7 (fun H locs hP hD hS => ?_)
  replace hP : va_P D vwCl ([(k0, .inr (6, [.ref k1, .ref k2, .ref k3, .ref k4, .ref k5, .ref k6, .ref k7, .int (iZ 0), .int (iZ 0), .int (iZ 0)])), (k1, .inl (C.1, 6, .inl (fun _ => iZ 0))), (k2, .inl (C.1, 6, .inl (fun _ => iZ 0))), (k3, .inl (C.1, 6, .inl (fun _ => iZ 0))), (k4, .inl (C.1, 6, .inl (fun _ => iZ 0))), (k5, .inl (C.1, 6, .inl (fun _ => iZ 0))), (k6, .inl (C.1, 6, .inl (fun _ => iZ 0))), (k7, .inl (C.1, 4, .inl (fun _ => iZ 0)))] ++ ([] : va_W)) H := hP
  replace hD : va_D A ([(k0, .inr (6, [.ref k1, .ref k2, .ref k3, .ref k4, .ref k5, .ref k6, .ref k7, .int (iZ 0), .int (iZ 0), .int (iZ 0)])), (k1, .inl (C.1, 6, .inl (fun _ => iZ 0))), (k2, .inl (C.1, 6, .inl (fun _ => iZ 0))), (k3, .inl (C.1, 6, .inl (fun _ => iZ 0))), (k4, .inl (C.1, 6, .inl (fun _ => iZ 0))), (k5, .inl (C.1, 6, .inl (fun _ => iZ 0))), (k6, .inl (C.1, 6, .inl (fun _ => iZ 0))), (k7, .inl (C.1, 4, .inl (fun _ => iZ 0)))] ++ ([] : va_W)) := hD
  refine lv_aload_n hx hb dX6_tellNothing_10 rfl (lv_at hl 0 rfl) ?_
  refine lv_iconst (v := iZ 0) hx hb dX6_tellNothing_11 (by decide) ?_
  refine va_put (D := D) (ci := 6) (v := .int (iZ 0)) (ty := .int) (C := RX6) (T := TX6) (N := 10) hx hb hts hin_X6 tyX6 tyX6_ok nmX6 hown hK hP hD hS 0 rfl rfl 9 (by decide) (hts (.fieldLink RX6 43 "WordFletchers$Told" "windsTold" "I") (List.mem_cons_of_mem _ (List.mem_append_left _ (List.mem_of_getElem? (i := 2) rfl)))) (fun _ h9 => h9) rfl (by decide +kernel) (by decide +kernel) (by decide +kernel) (Nat.le_of_ble_eq_true rfl) dX6_tellNothing_12 (fun H locs hP hD hS => ?_)
  replace hP : va_P D vwCl ([(k0, .inr (6, [.ref k1, .ref k2, .ref k3, .ref k4, .ref k5, .ref k6, .ref k7, .int (iZ 0), .int (iZ 0), .int (iZ 0)])), (k1, .inl (C.1, 6, .inl (fun _ => iZ 0))), (k2, .inl (C.1, 6, .inl (fun _ => iZ 0))), (k3, .inl (C.1, 6, .inl (fun _ => iZ 0))), (k4, .inl (C.1, 6, .inl (fun _ => iZ 0))), (k5, .inl (C.1, 6, .inl (fun _ => iZ 0))), (k6, .inl (C.1, 6, .inl (fun _ => iZ 0))), (k7, .inl (C.1, 4, .inl (fun _ => iZ 0)))] ++ ([] : va_W)) H := hP
  replace hD : va_D A ([(k0, .inr (6, [.ref k1, .ref k2, .ref k3, .ref k4, .ref k5, .ref k6, .ref k7, .int (iZ 0), .int (iZ 0), .int (iZ 0)])), (k1, .inl (C.1, 6, .inl (fun _ => iZ 0))), (k2, .inl (C.1, 6, .inl (fun _ => iZ 0))), (k3, .inl (C.1, 6, .inl (fun _ => iZ 0))), (k4, .inl (C.1, 6, .inl (fun _ => iZ 0))), (k5, .inl (C.1, 6, .inl (fun _ => iZ 0))), (k6, .inl (C.1, 6, .inl (fun _ => iZ 0))), (k7, .inl (C.1, 4, .inl (fun _ => iZ 0)))] ++ ([] : va_W)) := hD
  refine lv_aload_n hx hb dX6_tellNothing_15 rfl (lv_at hl 0 rfl) ?_
  refine va_get (D := D) (ci := 6) (C := RX6) (T := TX6) (N := 10) hx hb hts hin_X6 hown hK hP 0 rfl rfl 5 (by decide) (hts (.fieldLink RX6 27 "WordFletchers$Told" "winds" "[I") (List.mem_cons_of_mem _ (List.mem_append_left _ (List.mem_of_getElem? (i := 3) rfl)))) (fun _ h9 => h9) rfl dX6_tellNothing_16 ?_
  refine lv_iconst (v := iZ 0) hx hb dX6_tellNothing_19 (by decide) ?_
  refine lv_iconst (v := iZ 0) hx hb dX6_tellNothing_20 (by decide) ?_
  refine va_iast hx hb hK hP hD hS 6 0 rfl rfl (iZ_in (i := 0) (n := 6) (by decide) (by decide)) dX6_tellNothing_21 (fun H locs hP hD hS => ?_)
  replace hP : va_P D vwCl ([(k0, .inr (6, [.ref k1, .ref k2, .ref k3, .ref k4, .ref k5, .ref k6, .ref k7, .int (iZ 0), .int (iZ 0), .int (iZ 0)])), (k1, .inl (C.1, 6, .inl (fun _ => iZ 0))), (k2, .inl (C.1, 6, .inl (fun _ => iZ 0))), (k3, .inl (C.1, 6, .inl (fun _ => iZ 0))), (k4, .inl (C.1, 6, .inl (fun _ => iZ 0))), (k5, .inl (C.1, 6, .inl (fun _ => iZ 0))), (k6, .inl (C.1, 6, .inl (upd (fun _ => iZ 0) 0 ((iZ 0))))), (k7, .inl (C.1, 4, .inl (fun _ => iZ 0)))] ++ ([] : va_W)) H := hP
  replace hD : va_D A ([(k0, .inr (6, [.ref k1, .ref k2, .ref k3, .ref k4, .ref k5, .ref k6, .ref k7, .int (iZ 0), .int (iZ 0), .int (iZ 0)])), (k1, .inl (C.1, 6, .inl (fun _ => iZ 0))), (k2, .inl (C.1, 6, .inl (fun _ => iZ 0))), (k3, .inl (C.1, 6, .inl (fun _ => iZ 0))), (k4, .inl (C.1, 6, .inl (fun _ => iZ 0))), (k5, .inl (C.1, 6, .inl (fun _ => iZ 0))), (k6, .inl (C.1, 6, .inl (upd (fun _ => iZ 0) 0 ((iZ 0))))), (k7, .inl (C.1, 4, .inl (fun _ => iZ 0)))] ++ ([] : va_W)) := hD
  refine lv_iconst (v := iZ 0) hx hb dX6_tellNothing_22 (by decide) ?_
  refine lv_istore_n (lv' := [(1, .int (iZ 0)), (0, .ref k0)]) hx hb dX6_tellNothing_23 rfl hl (by decide) rfl (fun ls hl => ?_)
  refine lv_iload_n hx hb dX6_tellNothing_24 rfl (lv_at hl 0 rfl) ?_
  refine lv_iconst (v := iZ 4) hx hb dX6_tellNothing_25 (by decide) ?_
  refine z_icmp_ge (x := 0) (y := 4) (tgt := 43) hx hb (by decide) (by decide) dX6_tellNothing_26 (by decide) (fun c9 => absurd c9 (by decide)) (fun c9 => ?_)
  refine lv_aload_n hx hb dX6_tellNothing_29 rfl (lv_at hl 1 rfl) ?_
  refine va_get (D := D) (ci := 6) (C := RX6) (T := TX6) (N := 10) hx hb hts hin_X6 hown hK hP 0 rfl rfl 6 (by decide) (hts (.fieldLink RX6 30 "WordFletchers$Told" "feathers" "[I") (List.mem_cons_of_mem _ (List.mem_append_left _ (List.mem_of_getElem? (i := 4) rfl)))) (fun _ h9 => h9) rfl dX6_tellNothing_30 ?_
  refine lv_iload_n hx hb dX6_tellNothing_33 rfl (lv_at hl 0 rfl) ?_
  refine lv_bipush (v := iZ 9) hx hb dX6_tellNothing_34 (by decide) ?_
  refine va_iast hx hb hK hP hD hS 7 0 rfl rfl (iZ_in (i := 0) (n := 4) (by decide) (by decide)) dX6_tellNothing_36 (fun H locs hP hD hS => ?_)
  replace hP : va_P D vwCl ([(k0, .inr (6, [.ref k1, .ref k2, .ref k3, .ref k4, .ref k5, .ref k6, .ref k7, .int (iZ 0), .int (iZ 0), .int (iZ 0)])), (k1, .inl (C.1, 6, .inl (fun _ => iZ 0))), (k2, .inl (C.1, 6, .inl (fun _ => iZ 0))), (k3, .inl (C.1, 6, .inl (fun _ => iZ 0))), (k4, .inl (C.1, 6, .inl (fun _ => iZ 0))), (k5, .inl (C.1, 6, .inl (fun _ => iZ 0))), (k6, .inl (C.1, 6, .inl (upd (fun _ => iZ 0) 0 ((iZ 0))))), (k7, .inl (C.1, 4, .inl (upd (fun _ => iZ 0) 0 ((iZ 9)))))] ++ ([] : va_W)) H := hP
  replace hD : va_D A ([(k0, .inr (6, [.ref k1, .ref k2, .ref k3, .ref k4, .ref k5, .ref k6, .ref k7, .int (iZ 0), .int (iZ 0), .int (iZ 0)])), (k1, .inl (C.1, 6, .inl (fun _ => iZ 0))), (k2, .inl (C.1, 6, .inl (fun _ => iZ 0))), (k3, .inl (C.1, 6, .inl (fun _ => iZ 0))), (k4, .inl (C.1, 6, .inl (fun _ => iZ 0))), (k5, .inl (C.1, 6, .inl (fun _ => iZ 0))), (k6, .inl (C.1, 6, .inl (upd (fun _ => iZ 0) 0 ((iZ 0))))), (k7, .inl (C.1, 4, .inl (upd (fun _ => iZ 0) 0 ((iZ 9)))))] ++ ([] : va_W)) := hD
  refine lv_iinc (v := iZ 1) (lv' := [(1, .int (iZ 1)), (0, .ref k0)]) hx hb dX6_tellNothing_37 hl (k := 0) rfl rfl (by decide) rfl (fun ls hl => ?_)
  refine lv_goto (tgt := 24) hx hb dX6_tellNothing_40 (by decide) ?_
  refine lv_iload_n hx hb dX6_tellNothing_24 rfl (lv_at hl 0 rfl) ?_
  refine lv_iconst (v := iZ 4) hx hb dX6_tellNothing_25 (by decide) ?_
  refine z_icmp_ge (x := 1) (y := 4) (tgt := 43) hx hb (by decide) (by decide) dX6_tellNothing_26 (by decide) (fun c9 => absurd c9 (by decide)) (fun c9 => ?_)
  refine lv_aload_n hx hb dX6_tellNothing_29 rfl (lv_at hl 1 rfl) ?_
  refine va_get (D := D) (ci := 6) (C := RX6) (T := TX6) (N := 10) hx hb hts hin_X6 hown hK hP 0 rfl rfl 6 (by decide) (hts (.fieldLink RX6 30 "WordFletchers$Told" "feathers" "[I") (List.mem_cons_of_mem _ (List.mem_append_left _ (List.mem_of_getElem? (i := 4) rfl)))) (fun _ h9 => h9) rfl dX6_tellNothing_30 ?_
  refine lv_iload_n hx hb dX6_tellNothing_33 rfl (lv_at hl 0 rfl) ?_
  refine lv_bipush (v := iZ 9) hx hb dX6_tellNothing_34 (by decide) ?_
  refine va_iast hx hb hK hP hD hS 7 0 rfl rfl (iZ_in (i := 1) (n := 4) (by decide) (by decide)) dX6_tellNothing_36 (fun H locs hP hD hS => ?_)
  replace hP : va_P D vwCl ([(k0, .inr (6, [.ref k1, .ref k2, .ref k3, .ref k4, .ref k5, .ref k6, .ref k7, .int (iZ 0), .int (iZ 0), .int (iZ 0)])), (k1, .inl (C.1, 6, .inl (fun _ => iZ 0))), (k2, .inl (C.1, 6, .inl (fun _ => iZ 0))), (k3, .inl (C.1, 6, .inl (fun _ => iZ 0))), (k4, .inl (C.1, 6, .inl (fun _ => iZ 0))), (k5, .inl (C.1, 6, .inl (fun _ => iZ 0))), (k6, .inl (C.1, 6, .inl (upd (fun _ => iZ 0) 0 ((iZ 0))))), (k7, .inl (C.1, 4, .inl (upd (upd (fun _ => iZ 0) 0 ((iZ 9))) 1 ((iZ 9)))))] ++ ([] : va_W)) H := hP
  replace hD : va_D A ([(k0, .inr (6, [.ref k1, .ref k2, .ref k3, .ref k4, .ref k5, .ref k6, .ref k7, .int (iZ 0), .int (iZ 0), .int (iZ 0)])), (k1, .inl (C.1, 6, .inl (fun _ => iZ 0))), (k2, .inl (C.1, 6, .inl (fun _ => iZ 0))), (k3, .inl (C.1, 6, .inl (fun _ => iZ 0))), (k4, .inl (C.1, 6, .inl (fun _ => iZ 0))), (k5, .inl (C.1, 6, .inl (fun _ => iZ 0))), (k6, .inl (C.1, 6, .inl (upd (fun _ => iZ 0) 0 ((iZ 0))))), (k7, .inl (C.1, 4, .inl (upd (upd (fun _ => iZ 0) 0 ((iZ 9))) 1 ((iZ 9)))))] ++ ([] : va_W)) := hD
  refine lv_iinc (v := iZ 2) (lv' := [(1, .int (iZ 2)), (0, .ref k0)]) hx hb dX6_tellNothing_37 hl (k := 0) rfl rfl (by decide) rfl (fun ls hl => ?_)
  refine lv_goto (tgt := 24) hx hb dX6_tellNothing_40 (by decide) ?_
  refine lv_iload_n hx hb dX6_tellNothing_24 rfl (lv_at hl 0 rfl) ?_
  refine lv_iconst (v := iZ 4) hx hb dX6_tellNothing_25 (by decide) ?_
  refine z_icmp_ge (x := 2) (y := 4) (tgt := 43) hx hb (by decide) (by decide) dX6_tellNothing_26 (by decide) (fun c9 => absurd c9 (by decide)) (fun c9 => ?_)
  refine lv_aload_n hx hb dX6_tellNothing_29 rfl (lv_at hl 1 rfl) ?_
  refine va_get (D := D) (ci := 6) (C := RX6) (T := TX6) (N := 10) hx hb hts hin_X6 hown hK hP 0 rfl rfl 6 (by decide) (hts (.fieldLink RX6 30 "WordFletchers$Told" "feathers" "[I") (List.mem_cons_of_mem _ (List.mem_append_left _ (List.mem_of_getElem? (i := 4) rfl)))) (fun _ h9 => h9) rfl dX6_tellNothing_30 ?_
  refine lv_iload_n hx hb dX6_tellNothing_33 rfl (lv_at hl 0 rfl) ?_
  refine lv_bipush (v := iZ 9) hx hb dX6_tellNothing_34 (by decide) ?_
  refine va_iast hx hb hK hP hD hS 7 0 rfl rfl (iZ_in (i := 2) (n := 4) (by decide) (by decide)) dX6_tellNothing_36 (fun H locs hP hD hS => ?_)
  replace hP : va_P D vwCl ([(k0, .inr (6, [.ref k1, .ref k2, .ref k3, .ref k4, .ref k5, .ref k6, .ref k7, .int (iZ 0), .int (iZ 0), .int (iZ 0)])), (k1, .inl (C.1, 6, .inl (fun _ => iZ 0))), (k2, .inl (C.1, 6, .inl (fun _ => iZ 0))), (k3, .inl (C.1, 6, .inl (fun _ => iZ 0))), (k4, .inl (C.1, 6, .inl (fun _ => iZ 0))), (k5, .inl (C.1, 6, .inl (fun _ => iZ 0))), (k6, .inl (C.1, 6, .inl (upd (fun _ => iZ 0) 0 ((iZ 0))))), (k7, .inl (C.1, 4, .inl (upd (upd (upd (fun _ => iZ 0) 0 ((iZ 9))) 1 ((iZ 9))) 2 ((iZ 9)))))] ++ ([] : va_W)) H := hP
  replace hD : va_D A ([(k0, .inr (6, [.ref k1, .ref k2, .ref k3, .ref k4, .ref k5, .ref k6, .ref k7, .int (iZ 0), .int (iZ 0), .int (iZ 0)])), (k1, .inl (C.1, 6, .inl (fun _ => iZ 0))), (k2, .inl (C.1, 6, .inl (fun _ => iZ 0))), (k3, .inl (C.1, 6, .inl (fun _ => iZ 0))), (k4, .inl (C.1, 6, .inl (fun _ => iZ 0))), (k5, .inl (C.1, 6, .inl (fun _ => iZ 0))), (k6, .inl (C.1, 6, .inl (upd (fun _ => iZ 0) 0 ((iZ 0))))), (k7, .inl (C.1, 4, .inl (upd (upd (upd (fun _ => iZ 0) 0 ((iZ 9))) 1 ((iZ 9))) 2 ((iZ 9)))))] ++ ([] : va_W)) := hD
  refine lv_iinc (v := iZ 3) (lv' := [(1, .int (iZ 3)), (0, .ref k0)]) hx hb dX6_tellNothing_37 hl (k := 0) rfl rfl (by decide) rfl (fun ls hl => ?_)
  refine lv_goto (tgt := 24) hx hb dX6_tellNothing_40 (by decide) ?_
  refine lv_iload_n hx hb dX6_tellNothing_24 rfl (lv_at hl 0 rfl) ?_
  refine lv_iconst (v := iZ 4) hx hb dX6_tellNothing_25 (by decide) ?_
  refine z_icmp_ge (x := 3) (y := 4) (tgt := 43) hx hb (by decide) (by decide) dX6_tellNothing_26 (by decide) (fun c9 => absurd c9 (by decide)) (fun c9 => ?_)
  refine lv_aload_n hx hb dX6_tellNothing_29 rfl (lv_at hl 1 rfl) ?_
  refine va_get (D := D) (ci := 6) (C := RX6) (T := TX6) (N := 10) hx hb hts hin_X6 hown hK hP 0 rfl rfl 6 (by decide) (hts (.fieldLink RX6 30 "WordFletchers$Told" "feathers" "[I") (List.mem_cons_of_mem _ (List.mem_append_left _ (List.mem_of_getElem? (i := 4) rfl)))) (fun _ h9 => h9) rfl dX6_tellNothing_30 ?_
  refine lv_iload_n hx hb dX6_tellNothing_33 rfl (lv_at hl 0 rfl) ?_
  refine lv_bipush (v := iZ 9) hx hb dX6_tellNothing_34 (by decide) ?_
  refine va_iast hx hb hK hP hD hS 7 0 rfl rfl (iZ_in (i := 3) (n := 4) (by decide) (by decide)) dX6_tellNothing_36 (fun H locs hP hD hS => ?_)
  replace hP : va_P D vwCl ([(k0, .inr (6, [.ref k1, .ref k2, .ref k3, .ref k4, .ref k5, .ref k6, .ref k7, .int (iZ 0), .int (iZ 0), .int (iZ 0)])), (k1, .inl (C.1, 6, .inl (fun _ => iZ 0))), (k2, .inl (C.1, 6, .inl (fun _ => iZ 0))), (k3, .inl (C.1, 6, .inl (fun _ => iZ 0))), (k4, .inl (C.1, 6, .inl (fun _ => iZ 0))), (k5, .inl (C.1, 6, .inl (fun _ => iZ 0))), (k6, .inl (C.1, 6, .inl (upd (fun _ => iZ 0) 0 ((iZ 0))))), (k7, .inl (C.1, 4, .inl (upd (upd (upd (upd (fun _ => iZ 0) 0 ((iZ 9))) 1 ((iZ 9))) 2 ((iZ 9))) 3 ((iZ 9)))))] ++ ([] : va_W)) H := hP
  replace hD : va_D A ([(k0, .inr (6, [.ref k1, .ref k2, .ref k3, .ref k4, .ref k5, .ref k6, .ref k7, .int (iZ 0), .int (iZ 0), .int (iZ 0)])), (k1, .inl (C.1, 6, .inl (fun _ => iZ 0))), (k2, .inl (C.1, 6, .inl (fun _ => iZ 0))), (k3, .inl (C.1, 6, .inl (fun _ => iZ 0))), (k4, .inl (C.1, 6, .inl (fun _ => iZ 0))), (k5, .inl (C.1, 6, .inl (fun _ => iZ 0))), (k6, .inl (C.1, 6, .inl (upd (fun _ => iZ 0) 0 ((iZ 0))))), (k7, .inl (C.1, 4, .inl (upd (upd (upd (upd (fun _ => iZ 0) 0 ((iZ 9))) 1 ((iZ 9))) 2 ((iZ 9))) 3 ((iZ 9)))))] ++ ([] : va_W)) := hD
  refine lv_iinc (v := iZ 4) (lv' := [(1, .int (iZ 4)), (0, .ref k0)]) hx hb dX6_tellNothing_37 hl (k := 0) rfl rfl (by decide) rfl (fun ls hl => ?_)
  refine lv_goto (tgt := 24) hx hb dX6_tellNothing_40 (by decide) ?_
  refine lv_iload_n hx hb dX6_tellNothing_24 rfl (lv_at hl 0 rfl) ?_
  refine lv_iconst (v := iZ 4) hx hb dX6_tellNothing_25 (by decide) ?_
  refine z_icmp_ge (x := 4) (y := 4) (tgt := 43) hx hb (by decide) (by decide) dX6_tellNothing_26 (by decide) (fun c9 => ?_) (fun c9 => absurd c9 (by decide))
  have ef : (upd (upd (upd (upd (fun _ => iZ 0) 0 ((iZ 9))) 1 ((iZ 9))) 2 ((iZ 9))) 3 ((iZ 9))) = (fun k => iZ (if k < 4 then 9 else 0)) := by
    funext k; rcases k with _ | _ | _ | _ | k <;> simp [upd] <;> rfl
  have ew : (upd (fun _ => iZ 0) 0 ((iZ 0))) = (fun _ => iZ 0) := by
    funext k; by_cases h : k = 0 <;> simp [upd, h]
  rw [ef, ew] at hP hD
  exact W.vret hx hb hr (fun t ht hW => ⟨⟨(), rfl, trivial, by rw [ht]; exact (show va_P D vwCl (toB C (fun i => ([k0, k1, k2, k3, k4, k5, k6, k7] : List Nat).getD i 0)) H from hP), (show va_D A (toB C (fun i => ([k0, k1, k2, k3, k4, k5, k6, k7] : List Nat).getD i 0)) from hD)⟩, hS.F ht⟩) hS.2.2 dX6_tellNothing_43 hlocks
set_option maxHeartbeats 4000000 in
set_option maxRecDepth 100000 in
theorem K_X6_init (l : Launch) (D : va_G) (C : cC) (h0 sz : Nat) : Met l yX6_init wsX6_init ({ frames := 1, cells := 7, slots := 40, locals := 40 }) (va_Pc [.ref h0] (fun U => U.heap.size = sz ∧ va_P D vwCl [(h0, .inr (6, [.null, .null, .null, .null, .null, .null, .null, .int (iZ 0), .int (iZ 0), .int (iZ 0)]))] U.heap ∧ va_K D vwCl (cT C) U ∧ va_D (fun _ => True) [(h0, .inr (6, [.null, .null, .null, .null, .null, .null, .null, .int (iZ 0), .int (iZ 0), .int (iZ 0)]))])) (va_Qv (fun q : Nat → Nat => q 0 = h0) (fun q t => va_P D vwCl (toB C q) t.heap ∧ va_D (va_A [(h0, .inr (6, [.null, .null, .null, .null, .null, .null, .null, .int (iZ 0), .int (iZ 0), .int (iZ 0)]))] sz) (toB C q)) (va_A [(h0, .inr (6, [.null, .null, .null, .null, .null, .null, .null, .int (iZ 0), .int (iZ 0), .int (iZ 0)]))] sz)) 7 40 (va_A [(h0, .inr (6, [.null, .null, .null, .null, .null, .null, .null, .int (iZ 0), .int (iZ 0), .int (iZ 0)]))] sz) := by
  refine Met.ofW (cc := cX6_init) (maxL := 1) (ret := none) (by decide) rfl ?_
  intro p e s m args below meth c s₁ B hml hv
  obtain ⟨rfl, hsz, hP, hK, hD0⟩ := hv
  have hx := B.exec
  have hb := B.bytes
  have hr := B.returns
  have hts := atoms_spec (ws := wsX6_init) B.pre
  have hown : s.vm.findClass RX6 = some m.cls := findClass_of_methodNamed B.named
  have hlocks := B.notSynchronized
  have hinit : meth.name = "<init>" := (name_of_methodNamed B.named B.method).1
  have hin_X6 : ∀ w ∈ wsX60, w ∈ wsX6_init := fun _ w_h => (List.mem_cons_of_mem _ (List.mem_append_right _ w_h))
  subst hsz
  have hD := hD0.self (sz := s.heap.size)
  generalize hAe : va_A [(h0, .inr (6, [.null, .null, .null, .null, .null, .null, .null, .int (iZ 0), .int (iZ 0), .int (iZ 0)]))] s.heap.size = A at hD ⊢
  have hA : ∀ q : Nat, s.heap.size ≤ q → A q := fun q h => by rw [← hAe]; exact Or.inr h
  have hS : va_S A s.heap s.heap [] := va_S.rf
  have hl := lv_entry ([.ref h0]) (n := 1) (Nat.le_of_ble_eq_true rfl)
  rw [lg_entry_eq]
  generalize (lg_sl ([.ref h0]) ++ List.replicate (1 - (lg_sl ([.ref h0])).length) Slot.unset).toArray = ls at hl ⊢
  replace hl : lv_has ls 1 [(0, .ref h0)] := hl
  generalize hHe : s.heap = H at hP ⊢
  have hS : va_S A s.heap H [] := by rw [hHe]; exact va_S.rf
  generalize hlo : ([] : List Loc) = locs at hS ⊢
  clear hHe hlo
  replace hP : va_P D vwCl ([(h0, .inr (6, [.null, .null, .null, .null, .null, .null, .null, .int (iZ 0), .int (iZ 0), .int (iZ 0)]))] ++ ([] : va_W)) H := by rw [List.append_nil]; exact hP
  replace hD : va_D A ([(h0, .inr (6, [.null, .null, .null, .null, .null, .null, .null, .int (iZ 0), .int (iZ 0), .int (iZ 0)]))] ++ ([] : va_W)) := by rw [List.append_nil]; exact hD
  refine lv_aload_n hx hb dX6_init_0 rfl (lv_at hl 0 rfl) ?_
  refine W.objInit hx hb hown (hts (.methodLink RX6 3 objectInit) (List.mem_cons_of_mem _ (List.mem_append_left _ (List.mem_of_getElem? (i := 0) rfl)))) (hts (.instanceMethod objectInit) (List.mem_cons_of_mem _ (List.mem_append_left _ (List.mem_of_getElem? (i := 1) rfl)))) (hts (.code objectInit ⟨#[0xb1]⟩ 1 none) (List.mem_cons_of_mem _ (List.mem_append_left _ (List.mem_of_getElem? (i := 2) rfl)))) rfl (by rw [hml]; exact hl.1) rfl dX6_init_1 (Nat.le_of_ble_eq_true rfl) (Nat.le_of_ble_eq_true rfl) ?_
  refine W.eq (g2 := F0 m 4 ls []) rfl ?_
  refine lv_aload_n hx hb dX6_init_4 rfl (lv_at hl 0 rfl) ?_
  refine lv_bipush (v := iZ 6) hx hb dX6_init_5 (by decide) ?_
  refine kn_newaI (N9 := 6) hx hb (hts (.arrayClass .int) (List.mem_cons_of_mem _ (List.mem_append_left _ (List.mem_of_getElem? (i := 3) rfl)))) hK 0 rfl hP hD hS hA (by decide) rfl (by decide) (Nat.le_of_ble_eq_true rfl) (Nat.le_of_ble_eq_true rfl) dX6_init_7 (fun q7 H hP hD hS => ?_)
  refine W.widen (k := 1) (n := 6) (Nat.le_refl _) (Nat.le_refl _) ?_
  replace hP : va_P D vwCl ([(h0, .inr (6, [.null, .null, .null, .null, .null, .null, .null, .int (iZ 0), .int (iZ 0), .int (iZ 0)])), (q7, .inl (C.1, 6, .inl (fun _ => iZ 0)))] ++ ([] : va_W)) H := hP
  replace hD : va_D A ([(h0, .inr (6, [.null, .null, .null, .null, .null, .null, .null, .int (iZ 0), .int (iZ 0), .int (iZ 0)])), (q7, .inl (C.1, 6, .inl (fun _ => iZ 0)))] ++ ([] : va_W)) := hD
  refine va_putF (D := D) (ci := 6) (v := .ref q7) (ty := .array .int) (C := RX6) (T := TX6) (N := 10) hx hb hts hin_X6 tyX6 tyX6_ok nmX6 hown hK hP hD hS 0 rfl rfl 0 (by decide) (hts (.fieldLink RX6 9 "WordFletchers$Told" "place" "[I") (List.mem_cons_of_mem _ (List.mem_append_left _ (List.mem_of_getElem? (i := 4) rfl)))) (fun _ h9 => h9) rfl hinit rfl (by decide +kernel) rfl rfl (Nat.le_of_ble_eq_true rfl) dX6_init_9 (fun H locs hP hD hS => ?_)
  replace hP : va_P D vwCl ([(h0, .inr (6, [.ref q7, .null, .null, .null, .null, .null, .null, .int (iZ 0), .int (iZ 0), .int (iZ 0)])), (q7, .inl (C.1, 6, .inl (fun _ => iZ 0)))] ++ ([] : va_W)) H := hP
  replace hD : va_D A ([(h0, .inr (6, [.ref q7, .null, .null, .null, .null, .null, .null, .int (iZ 0), .int (iZ 0), .int (iZ 0)])), (q7, .inl (C.1, 6, .inl (fun _ => iZ 0)))] ++ ([] : va_W)) := hD
  refine lv_aload_n hx hb dX6_init_12 rfl (lv_at hl 0 rfl) ?_
  refine lv_bipush (v := iZ 6) hx hb dX6_init_13 (by decide) ?_
  refine kn_newaI (N9 := 6) hx hb (hts (.arrayClass .int) (List.mem_cons_of_mem _ (List.mem_append_left _ (List.mem_of_getElem? (i := 3) rfl)))) hK 0 rfl hP hD hS hA (by decide) rfl (by decide) (Nat.le_of_ble_eq_true rfl) (Nat.le_of_ble_eq_true rfl) dX6_init_15 (fun q15 H hP hD hS => ?_)
  refine W.widen (k := 2) (n := 12) (Nat.le_refl _) (Nat.le_refl _) ?_
  replace hP : va_P D vwCl ([(h0, .inr (6, [.ref q7, .null, .null, .null, .null, .null, .null, .int (iZ 0), .int (iZ 0), .int (iZ 0)])), (q7, .inl (C.1, 6, .inl (fun _ => iZ 0))), (q15, .inl (C.1, 6, .inl (fun _ => iZ 0)))] ++ ([] : va_W)) H := hP
  replace hD : va_D A ([(h0, .inr (6, [.ref q7, .null, .null, .null, .null, .null, .null, .int (iZ 0), .int (iZ 0), .int (iZ 0)])), (q7, .inl (C.1, 6, .inl (fun _ => iZ 0))), (q15, .inl (C.1, 6, .inl (fun _ => iZ 0)))] ++ ([] : va_W)) := hD
  refine va_putF (D := D) (ci := 6) (v := .ref q15) (ty := .array .int) (C := RX6) (T := TX6) (N := 10) hx hb hts hin_X6 tyX6 tyX6_ok nmX6 hown hK hP hD hS 0 rfl rfl 1 (by decide) (hts (.fieldLink RX6 15 "WordFletchers$Told" "ear" "[I") (List.mem_cons_of_mem _ (List.mem_append_left _ (List.mem_of_getElem? (i := 5) rfl)))) (fun _ h9 => h9) rfl hinit rfl (by decide +kernel) rfl rfl (Nat.le_of_ble_eq_true rfl) dX6_init_17 (fun H locs hP hD hS => ?_)
  replace hP : va_P D vwCl ([(h0, .inr (6, [.ref q7, .ref q15, .null, .null, .null, .null, .null, .int (iZ 0), .int (iZ 0), .int (iZ 0)])), (q7, .inl (C.1, 6, .inl (fun _ => iZ 0))), (q15, .inl (C.1, 6, .inl (fun _ => iZ 0)))] ++ ([] : va_W)) H := hP
  replace hD : va_D A ([(h0, .inr (6, [.ref q7, .ref q15, .null, .null, .null, .null, .null, .int (iZ 0), .int (iZ 0), .int (iZ 0)])), (q7, .inl (C.1, 6, .inl (fun _ => iZ 0))), (q15, .inl (C.1, 6, .inl (fun _ => iZ 0)))] ++ ([] : va_W)) := hD
  refine lv_aload_n hx hb dX6_init_20 rfl (lv_at hl 0 rfl) ?_
  refine lv_bipush (v := iZ 6) hx hb dX6_init_21 (by decide) ?_
  refine kn_newaI (N9 := 6) hx hb (hts (.arrayClass .int) (List.mem_cons_of_mem _ (List.mem_append_left _ (List.mem_of_getElem? (i := 3) rfl)))) hK 0 rfl hP hD hS hA (by decide) rfl (by decide) (Nat.le_of_ble_eq_true rfl) (Nat.le_of_ble_eq_true rfl) dX6_init_23 (fun q23 H hP hD hS => ?_)
  refine W.widen (k := 3) (n := 18) (Nat.le_refl _) (Nat.le_refl _) ?_
  replace hP : va_P D vwCl ([(h0, .inr (6, [.ref q7, .ref q15, .null, .null, .null, .null, .null, .int (iZ 0), .int (iZ 0), .int (iZ 0)])), (q7, .inl (C.1, 6, .inl (fun _ => iZ 0))), (q15, .inl (C.1, 6, .inl (fun _ => iZ 0))), (q23, .inl (C.1, 6, .inl (fun _ => iZ 0)))] ++ ([] : va_W)) H := hP
  replace hD : va_D A ([(h0, .inr (6, [.ref q7, .ref q15, .null, .null, .null, .null, .null, .int (iZ 0), .int (iZ 0), .int (iZ 0)])), (q7, .inl (C.1, 6, .inl (fun _ => iZ 0))), (q15, .inl (C.1, 6, .inl (fun _ => iZ 0))), (q23, .inl (C.1, 6, .inl (fun _ => iZ 0)))] ++ ([] : va_W)) := hD
  refine va_putF (D := D) (ci := 6) (v := .ref q23) (ty := .array .int) (C := RX6) (T := TX6) (N := 10) hx hb hts hin_X6 tyX6 tyX6_ok nmX6 hown hK hP hD hS 0 rfl rfl 2 (by decide) (hts (.fieldLink RX6 18 "WordFletchers$Told" "weight" "[I") (List.mem_cons_of_mem _ (List.mem_append_left _ (List.mem_of_getElem? (i := 6) rfl)))) (fun _ h9 => h9) rfl hinit rfl (by decide +kernel) rfl rfl (Nat.le_of_ble_eq_true rfl) dX6_init_25 (fun H locs hP hD hS => ?_)
  replace hP : va_P D vwCl ([(h0, .inr (6, [.ref q7, .ref q15, .ref q23, .null, .null, .null, .null, .int (iZ 0), .int (iZ 0), .int (iZ 0)])), (q7, .inl (C.1, 6, .inl (fun _ => iZ 0))), (q15, .inl (C.1, 6, .inl (fun _ => iZ 0))), (q23, .inl (C.1, 6, .inl (fun _ => iZ 0)))] ++ ([] : va_W)) H := hP
  replace hD : va_D A ([(h0, .inr (6, [.ref q7, .ref q15, .ref q23, .null, .null, .null, .null, .int (iZ 0), .int (iZ 0), .int (iZ 0)])), (q7, .inl (C.1, 6, .inl (fun _ => iZ 0))), (q15, .inl (C.1, 6, .inl (fun _ => iZ 0))), (q23, .inl (C.1, 6, .inl (fun _ => iZ 0)))] ++ ([] : va_W)) := hD
  refine lv_aload_n hx hb dX6_init_28 rfl (lv_at hl 0 rfl) ?_
  refine lv_bipush (v := iZ 6) hx hb dX6_init_29 (by decide) ?_
  refine kn_newaI (N9 := 6) hx hb (hts (.arrayClass .int) (List.mem_cons_of_mem _ (List.mem_append_left _ (List.mem_of_getElem? (i := 3) rfl)))) hK 0 rfl hP hD hS hA (by decide) rfl (by decide) (Nat.le_of_ble_eq_true rfl) (Nat.le_of_ble_eq_true rfl) dX6_init_31 (fun q31 H hP hD hS => ?_)
  refine W.widen (k := 4) (n := 24) (Nat.le_refl _) (Nat.le_refl _) ?_
  replace hP : va_P D vwCl ([(h0, .inr (6, [.ref q7, .ref q15, .ref q23, .null, .null, .null, .null, .int (iZ 0), .int (iZ 0), .int (iZ 0)])), (q7, .inl (C.1, 6, .inl (fun _ => iZ 0))), (q15, .inl (C.1, 6, .inl (fun _ => iZ 0))), (q23, .inl (C.1, 6, .inl (fun _ => iZ 0))), (q31, .inl (C.1, 6, .inl (fun _ => iZ 0)))] ++ ([] : va_W)) H := hP
  replace hD : va_D A ([(h0, .inr (6, [.ref q7, .ref q15, .ref q23, .null, .null, .null, .null, .int (iZ 0), .int (iZ 0), .int (iZ 0)])), (q7, .inl (C.1, 6, .inl (fun _ => iZ 0))), (q15, .inl (C.1, 6, .inl (fun _ => iZ 0))), (q23, .inl (C.1, 6, .inl (fun _ => iZ 0))), (q31, .inl (C.1, 6, .inl (fun _ => iZ 0)))] ++ ([] : va_W)) := hD
  refine va_putF (D := D) (ci := 6) (v := .ref q31) (ty := .array .int) (C := RX6) (T := TX6) (N := 10) hx hb hts hin_X6 tyX6 tyX6_ok nmX6 hown hK hP hD hS 0 rfl rfl 3 (by decide) (hts (.fieldLink RX6 21 "WordFletchers$Told" "twist" "[I") (List.mem_cons_of_mem _ (List.mem_append_left _ (List.mem_of_getElem? (i := 7) rfl)))) (fun _ h9 => h9) rfl hinit rfl (by decide +kernel) rfl rfl (Nat.le_of_ble_eq_true rfl) dX6_init_33 (fun H locs hP hD hS => ?_)
  replace hP : va_P D vwCl ([(h0, .inr (6, [.ref q7, .ref q15, .ref q23, .ref q31, .null, .null, .null, .int (iZ 0), .int (iZ 0), .int (iZ 0)])), (q7, .inl (C.1, 6, .inl (fun _ => iZ 0))), (q15, .inl (C.1, 6, .inl (fun _ => iZ 0))), (q23, .inl (C.1, 6, .inl (fun _ => iZ 0))), (q31, .inl (C.1, 6, .inl (fun _ => iZ 0)))] ++ ([] : va_W)) H := hP
  replace hD : va_D A ([(h0, .inr (6, [.ref q7, .ref q15, .ref q23, .ref q31, .null, .null, .null, .int (iZ 0), .int (iZ 0), .int (iZ 0)])), (q7, .inl (C.1, 6, .inl (fun _ => iZ 0))), (q15, .inl (C.1, 6, .inl (fun _ => iZ 0))), (q23, .inl (C.1, 6, .inl (fun _ => iZ 0))), (q31, .inl (C.1, 6, .inl (fun _ => iZ 0)))] ++ ([] : va_W)) := hD
  refine lv_aload_n hx hb dX6_init_36 rfl (lv_at hl 0 rfl) ?_
  refine lv_bipush (v := iZ 6) hx hb dX6_init_37 (by decide) ?_
  refine kn_newaI (N9 := 6) hx hb (hts (.arrayClass .int) (List.mem_cons_of_mem _ (List.mem_append_left _ (List.mem_of_getElem? (i := 3) rfl)))) hK 0 rfl hP hD hS hA (by decide) rfl (by decide) (Nat.le_of_ble_eq_true rfl) (Nat.le_of_ble_eq_true rfl) dX6_init_39 (fun q39 H hP hD hS => ?_)
  refine W.widen (k := 5) (n := 30) (Nat.le_refl _) (Nat.le_refl _) ?_
  replace hP : va_P D vwCl ([(h0, .inr (6, [.ref q7, .ref q15, .ref q23, .ref q31, .null, .null, .null, .int (iZ 0), .int (iZ 0), .int (iZ 0)])), (q7, .inl (C.1, 6, .inl (fun _ => iZ 0))), (q15, .inl (C.1, 6, .inl (fun _ => iZ 0))), (q23, .inl (C.1, 6, .inl (fun _ => iZ 0))), (q31, .inl (C.1, 6, .inl (fun _ => iZ 0))), (q39, .inl (C.1, 6, .inl (fun _ => iZ 0)))] ++ ([] : va_W)) H := hP
  replace hD : va_D A ([(h0, .inr (6, [.ref q7, .ref q15, .ref q23, .ref q31, .null, .null, .null, .int (iZ 0), .int (iZ 0), .int (iZ 0)])), (q7, .inl (C.1, 6, .inl (fun _ => iZ 0))), (q15, .inl (C.1, 6, .inl (fun _ => iZ 0))), (q23, .inl (C.1, 6, .inl (fun _ => iZ 0))), (q31, .inl (C.1, 6, .inl (fun _ => iZ 0))), (q39, .inl (C.1, 6, .inl (fun _ => iZ 0)))] ++ ([] : va_W)) := hD
  refine va_putF (D := D) (ci := 6) (v := .ref q39) (ty := .array .int) (C := RX6) (T := TX6) (N := 10) hx hb hts hin_X6 tyX6 tyX6_ok nmX6 hown hK hP hD hS 0 rfl rfl 4 (by decide) (hts (.fieldLink RX6 24 "WordFletchers$Told" "first" "[I") (List.mem_cons_of_mem _ (List.mem_append_left _ (List.mem_of_getElem? (i := 8) rfl)))) (fun _ h9 => h9) rfl hinit rfl (by decide +kernel) rfl rfl (Nat.le_of_ble_eq_true rfl) dX6_init_41 (fun H locs hP hD hS => ?_)
  replace hP : va_P D vwCl ([(h0, .inr (6, [.ref q7, .ref q15, .ref q23, .ref q31, .ref q39, .null, .null, .int (iZ 0), .int (iZ 0), .int (iZ 0)])), (q7, .inl (C.1, 6, .inl (fun _ => iZ 0))), (q15, .inl (C.1, 6, .inl (fun _ => iZ 0))), (q23, .inl (C.1, 6, .inl (fun _ => iZ 0))), (q31, .inl (C.1, 6, .inl (fun _ => iZ 0))), (q39, .inl (C.1, 6, .inl (fun _ => iZ 0)))] ++ ([] : va_W)) H := hP
  replace hD : va_D A ([(h0, .inr (6, [.ref q7, .ref q15, .ref q23, .ref q31, .ref q39, .null, .null, .int (iZ 0), .int (iZ 0), .int (iZ 0)])), (q7, .inl (C.1, 6, .inl (fun _ => iZ 0))), (q15, .inl (C.1, 6, .inl (fun _ => iZ 0))), (q23, .inl (C.1, 6, .inl (fun _ => iZ 0))), (q31, .inl (C.1, 6, .inl (fun _ => iZ 0))), (q39, .inl (C.1, 6, .inl (fun _ => iZ 0)))] ++ ([] : va_W)) := hD
  refine lv_aload_n hx hb dX6_init_44 rfl (lv_at hl 0 rfl) ?_
  refine lv_bipush (v := iZ 6) hx hb dX6_init_45 (by decide) ?_
  refine kn_newaI (N9 := 6) hx hb (hts (.arrayClass .int) (List.mem_cons_of_mem _ (List.mem_append_left _ (List.mem_of_getElem? (i := 3) rfl)))) hK 0 rfl hP hD hS hA (by decide) rfl (by decide) (Nat.le_of_ble_eq_true rfl) (Nat.le_of_ble_eq_true rfl) dX6_init_47 (fun q47 H hP hD hS => ?_)
  refine W.widen (k := 6) (n := 36) (Nat.le_refl _) (Nat.le_refl _) ?_
  replace hP : va_P D vwCl ([(h0, .inr (6, [.ref q7, .ref q15, .ref q23, .ref q31, .ref q39, .null, .null, .int (iZ 0), .int (iZ 0), .int (iZ 0)])), (q7, .inl (C.1, 6, .inl (fun _ => iZ 0))), (q15, .inl (C.1, 6, .inl (fun _ => iZ 0))), (q23, .inl (C.1, 6, .inl (fun _ => iZ 0))), (q31, .inl (C.1, 6, .inl (fun _ => iZ 0))), (q39, .inl (C.1, 6, .inl (fun _ => iZ 0))), (q47, .inl (C.1, 6, .inl (fun _ => iZ 0)))] ++ ([] : va_W)) H := hP
  replace hD : va_D A ([(h0, .inr (6, [.ref q7, .ref q15, .ref q23, .ref q31, .ref q39, .null, .null, .int (iZ 0), .int (iZ 0), .int (iZ 0)])), (q7, .inl (C.1, 6, .inl (fun _ => iZ 0))), (q15, .inl (C.1, 6, .inl (fun _ => iZ 0))), (q23, .inl (C.1, 6, .inl (fun _ => iZ 0))), (q31, .inl (C.1, 6, .inl (fun _ => iZ 0))), (q39, .inl (C.1, 6, .inl (fun _ => iZ 0))), (q47, .inl (C.1, 6, .inl (fun _ => iZ 0)))] ++ ([] : va_W)) := hD
  refine va_putF (D := D) (ci := 6) (v := .ref q47) (ty := .array .int) (C := RX6) (T := TX6) (N := 10) hx hb hts hin_X6 tyX6 tyX6_ok nmX6 hown hK hP hD hS 0 rfl rfl 5 (by decide) (hts (.fieldLink RX6 27 "WordFletchers$Told" "winds" "[I") (List.mem_cons_of_mem _ (List.mem_append_left _ (List.mem_of_getElem? (i := 9) rfl)))) (fun _ h9 => h9) rfl hinit rfl (by decide +kernel) rfl rfl (Nat.le_of_ble_eq_true rfl) dX6_init_49 (fun H locs hP hD hS => ?_)
  replace hP : va_P D vwCl ([(h0, .inr (6, [.ref q7, .ref q15, .ref q23, .ref q31, .ref q39, .ref q47, .null, .int (iZ 0), .int (iZ 0), .int (iZ 0)])), (q7, .inl (C.1, 6, .inl (fun _ => iZ 0))), (q15, .inl (C.1, 6, .inl (fun _ => iZ 0))), (q23, .inl (C.1, 6, .inl (fun _ => iZ 0))), (q31, .inl (C.1, 6, .inl (fun _ => iZ 0))), (q39, .inl (C.1, 6, .inl (fun _ => iZ 0))), (q47, .inl (C.1, 6, .inl (fun _ => iZ 0)))] ++ ([] : va_W)) H := hP
  replace hD : va_D A ([(h0, .inr (6, [.ref q7, .ref q15, .ref q23, .ref q31, .ref q39, .ref q47, .null, .int (iZ 0), .int (iZ 0), .int (iZ 0)])), (q7, .inl (C.1, 6, .inl (fun _ => iZ 0))), (q15, .inl (C.1, 6, .inl (fun _ => iZ 0))), (q23, .inl (C.1, 6, .inl (fun _ => iZ 0))), (q31, .inl (C.1, 6, .inl (fun _ => iZ 0))), (q39, .inl (C.1, 6, .inl (fun _ => iZ 0))), (q47, .inl (C.1, 6, .inl (fun _ => iZ 0)))] ++ ([] : va_W)) := hD
  refine lv_aload_n hx hb dX6_init_52 rfl (lv_at hl 0 rfl) ?_
  refine lv_iconst (v := iZ 4) hx hb dX6_init_53 (by decide) ?_
  refine kn_newaI (N9 := 4) hx hb (hts (.arrayClass .int) (List.mem_cons_of_mem _ (List.mem_append_left _ (List.mem_of_getElem? (i := 3) rfl)))) hK 0 rfl hP hD hS hA (by decide) rfl (by decide) (Nat.le_of_ble_eq_true rfl) (Nat.le_of_ble_eq_true rfl) dX6_init_54 (fun q54 H hP hD hS => ?_)
  refine W.widen (k := 7) (n := 40) (Nat.le_refl _) (Nat.le_refl _) ?_
  replace hP : va_P D vwCl ([(h0, .inr (6, [.ref q7, .ref q15, .ref q23, .ref q31, .ref q39, .ref q47, .null, .int (iZ 0), .int (iZ 0), .int (iZ 0)])), (q7, .inl (C.1, 6, .inl (fun _ => iZ 0))), (q15, .inl (C.1, 6, .inl (fun _ => iZ 0))), (q23, .inl (C.1, 6, .inl (fun _ => iZ 0))), (q31, .inl (C.1, 6, .inl (fun _ => iZ 0))), (q39, .inl (C.1, 6, .inl (fun _ => iZ 0))), (q47, .inl (C.1, 6, .inl (fun _ => iZ 0))), (q54, .inl (C.1, 4, .inl (fun _ => iZ 0)))] ++ ([] : va_W)) H := hP
  replace hD : va_D A ([(h0, .inr (6, [.ref q7, .ref q15, .ref q23, .ref q31, .ref q39, .ref q47, .null, .int (iZ 0), .int (iZ 0), .int (iZ 0)])), (q7, .inl (C.1, 6, .inl (fun _ => iZ 0))), (q15, .inl (C.1, 6, .inl (fun _ => iZ 0))), (q23, .inl (C.1, 6, .inl (fun _ => iZ 0))), (q31, .inl (C.1, 6, .inl (fun _ => iZ 0))), (q39, .inl (C.1, 6, .inl (fun _ => iZ 0))), (q47, .inl (C.1, 6, .inl (fun _ => iZ 0))), (q54, .inl (C.1, 4, .inl (fun _ => iZ 0)))] ++ ([] : va_W)) := hD
  refine va_putF (D := D) (ci := 6) (v := .ref q54) (ty := .array .int) (C := RX6) (T := TX6) (N := 10) hx hb hts hin_X6 tyX6 tyX6_ok nmX6 hown hK hP hD hS 0 rfl rfl 6 (by decide) (hts (.fieldLink RX6 30 "WordFletchers$Told" "feathers" "[I") (List.mem_cons_of_mem _ (List.mem_append_left _ (List.mem_of_getElem? (i := 10) rfl)))) (fun _ h9 => h9) rfl hinit rfl (by decide +kernel) rfl rfl (Nat.le_of_ble_eq_true rfl) dX6_init_56 (fun H locs hP hD hS => ?_)
  replace hP : va_P D vwCl ([(h0, .inr (6, [.ref q7, .ref q15, .ref q23, .ref q31, .ref q39, .ref q47, .ref q54, .int (iZ 0), .int (iZ 0), .int (iZ 0)])), (q7, .inl (C.1, 6, .inl (fun _ => iZ 0))), (q15, .inl (C.1, 6, .inl (fun _ => iZ 0))), (q23, .inl (C.1, 6, .inl (fun _ => iZ 0))), (q31, .inl (C.1, 6, .inl (fun _ => iZ 0))), (q39, .inl (C.1, 6, .inl (fun _ => iZ 0))), (q47, .inl (C.1, 6, .inl (fun _ => iZ 0))), (q54, .inl (C.1, 4, .inl (fun _ => iZ 0)))] ++ ([] : va_W)) H := hP
  replace hD : va_D A ([(h0, .inr (6, [.ref q7, .ref q15, .ref q23, .ref q31, .ref q39, .ref q47, .ref q54, .int (iZ 0), .int (iZ 0), .int (iZ 0)])), (q7, .inl (C.1, 6, .inl (fun _ => iZ 0))), (q15, .inl (C.1, 6, .inl (fun _ => iZ 0))), (q23, .inl (C.1, 6, .inl (fun _ => iZ 0))), (q31, .inl (C.1, 6, .inl (fun _ => iZ 0))), (q39, .inl (C.1, 6, .inl (fun _ => iZ 0))), (q47, .inl (C.1, 6, .inl (fun _ => iZ 0))), (q54, .inl (C.1, 4, .inl (fun _ => iZ 0)))] ++ ([] : va_W)) := hD
  refine lv_aload_n hx hb dX6_init_59 rfl (lv_at hl 0 rfl) ?_
  have hFc := va_free (wc := [(h0, .inr (6, [.ref q7, .ref q15, .ref q23, .ref q31, .ref q39, .ref q47, .ref q54, .int (iZ 0), .int (iZ 0), .int (iZ 0)])), (q7, .inl (C.1, 6, .inl (fun _ => iZ 0))), (q15, .inl (C.1, 6, .inl (fun _ => iZ 0))), (q23, .inl (C.1, 6, .inl (fun _ => iZ 0))), (q31, .inl (C.1, 6, .inl (fun _ => iZ 0))), (q39, .inl (C.1, 6, .inl (fun _ => iZ 0))), (q47, .inl (C.1, 6, .inl (fun _ => iZ 0))), (q54, .inl (C.1, 4, .inl (fun _ => iZ 0)))]) hD hS hA [0, 1, 2, 3, 4, 5, 6, 7] rfl
  have hPc : va_P D vwCl [(h0, .inr (6, [.ref q7, .ref q15, .ref q23, .ref q31, .ref q39, .ref q47, .ref q54, .int (iZ 0), .int (iZ 0), .int (iZ 0)])), (q7, .inl (C.1, 6, .inl (fun _ => iZ 0))), (q15, .inl (C.1, 6, .inl (fun _ => iZ 0))), (q23, .inl (C.1, 6, .inl (fun _ => iZ 0))), (q31, .inl (C.1, 6, .inl (fun _ => iZ 0))), (q39, .inl (C.1, 6, .inl (fun _ => iZ 0))), (q47, .inl (C.1, 6, .inl (fun _ => iZ 0))), (q54, .inl (C.1, 4, .inl (fun _ => iZ 0)))] H := hP.sub (ws' := [(h0, .inr (6, [.ref q7, .ref q15, .ref q23, .ref q31, .ref q39, .ref q47, .ref q54, .int (iZ 0), .int (iZ 0), .int (iZ 0)])), (q7, .inl (C.1, 6, .inl (fun _ => iZ 0))), (q15, .inl (C.1, 6, .inl (fun _ => iZ 0))), (q23, .inl (C.1, 6, .inl (fun _ => iZ 0))), (q31, .inl (C.1, 6, .inl (fun _ => iZ 0))), (q39, .inl (C.1, 6, .inl (fun _ => iZ 0))), (q47, .inl (C.1, 6, .inl (fun _ => iZ 0))), (q54, .inl (C.1, 4, .inl (fun _ => iZ 0)))]) [0, 1, 2, 3, 4, 5, 6, 7] rfl
  have hDc := hD.sub (ws' := [(h0, .inr (6, [.ref q7, .ref q15, .ref q23, .ref q31, .ref q39, .ref q47, .ref q54, .int (iZ 0), .int (iZ 0), .int (iZ 0)])), (q7, .inl (C.1, 6, .inl (fun _ => iZ 0))), (q15, .inl (C.1, 6, .inl (fun _ => iZ 0))), (q23, .inl (C.1, 6, .inl (fun _ => iZ 0))), (q31, .inl (C.1, 6, .inl (fun _ => iZ 0))), (q39, .inl (C.1, 6, .inl (fun _ => iZ 0))), (q47, .inl (C.1, 6, .inl (fun _ => iZ 0))), (q54, .inl (C.1, 4, .inl (fun _ => iZ 0)))]) [0, 1, 2, 3, 4, 5, 6, 7] (by decide) rfl
  refine va_callv (va_runV (As := []) (rest := []) ⟨hx, hb, hml, hown, hts⟩ (K_X6_tns l D C h0 q7 q15 q23 q31 q39 q47 q54 H.size) (cwV 0 hts gX6_init_X6_tellNothing rfl rfl rfl (by decide +kernel) ⟨Nat.le_of_ble_eq_true rfl, Nat.le_of_ble_eq_true rfl⟩) ⟨fun a U g mk q => by obtain ⟨q0, q1, qP, qK, qD⟩ := q; exact ⟨q0, q1, qP, va_K.moved (u := U) (U := U.calling g mk a) (Vm.Alike.refl U.vm) qK, qD⟩, va_recv hK hP (ci := 6) (q0 := 0) rfl rfl, fun U hU hW => ⟨rfl, by rw [hU], by rw [hU]; exact hPc, va_K.moved hW.alike hK, hDc.weaken (fun _ _ _ _ => trivial)⟩⟩ rfl rfl hl.1 rfl (lv_room (Nat.le_of_ble_eq_true rfl)) dX6_init_60 ⟨Nat.le_of_ble_eq_true rfl, Nat.le_of_ble_eq_true rfl⟩) hS (fun q _ h => hFc q h) hFc (fun u t H1 locs ht hvm hw hB hz1 hk1 hS => ?_)
  obtain ⟨hP1, hD1⟩ := hB
  rw [ht] at hP1
  exact W.vret hx hb hr (fun t ht hW => ⟨⟨_, rfl, rfl, by rw [ht]; exact hP1, hD1.weaken (fun k q _ h => hFc q.1 h)⟩, hS.F ht⟩) hS.2.2 dX6_init_63 hlocks
