/-! The law's cases, on fresh objects. -/
theorem cV1_o {g : Nat} (h : g < 39 ∨ 41 < g) : cV1 g = cV0 g := f_beg_o _ (by omega)
theorem paI_0 : paI cV1 31 := by
  have e1 : cV1 31 1 = 0 := by rw [cV1_o (by decide)]; rfl
  refine ⟨by omega, fun k hk => ?_⟩
  have e : cV1 (31 + 1) k = 54 + 5 * (k : Int) := by rw [cV1_o (by decide)]; rfl
  rw [e]; unfold isMo; omega
theorem paI_1 : ∀ q : Nat, isIm q → paI cV1 (33 + 2 * (q - 37)) := by
  intro q hq
  unfold isIm at hq
  rcases (show q = 37 ∨ q = 38 by omega) with rfl | rfl
  · have e1 : cV1 33 1 = 0 := by rw [cV1_o (by decide)]; rfl
    refine ⟨by show 0 ≤ cV1 33 1 ∧ cV1 33 1 ≤ 10; omega, fun k hk => ?_⟩
    have e : cV1 (33 + 2 * (37 - 37) + 1) k = 104 + 5 * (k : Int) := by show cV1 34 k = _; rw [cV1_o (by decide)]; rfl
    rw [e]; unfold isMo; omega
  · have e1 : cV1 35 1 = 0 := by rw [cV1_o (by decide)]; rfl
    refine ⟨by show 0 ≤ cV1 35 1 ∧ cV1 35 1 ≤ 10; omega, fun k hk => ?_⟩
    have e : cV1 (33 + 2 * (38 - 37) + 1) k = 154 + 5 * (k : Int) := by show cV1 36 k = _; rw [cV1_o (by decide)]; rfl
    rw [e]; unfold isMo; omega
theorem cf_fe : ∀ k : Nat, k < 4 → cV1 40 k = 9 := by
  intro k hk
  rcases (show k = 0 ∨ k = 1 ∨ k = 2 ∨ k = 3 by omega) with rfl | rfl | rfl | rfl <;> decide +kernel
theorem cf_im : ∀ q : Nat, isIm q → cV1 q 2 = 0 := by
  intro q hq
  unfold isIm at hq
  rcases (show q = 37 ∨ q = 38 by omega) with rfl | rfl <;> decide +kernel
theorem mI_0 : mI mM0 := by
  have v : ∀ k : Nat, mM0 19 (2 + k) = if k < 4 then 9 else 0 := fun k => by
    unfold mM0
    rw [if_neg (by omega)]
    by_cases q : k < 4
    · rw [if_pos (by omega), if_pos q]
    · rw [if_neg (by omega), if_neg q]
  unfold mI vI
  refine ⟨by decide, fun k _ => by show -128 ≤ (0 : Int) ∧ (0 : Int) < 128; decide, by decide, by decide, by decide, fun k hk => absurd hk (by show ¬ (k : Int) < 0; omega), fun k hk => absurd hk (by show ¬ (k : Int) < 0; omega), fun k hk => by show -4 ≤ (0 : Int) ∧ (0 : Int) ≤ 4; decide, ⟨by decide, by decide, fun k hk => by rw [v, if_pos hk]; omega, fun k hk => by rw [show 6 + k = 2 + (4 + k) by omega, v, if_neg (by omega)]; omega, by decide, fun k hk => absurd hk (by show ¬ (k : Int) < 0; omega), fun k hk => absurd hk (by show ¬ (k : Int) < 0; omega)⟩, by decide, fun k hk => absurd hk (by show ¬ (k : Int) < 0; omega), fun i hi => ⟨Or.inl rfl, fun z => absurd z (by show ¬ ((0 : Int) = 1); decide)⟩, by decide, fun k hk => absurd hk (by show ¬ (k : Int) < 0; omega)⟩
theorem plucks_0 (x1 x2 : Int) : (if (0 ≤ x1 ∧ x1 < 4) ∧ 1 ≤ x2 ∧ x2 ≤ 9 then (if cV1 40 (Int.toNat x1) < 20 then (if cV1 40 (Int.toNat x1) + x2 < 20 then cV1 40 (Int.toNat x1) + x2 else 20) else -2) else -1) = s_plucks mM0 x1 x2 := by
  unfold s_plucks
  by_cases q : (0 ≤ x1 ∧ x1 < 4) ∧ 1 ≤ x2 ∧ x2 ≤ 9
  · have e1 := cf_fe (Int.toNat x1) (by omega)
    have e2 : mM0 19 (Int.toNat (2 + x1)) = 9 := by unfold mM0; rw [if_neg (by omega), if_pos (by omega)]
    rw [if_pos q, if_neg (show ¬ ¬ ((0 ≤ x1 ∧ x1 ≤ 3) ∧ 1 ≤ x2 ∧ x2 ≤ 9) by omega), e1, e2]
    unfold s_plv
    rw [e2]
    (repeat' split) <;> omega
  · rw [if_neg q, if_pos (by omega)]
theorem now_0 (x1 : Int) : (if 0 ≤ x1 ∧ x1 ≤ 6 then (if x1 = 0 then cV1 39 0 else if x1 = 1 then cV1 39 1 else if x1 = 6 then cV1 39 2 else cV1 40 (Int.toNat (x1 - 2))) else -1) = s_now mM0 x1 := by
  unfold s_now
  by_cases q : 0 ≤ x1 ∧ x1 ≤ 6
  · rw [if_pos q]
    rcases (show x1 = 0 ∨ x1 = 1 ∨ x1 = 2 ∨ x1 = 3 ∨ x1 = 4 ∨ x1 = 5 ∨ x1 = 6 by omega) with rfl | rfl | rfl | rfl | rfl | rfl | rfl <;> decide +kernel
  · rw [if_neg q, if_neg (by omega), if_neg (by omega)]
section CASES
set_option maxHeartbeats 4000000 in
set_option maxRecDepth 100000 in
theorem p1_end {p : Program} {e : Env} {s : State} {m : MethodId} {below : List Frame} {meth : Method} {c : Code} (l : Launch) {b L : Nat} {xs : Nat → Int32} (C0 : lw_At p s m meth c b L xs) (hL : L = 6) {a : Nat → Nat} {h2 : Nat}
  {H : Heap} {locs : List Loc} (hS : va_S (fun q : Nat => s.heap.size ≤ q) s.heap H locs) {ls : Array Slot} (hl : lv_has ls 4 [(3, .int (iZ 0)), (2, .ref h2), (1, .ref (a 0)), (0, .ref b)]) : W p l e room_1 s m #[Value.ref b] below meth c H locs 600000 7302250 (lw_Z below #[Value.ref b] s) (F0 m 1022 ls []) := by
  obtain ⟨hx, hb, hr, hml, hown, hts, hX, hbl, hlocks, hgv⟩ := id C0
  have hbA : ¬ (fun q : Nat => s.heap.size ≤ q) b := Nat.not_le.mpr hbl
  refine lv_iinc (v := iZ 6) (lv' := [(3, .int (iZ 6)), (2, .ref h2), (1, .ref (a 0)), (0, .ref b)]) hx hb dL_law_1022 hl (k := 0) rfl rfl (by decide) rfl (fun ls hl => ?_)
  refine lv_goto (tgt := 18) hx hb dL_law_1025 (by decide) ?_
  refine lv_iload_n hx hb dL_law_18 rfl (lv_at hl 0 rfl) ?_
  refine lv_aload_n hx hb dL_law_19 rfl (lv_at hl 3 rfl) ?_
  refine va_slen hx hb hX hbl hbA hS dL_law_20 ?_
  refine lv_bipush (v := iZ 6) hx hb dL_law_21 (by decide) ?_
  subst hL
  refine W.eq (g2 := F0 m 23 ls [.int (iZ 6), .int (iZ 6), .int (iZ 6)]) rfl ?_
  refine z_isub hx hb dL_law_23 ?_
  refine z_icmp_gt (x := 6) (y := (6 - 6)) (tgt := 1028) hx hb (by decide) (by decide) dL_law_24 (by decide) (fun _ => ?_) (fun z => absurd (by decide) z)
  refine lv_iconst (v := 1) hx hb dL_law_1028 (by decide) ?_
  refine va_forget (fun q hq => hS.2.2 q hq) ?_
  exact lw_ret hx hb hr hlocks dL_law_1029
set_option maxHeartbeats 4000000 in
set_option maxRecDepth 100000 in
theorem p1_case_0 {p : Program} {e : Env} {s : State} {m : MethodId} {below : List Frame} {meth : Method} {c : Code} (l : Launch) {b L : Nat} {xs : Nat → Int32} (C0 : lw_At p s m meth c b L xs) (hL : L = 6) {D : va_G} {C : cC} {C2 : mC} (hKc : va_K D vwCl (cT C) s) (hKm : va_K D vwCl (mT C2) s) {a a2 bb : Nat → Nat} {h2 : Nat} (hNA : cNA D C (fun q : Nat => s.heap.size ≤ q) bb s)
  {H : Heap} {locs : List Loc} (hP : va_P D vwCl (cW C a cV1) H) (hD : va_D (fun q : Nat => s.heap.size ≤ q) (cW C a cV1)) (hPm : va_P D vwCl (mW C2 h2 a2 mM0) H) (hDm : va_D (fun q : Nat => s.heap.size ≤ q) (mW C2 h2 a2 mM0)) (hjk : ∀ k : Nat, ∃ (j : Nat) (e : va_E), (mW C2 h2 a2 mM0)[j]? = some (a2 k, e)) (hdj : ∀ q, cA a q → ¬ mA h2 a2 q) (hS : va_S (fun q : Nat => s.heap.size ≤ q) s.heap H locs) {ls : Array Slot} (hl : lv_has ls 4 [(3, .int (iZ 0)), (2, .ref h2), (1, .ref (a 0)), (0, .ref b)]) : W p l e room_1 s m #[Value.ref b] below meth c H locs 600000 7302250 (lw_Z below #[Value.ref b] s) (F0 m 164 ls []) := by
  obtain ⟨hx, hb, hr, hml, hown, hts, hX, hbl, hlocks, hgv⟩ := id C0
  have hbA : ¬ (fun q : Nat => s.heap.size ≤ q) b := Nat.not_le.mpr hbl
  have htsL : ∀ w ∈ wsL_law, w.before #[Value.ref b] s = true := fun w h => hts w (wsL_law_in w h)
  obtain ⟨x1, hz1, e1⟩ := iZ_of (xs 1)
  have f1 : isTo (Int.toNat (cV1 0 3)) := by rw [show cV1 0 3 = 15 by decide +kernel]; unfold isTo; omega
  have f2 : isTo (Int.toNat (cV1 0 4)) := by rw [show cV1 0 4 = 23 by decide +kernel]; unfold isTo; omega
  have f3 : cV1 (Int.toNat (cV1 0 3)) 7 = 0 := by decide +kernel
  have f4 : cV1 (Int.toNat (cV1 0 3)) 8 = 0 := by decide +kernel
  have f5 : 0 ≤ cV1 (Int.toNat (cV1 0 3)) 9 ∧ cV1 (Int.toNat (cV1 0 3)) 9 ≤ 6 := by decide +kernel
  have f5b : cV1 (Int.toNat (cV1 0 3)) 9 = 0 := by decide +kernel
  have g390 : cV1 39 0 = 0 := by decide +kernel
  have g391 : cV1 39 1 = 0 := by decide +kernel
  have g392 : cV1 39 2 = 0 := by decide +kernel
  have g01 : cV1 0 1 = 0 := by decide +kernel
  have g44 : cV1 4 4 = 0 := by decide +kernel
  have g311 : cV1 31 1 = 0 := by decide +kernel
  have g012 : cV1 0 12 = 0 := by decide +kernel
  have f6 : 0 ≤ cV1 39 0 ∧ cV1 39 0 ≤ 999 := by omega
  have f7 : 0 ≤ cV1 39 1 ∧ cV1 39 1 ≤ 5 := by omega
  have f8 : 0 ≤ cV1 39 2 ∧ cV1 39 2 ≤ 8 := by omega
  have f9 : 0 ≤ cV1 0 1 ∧ cV1 0 1 ≤ 120 := by omega
  have f10 : ¬ Int.toNat (cV1 0 4) = 0 := by decide +kernel
  have f11 := paI_0
  have f12 := paI_1
  have f13 := cf_im
  have f14 : ∀ k : Nat, k < 4 → 0 ≤ cV1 40 k ∧ cV1 40 k ≤ 20 := fun k hk => by rw [cf_fe k hk]; decide
  have hI0 := mI_0
  have m10 : mM0 1 0 = 0 := by decide +kernel
  have m20 : mM0 2 0 = 0 := by decide +kernel
  have m50 : mM0 5 0 = 0 := by decide +kernel
  have m90 : mM0 9 0 = 1 := by decide +kernel
  have m190 : mM0 19 0 = 0 := by decide +kernel
  have m191 : mM0 19 1 = 0 := by decide +kernel
  have m1912 : mM0 19 12 = 0 := by decide +kernel
  have m200 : mM0 20 0 = 0 := by decide +kernel
  have m280 : mM0 28 0 = 0 := by decide +kernel
  have m290 : mM0 29 0 = 0 := by decide +kernel
  have heq : ((if 0 ≤ x1 ∧ x1 ≤ 255 then (if cV1 0 1 < 120 then cV1 0 1 + 1 else -3) else -1) : Int) = (s_type mM0 x1) := by unfold s_type; rw [g01, m10]; (repeat' split) <;> omega
  refine lv_aload_n hx hb dL_law_164 rfl (lv_at hl 2 rfl) ?_
  refine lv_aload_n hx hb dL_law_165 rfl (lv_at hl 3 rfl) ?_
  refine lv_iload_n hx hb dL_law_166 rfl (lv_at hl 0 rfl) ?_
  refine lv_iconst (v := iZ 1) hx hb dL_law_167 (by decide) ?_
  refine z_iadd (x := 0) (y := 1) hx hb dL_law_168 ?_
  refine lq_ld hx hb hX hbl hbA hS 1 (by omega) (by omega) e1 (by decide) dL_law_169 ?_
  refine lq_cm (As := [.int (iZ x1)]) (rest := []) ⟨hx, hb, hml, hown, htsL⟩ hKc hP hNA hD hS (K_X7_type l D C a bb cV1 x1 (by first | assumption | exact trivial) (by first | assumption | exact trivial) (hD.weaken (fun _ _ _ _ => trivial))) (cwV 1 htsL gL_law_X7_type rfl rfl rfl (by decide +kernel) ⟨Nat.le_of_ble_eq_true rfl, Nat.le_of_ble_eq_true rfl⟩) rfl rfl hl.1 (Nat.le_of_ble_eq_true rfl) ⟨Nat.le_of_ble_eq_true rfl, Nat.le_of_ble_eq_true rfl⟩ dL_law_170 (fun H locs hP9 hD9 hS9 hk9 => ?_)
  replace hPm : va_P D vwCl (mW C2 h2 a2 mM0) H := hPm.kept (fun k q hq => hk9 q.1 (hPm k q hq).lt (fun z => hdj _ z (mA_mem k q hq)))
  replace hS := hS9
  refine lv_aload_n hx hb dL_law_173 rfl (lv_at hl 1 rfl) ?_
  refine lv_aload_n hx hb dL_law_174 rfl (lv_at hl 3 rfl) ?_
  refine lv_iload_n hx hb dL_law_175 rfl (lv_at hl 0 rfl) ?_
  refine lv_iconst (v := iZ 1) hx hb dL_law_176 (by decide) ?_
  refine z_iadd (x := 0) (y := 1) hx hb dL_law_177 ?_
  refine lq_ld hx hb hX hbl hbA hS 1 (by omega) (by omega) e1 (by decide) dL_law_178 ?_
  refine lq_mm (As := [.int (iZ x1)]) (rest := [.int (iZ (if 0 ≤ x1 ∧ x1 ≤ 255 then (if cV1 0 1 < 120 then cV1 0 1 + 1 else -3) else -1))]) ⟨hx, hb, hml, hown, htsL⟩ hKm hPm hDm hS (mA_of hDm hjk) (C_type l D C2 h2 a2 mM0 x1 (by first | assumption | exact trivial) (by first | assumption | exact trivial) (hDm.weaken (fun _ _ _ _ => trivial))) (cwV 1 htsL gL_law_X8_type rfl rfl rfl (by decide +kernel) ⟨Nat.le_of_ble_eq_true rfl, Nat.le_of_ble_eq_true rfl⟩) rfl rfl hl.1 (Nat.le_of_ble_eq_true rfl) ⟨Nat.le_of_ble_eq_true rfl, Nat.le_of_ble_eq_true rfl⟩ dL_law_179 (fun H locs _ _ hS9 _ => ?_)
  replace hS := hS9
  rw [heq]
  refine lv_icmp_eq (tgt := 1022) hx hb dL_law_182 (by decide) (fun _ => ?_) (fun z => absurd rfl z)
  exact p1_end (a := a) l C0 hL hS hl
set_option maxHeartbeats 4000000 in
set_option maxRecDepth 100000 in
theorem p1_case_1 {p : Program} {e : Env} {s : State} {m : MethodId} {below : List Frame} {meth : Method} {c : Code} (l : Launch) {b L : Nat} {xs : Nat → Int32} (C0 : lw_At p s m meth c b L xs) (hL : L = 6) {D : va_G} {C : cC} {C2 : mC} (hKc : va_K D vwCl (cT C) s) (hKm : va_K D vwCl (mT C2) s) {a a2 bb : Nat → Nat} {h2 : Nat} (hNA : cNA D C (fun q : Nat => s.heap.size ≤ q) bb s)
  {H : Heap} {locs : List Loc} (hP : va_P D vwCl (cW C a cV1) H) (hD : va_D (fun q : Nat => s.heap.size ≤ q) (cW C a cV1)) (hPm : va_P D vwCl (mW C2 h2 a2 mM0) H) (hDm : va_D (fun q : Nat => s.heap.size ≤ q) (mW C2 h2 a2 mM0)) (hjk : ∀ k : Nat, ∃ (j : Nat) (e : va_E), (mW C2 h2 a2 mM0)[j]? = some (a2 k, e)) (hdj : ∀ q, cA a q → ¬ mA h2 a2 q) (hS : va_S (fun q : Nat => s.heap.size ≤ q) s.heap H locs) {ls : Array Slot} (hl : lv_has ls 4 [(3, .int (iZ 0)), (2, .ref h2), (1, .ref (a 0)), (0, .ref b)]) : W p l e room_1 s m #[Value.ref b] below meth c H locs 600000 7302250 (lw_Z below #[Value.ref b] s) (F0 m 187 ls []) := by
  obtain ⟨hx, hb, hr, hml, hown, hts, hX, hbl, hlocks, hgv⟩ := id C0
  have hbA : ¬ (fun q : Nat => s.heap.size ≤ q) b := Nat.not_le.mpr hbl
  have htsL : ∀ w ∈ wsL_law, w.before #[Value.ref b] s = true := fun w h => hts w (wsL_law_in w h)
  have f1 : isTo (Int.toNat (cV1 0 3)) := by rw [show cV1 0 3 = 15 by decide +kernel]; unfold isTo; omega
  have f2 : isTo (Int.toNat (cV1 0 4)) := by rw [show cV1 0 4 = 23 by decide +kernel]; unfold isTo; omega
  have f3 : cV1 (Int.toNat (cV1 0 3)) 7 = 0 := by decide +kernel
  have f4 : cV1 (Int.toNat (cV1 0 3)) 8 = 0 := by decide +kernel
  have f5 : 0 ≤ cV1 (Int.toNat (cV1 0 3)) 9 ∧ cV1 (Int.toNat (cV1 0 3)) 9 ≤ 6 := by decide +kernel
  have f5b : cV1 (Int.toNat (cV1 0 3)) 9 = 0 := by decide +kernel
  have g390 : cV1 39 0 = 0 := by decide +kernel
  have g391 : cV1 39 1 = 0 := by decide +kernel
  have g392 : cV1 39 2 = 0 := by decide +kernel
  have g01 : cV1 0 1 = 0 := by decide +kernel
  have g44 : cV1 4 4 = 0 := by decide +kernel
  have g311 : cV1 31 1 = 0 := by decide +kernel
  have g012 : cV1 0 12 = 0 := by decide +kernel
  have f6 : 0 ≤ cV1 39 0 ∧ cV1 39 0 ≤ 999 := by omega
  have f7 : 0 ≤ cV1 39 1 ∧ cV1 39 1 ≤ 5 := by omega
  have f8 : 0 ≤ cV1 39 2 ∧ cV1 39 2 ≤ 8 := by omega
  have f9 : 0 ≤ cV1 0 1 ∧ cV1 0 1 ≤ 120 := by omega
  have f10 : ¬ Int.toNat (cV1 0 4) = 0 := by decide +kernel
  have f11 := paI_0
  have f12 := paI_1
  have f13 := cf_im
  have f14 : ∀ k : Nat, k < 4 → 0 ≤ cV1 40 k ∧ cV1 40 k ≤ 20 := fun k hk => by rw [cf_fe k hk]; decide
  have hI0 := mI_0
  have m10 : mM0 1 0 = 0 := by decide +kernel
  have m20 : mM0 2 0 = 0 := by decide +kernel
  have m50 : mM0 5 0 = 0 := by decide +kernel
  have m90 : mM0 9 0 = 1 := by decide +kernel
  have m190 : mM0 19 0 = 0 := by decide +kernel
  have m191 : mM0 19 1 = 0 := by decide +kernel
  have m1912 : mM0 19 12 = 0 := by decide +kernel
  have m200 : mM0 20 0 = 0 := by decide +kernel
  have m280 : mM0 28 0 = 0 := by decide +kernel
  have m290 : mM0 29 0 = 0 := by decide +kernel
  have heq : ((cV1 0 1) : Int) = (mM0 1 0) := by rw [g01, m10]
  refine lv_aload_n hx hb dL_law_187 rfl (lv_at hl 2 rfl) ?_
  refine lq_cm (As := []) (rest := []) ⟨hx, hb, hml, hown, htsL⟩ hKc hP hNA hD hS (K_X7_clear l D C a bb cV1   (hD.weaken (fun _ _ _ _ => trivial))) (cwV 0 htsL gL_law_X7_clear rfl rfl rfl (by decide +kernel) ⟨Nat.le_of_ble_eq_true rfl, Nat.le_of_ble_eq_true rfl⟩) rfl rfl hl.1 (Nat.le_of_ble_eq_true rfl) ⟨Nat.le_of_ble_eq_true rfl, Nat.le_of_ble_eq_true rfl⟩ dL_law_188 (fun H locs hP9 hD9 hS9 hk9 => ?_)
  replace hPm : va_P D vwCl (mW C2 h2 a2 mM0) H := hPm.kept (fun k q hq => hk9 q.1 (hPm k q hq).lt (fun z => hdj _ z (mA_mem k q hq)))
  replace hS := hS9
  refine lv_aload_n hx hb dL_law_191 rfl (lv_at hl 1 rfl) ?_
  refine lq_mm (As := []) (rest := [.int (iZ (cV1 0 1))]) ⟨hx, hb, hml, hown, htsL⟩ hKm hPm hDm hS (mA_of hDm hjk) (C_clear l D C2 h2 a2 mM0   (hDm.weaken (fun _ _ _ _ => trivial))) (cwV 0 htsL gL_law_X8_clear rfl rfl rfl (by decide +kernel) ⟨Nat.le_of_ble_eq_true rfl, Nat.le_of_ble_eq_true rfl⟩) rfl rfl hl.1 (Nat.le_of_ble_eq_true rfl) ⟨Nat.le_of_ble_eq_true rfl, Nat.le_of_ble_eq_true rfl⟩ dL_law_192 (fun H locs _ _ hS9 _ => ?_)
  replace hS := hS9
  rw [heq]
  refine lv_icmp_eq (tgt := 1022) hx hb dL_law_195 (by decide) (fun _ => ?_) (fun z => absurd rfl z)
  exact p1_end (a := a) l C0 hL hS hl
set_option maxHeartbeats 4000000 in
set_option maxRecDepth 100000 in
theorem p1_case_2 {p : Program} {e : Env} {s : State} {m : MethodId} {below : List Frame} {meth : Method} {c : Code} (l : Launch) {b L : Nat} {xs : Nat → Int32} (C0 : lw_At p s m meth c b L xs) (hL : L = 6) {D : va_G} {C : cC} {C2 : mC} (hKc : va_K D vwCl (cT C) s) (hKm : va_K D vwCl (mT C2) s) {a a2 bb : Nat → Nat} {h2 : Nat} (hNA : cNA D C (fun q : Nat => s.heap.size ≤ q) bb s)
  {H : Heap} {locs : List Loc} (hP : va_P D vwCl (cW C a cV1) H) (hD : va_D (fun q : Nat => s.heap.size ≤ q) (cW C a cV1)) (hPm : va_P D vwCl (mW C2 h2 a2 mM0) H) (hDm : va_D (fun q : Nat => s.heap.size ≤ q) (mW C2 h2 a2 mM0)) (hjk : ∀ k : Nat, ∃ (j : Nat) (e : va_E), (mW C2 h2 a2 mM0)[j]? = some (a2 k, e)) (hdj : ∀ q, cA a q → ¬ mA h2 a2 q) (hS : va_S (fun q : Nat => s.heap.size ≤ q) s.heap H locs) {ls : Array Slot} (hl : lv_has ls 4 [(3, .int (iZ 0)), (2, .ref h2), (1, .ref (a 0)), (0, .ref b)]) : W p l e room_1 s m #[Value.ref b] below meth c H locs 600000 7302250 (lw_Z below #[Value.ref b] s) (F0 m 200 ls []) := by
  obtain ⟨hx, hb, hr, hml, hown, hts, hX, hbl, hlocks, hgv⟩ := id C0
  have hbA : ¬ (fun q : Nat => s.heap.size ≤ q) b := Nat.not_le.mpr hbl
  have htsL : ∀ w ∈ wsL_law, w.before #[Value.ref b] s = true := fun w h => hts w (wsL_law_in w h)
  have f1 : isTo (Int.toNat (cV1 0 3)) := by rw [show cV1 0 3 = 15 by decide +kernel]; unfold isTo; omega
  have f2 : isTo (Int.toNat (cV1 0 4)) := by rw [show cV1 0 4 = 23 by decide +kernel]; unfold isTo; omega
  have f3 : cV1 (Int.toNat (cV1 0 3)) 7 = 0 := by decide +kernel
  have f4 : cV1 (Int.toNat (cV1 0 3)) 8 = 0 := by decide +kernel
  have f5 : 0 ≤ cV1 (Int.toNat (cV1 0 3)) 9 ∧ cV1 (Int.toNat (cV1 0 3)) 9 ≤ 6 := by decide +kernel
  have f5b : cV1 (Int.toNat (cV1 0 3)) 9 = 0 := by decide +kernel
  have g390 : cV1 39 0 = 0 := by decide +kernel
  have g391 : cV1 39 1 = 0 := by decide +kernel
  have g392 : cV1 39 2 = 0 := by decide +kernel
  have g01 : cV1 0 1 = 0 := by decide +kernel
  have g44 : cV1 4 4 = 0 := by decide +kernel
  have g311 : cV1 31 1 = 0 := by decide +kernel
  have g012 : cV1 0 12 = 0 := by decide +kernel
  have f6 : 0 ≤ cV1 39 0 ∧ cV1 39 0 ≤ 999 := by omega
  have f7 : 0 ≤ cV1 39 1 ∧ cV1 39 1 ≤ 5 := by omega
  have f8 : 0 ≤ cV1 39 2 ∧ cV1 39 2 ≤ 8 := by omega
  have f9 : 0 ≤ cV1 0 1 ∧ cV1 0 1 ≤ 120 := by omega
  have f10 : ¬ Int.toNat (cV1 0 4) = 0 := by decide +kernel
  have f11 := paI_0
  have f12 := paI_1
  have f13 := cf_im
  have f14 : ∀ k : Nat, k < 4 → 0 ≤ cV1 40 k ∧ cV1 40 k ≤ 20 := fun k hk => by rw [cf_fe k hk]; decide
  have hI0 := mI_0
  have m10 : mM0 1 0 = 0 := by decide +kernel
  have m20 : mM0 2 0 = 0 := by decide +kernel
  have m50 : mM0 5 0 = 0 := by decide +kernel
  have m90 : mM0 9 0 = 1 := by decide +kernel
  have m190 : mM0 19 0 = 0 := by decide +kernel
  have m191 : mM0 19 1 = 0 := by decide +kernel
  have m1912 : mM0 19 12 = 0 := by decide +kernel
  have m200 : mM0 20 0 = 0 := by decide +kernel
  have m280 : mM0 28 0 = 0 := by decide +kernel
  have m290 : mM0 29 0 = 0 := by decide +kernel
  have u16 : f_read mM0 16 0 = 0 := by decide +kernel
  have u17 : f_read mM0 17 0 = 0 := by decide +kernel
  have u51 : f_read mM0 5 1 = 0 := by decide +kernel
  have uT : 0 ≤ mM0 1 0 ∧ mM0 1 0 ≤ 120 := by omega
  have u16b : f_read mM0 16 0 = 0 ∨ f_read mM0 16 0 = 1 := Or.inl u16
  have usy : ∀ _ : Unit, f_read mM0 16 0 = 0 → (0 ≤ f_read mM0 5 1 ∧ f_read mM0 5 1 ≤ 6) ∧ ∀ k : Nat, (k : Int) < f_read mM0 5 1 → 0 ≤ f_read mM0 8 (6 + k) ∧ f_read mM0 8 (6 + k) ≤ 30 := fun _ _ => ⟨by rw [u51]; decide, fun k hk => absurd hk (by rw [u51]; omega)⟩
  have heq : ((0) : Int) = (if f_read mM0 16 0 = 0 then f_read mM0 17 0 else -10 - f_read mM0 13 0) := by rw [if_pos u16, u17]
  refine lv_aload_n hx hb dL_law_200 rfl (lv_at hl 2 rfl) ?_
  refine lq_cT (As := []) (rest := []) ⟨hx, hb, hml, hown, htsL⟩ hKc hP hNA hD hS (K_X7_uplands_0 l D C a bb cV1  (by first | assumption | exact trivial) (by first | assumption | exact trivial) (by first | assumption | exact trivial) (by first | assumption | exact trivial) (hD.weaken (fun _ _ _ _ => trivial))) (cwV 0 htsL gL_law_X7_uplands rfl rfl rfl (by decide +kernel) ⟨Nat.le_of_ble_eq_true rfl, Nat.le_of_ble_eq_true rfl⟩) rfl rfl hl.1 (Nat.le_of_ble_eq_true rfl) ⟨Nat.le_of_ble_eq_true rfl, Nat.le_of_ble_eq_true rfl⟩ dL_law_201 (fun H locs hS9 hk9 => ?_)
  replace hPm : va_P D vwCl (mW C2 h2 a2 mM0) H := hPm.kept (fun k q hq => hk9 q.1 (hPm k q hq).lt (fun z => hdj _ z (mA_mem k q hq)))
  replace hS := hS9
  refine lv_aload_n hx hb dL_law_204 rfl (lv_at hl 1 rfl) ?_
  refine lq_mm (As := []) (rest := [.int (iZ (0))]) ⟨hx, hb, hml, hown, htsL⟩ hKm hPm hDm hS (mA_of hDm hjk) (C_uplands l D C2 h2 a2 mM0  (by first | assumption | exact trivial) (by first | assumption | exact trivial) (by first | assumption | exact trivial) (hDm.weaken (fun _ _ _ _ => trivial))) (cwV 0 htsL gL_law_X8_uplands rfl rfl rfl (by decide +kernel) ⟨Nat.le_of_ble_eq_true rfl, Nat.le_of_ble_eq_true rfl⟩) rfl rfl hl.1 (Nat.le_of_ble_eq_true rfl) ⟨Nat.le_of_ble_eq_true rfl, Nat.le_of_ble_eq_true rfl⟩ dL_law_205 (fun H locs _ _ hS9 _ => ?_)
  replace hS := hS9
  rw [heq]
  refine lv_icmp_eq (tgt := 1022) hx hb dL_law_208 (by decide) (fun _ => ?_) (fun z => absurd rfl z)
  exact p1_end (a := a) l C0 hL hS hl
set_option maxHeartbeats 4000000 in
set_option maxRecDepth 100000 in
theorem p1_case_3 {p : Program} {e : Env} {s : State} {m : MethodId} {below : List Frame} {meth : Method} {c : Code} (l : Launch) {b L : Nat} {xs : Nat → Int32} (C0 : lw_At p s m meth c b L xs) (hL : L = 6) {D : va_G} {C : cC} {C2 : mC} (hKc : va_K D vwCl (cT C) s) (hKm : va_K D vwCl (mT C2) s) {a a2 bb : Nat → Nat} {h2 : Nat} (hNA : cNA D C (fun q : Nat => s.heap.size ≤ q) bb s)
  {H : Heap} {locs : List Loc} (hP : va_P D vwCl (cW C a cV1) H) (hD : va_D (fun q : Nat => s.heap.size ≤ q) (cW C a cV1)) (hPm : va_P D vwCl (mW C2 h2 a2 mM0) H) (hDm : va_D (fun q : Nat => s.heap.size ≤ q) (mW C2 h2 a2 mM0)) (hjk : ∀ k : Nat, ∃ (j : Nat) (e : va_E), (mW C2 h2 a2 mM0)[j]? = some (a2 k, e)) (hdj : ∀ q, cA a q → ¬ mA h2 a2 q) (hS : va_S (fun q : Nat => s.heap.size ≤ q) s.heap H locs) {ls : Array Slot} (hl : lv_has ls 4 [(3, .int (iZ 0)), (2, .ref h2), (1, .ref (a 0)), (0, .ref b)]) : W p l e room_1 s m #[Value.ref b] below meth c H locs 600000 7302250 (lw_Z below #[Value.ref b] s) (F0 m 213 ls []) := by
  obtain ⟨hx, hb, hr, hml, hown, hts, hX, hbl, hlocks, hgv⟩ := id C0
  have hbA : ¬ (fun q : Nat => s.heap.size ≤ q) b := Nat.not_le.mpr hbl
  have htsL : ∀ w ∈ wsL_law, w.before #[Value.ref b] s = true := fun w h => hts w (wsL_law_in w h)
  obtain ⟨x1, hz1, e1⟩ := iZ_of (xs 1)
  obtain ⟨x2, hz2, e2⟩ := iZ_of (xs 2)
  have f1 : isTo (Int.toNat (cV1 0 3)) := by rw [show cV1 0 3 = 15 by decide +kernel]; unfold isTo; omega
  have f2 : isTo (Int.toNat (cV1 0 4)) := by rw [show cV1 0 4 = 23 by decide +kernel]; unfold isTo; omega
  have f3 : cV1 (Int.toNat (cV1 0 3)) 7 = 0 := by decide +kernel
  have f4 : cV1 (Int.toNat (cV1 0 3)) 8 = 0 := by decide +kernel
  have f5 : 0 ≤ cV1 (Int.toNat (cV1 0 3)) 9 ∧ cV1 (Int.toNat (cV1 0 3)) 9 ≤ 6 := by decide +kernel
  have f5b : cV1 (Int.toNat (cV1 0 3)) 9 = 0 := by decide +kernel
  have g390 : cV1 39 0 = 0 := by decide +kernel
  have g391 : cV1 39 1 = 0 := by decide +kernel
  have g392 : cV1 39 2 = 0 := by decide +kernel
  have g01 : cV1 0 1 = 0 := by decide +kernel
  have g44 : cV1 4 4 = 0 := by decide +kernel
  have g311 : cV1 31 1 = 0 := by decide +kernel
  have g012 : cV1 0 12 = 0 := by decide +kernel
  have f6 : 0 ≤ cV1 39 0 ∧ cV1 39 0 ≤ 999 := by omega
  have f7 : 0 ≤ cV1 39 1 ∧ cV1 39 1 ≤ 5 := by omega
  have f8 : 0 ≤ cV1 39 2 ∧ cV1 39 2 ≤ 8 := by omega
  have f9 : 0 ≤ cV1 0 1 ∧ cV1 0 1 ≤ 120 := by omega
  have f10 : ¬ Int.toNat (cV1 0 4) = 0 := by decide +kernel
  have f11 := paI_0
  have f12 := paI_1
  have f13 := cf_im
  have f14 : ∀ k : Nat, k < 4 → 0 ≤ cV1 40 k ∧ cV1 40 k ≤ 20 := fun k hk => by rw [cf_fe k hk]; decide
  have hI0 := mI_0
  have m10 : mM0 1 0 = 0 := by decide +kernel
  have m20 : mM0 2 0 = 0 := by decide +kernel
  have m50 : mM0 5 0 = 0 := by decide +kernel
  have m90 : mM0 9 0 = 1 := by decide +kernel
  have m190 : mM0 19 0 = 0 := by decide +kernel
  have m191 : mM0 19 1 = 0 := by decide +kernel
  have m1912 : mM0 19 12 = 0 := by decide +kernel
  have m200 : mM0 20 0 = 0 := by decide +kernel
  have m280 : mM0 28 0 = 0 := by decide +kernel
  have m290 : mM0 29 0 = 0 := by decide +kernel
  have heq : ((-1) : Int) = (s_one mM0 x1 x2) := by unfold s_one; rw [m20, if_pos (by omega)]
  refine lv_aload_n hx hb dL_law_213 rfl (lv_at hl 2 rfl) ?_
  refine lv_aload_n hx hb dL_law_214 rfl (lv_at hl 3 rfl) ?_
  refine lv_iload_n hx hb dL_law_215 rfl (lv_at hl 0 rfl) ?_
  refine lv_iconst (v := iZ 1) hx hb dL_law_216 (by decide) ?_
  refine z_iadd (x := 0) (y := 1) hx hb dL_law_217 ?_
  refine lq_ld hx hb hX hbl hbA hS 1 (by omega) (by omega) e1 (by decide) dL_law_218 ?_
  refine lv_aload_n hx hb dL_law_219 rfl (lv_at hl 3 rfl) ?_
  refine lv_iload_n hx hb dL_law_220 rfl (lv_at hl 0 rfl) ?_
  refine lv_iconst (v := iZ 2) hx hb dL_law_221 (by decide) ?_
  refine z_iadd (x := 0) (y := 2) hx hb dL_law_222 ?_
  refine lq_ld hx hb hX hbl hbA hS 2 (by omega) (by omega) e2 (by decide) dL_law_223 ?_
  refine lq_ci (As := [.int (iZ x1), .int (iZ x2)]) (rest := []) ⟨hx, hb, hml, hown, htsL⟩ hKc hP hNA hD hS (K_X7_one_0 l D C a bb cV1 x1 x2 (by first | assumption | exact trivial) (by first | assumption | exact trivial) (by first | assumption | exact trivial) ) (cwV 2 htsL gL_law_X7_one rfl rfl rfl (by decide +kernel) ⟨Nat.le_of_ble_eq_true rfl, Nat.le_of_ble_eq_true rfl⟩) rfl rfl hl.1 (Nat.le_of_ble_eq_true rfl) ⟨Nat.le_of_ble_eq_true rfl, Nat.le_of_ble_eq_true rfl⟩ dL_law_224 ?_
  refine lv_aload_n hx hb dL_law_227 rfl (lv_at hl 1 rfl) ?_
  refine lv_aload_n hx hb dL_law_228 rfl (lv_at hl 3 rfl) ?_
  refine lv_iload_n hx hb dL_law_229 rfl (lv_at hl 0 rfl) ?_
  refine lv_iconst (v := iZ 1) hx hb dL_law_230 (by decide) ?_
  refine z_iadd (x := 0) (y := 1) hx hb dL_law_231 ?_
  refine lq_ld hx hb hX hbl hbA hS 1 (by omega) (by omega) e1 (by decide) dL_law_232 ?_
  refine lv_aload_n hx hb dL_law_233 rfl (lv_at hl 3 rfl) ?_
  refine lv_iload_n hx hb dL_law_234 rfl (lv_at hl 0 rfl) ?_
  refine lv_iconst (v := iZ 2) hx hb dL_law_235 (by decide) ?_
  refine z_iadd (x := 0) (y := 2) hx hb dL_law_236 ?_
  refine lq_ld hx hb hX hbl hbA hS 2 (by omega) (by omega) e2 (by decide) dL_law_237 ?_
  refine lq_mi (As := [.int (iZ x1), .int (iZ x2)]) (rest := [.int (iZ (-1))]) ⟨hx, hb, hml, hown, htsL⟩ hKm hPm (C_one l D C2 h2 a2 mM0 x1 x2 (by first | assumption | exact trivial) (by first | assumption | exact trivial) (by first | assumption | exact trivial) ) (cwV 2 htsL gL_law_X8_one rfl rfl rfl (by decide +kernel) ⟨Nat.le_of_ble_eq_true rfl, Nat.le_of_ble_eq_true rfl⟩) rfl rfl hl.1 (Nat.le_of_ble_eq_true rfl) ⟨Nat.le_of_ble_eq_true rfl, Nat.le_of_ble_eq_true rfl⟩ dL_law_238 ?_
  rw [heq]
  refine lv_icmp_eq (tgt := 1022) hx hb dL_law_241 (by decide) (fun _ => ?_) (fun z => absurd rfl z)
  exact p1_end (a := a) l C0 hL hS hl
set_option maxHeartbeats 4000000 in
set_option maxRecDepth 100000 in
theorem p1_case_4 {p : Program} {e : Env} {s : State} {m : MethodId} {below : List Frame} {meth : Method} {c : Code} (l : Launch) {b L : Nat} {xs : Nat → Int32} (C0 : lw_At p s m meth c b L xs) (hL : L = 6) {D : va_G} {C : cC} {C2 : mC} (hKc : va_K D vwCl (cT C) s) (hKm : va_K D vwCl (mT C2) s) {a a2 bb : Nat → Nat} {h2 : Nat} (hNA : cNA D C (fun q : Nat => s.heap.size ≤ q) bb s)
  {H : Heap} {locs : List Loc} (hP : va_P D vwCl (cW C a cV1) H) (hD : va_D (fun q : Nat => s.heap.size ≤ q) (cW C a cV1)) (hPm : va_P D vwCl (mW C2 h2 a2 mM0) H) (hDm : va_D (fun q : Nat => s.heap.size ≤ q) (mW C2 h2 a2 mM0)) (hjk : ∀ k : Nat, ∃ (j : Nat) (e : va_E), (mW C2 h2 a2 mM0)[j]? = some (a2 k, e)) (hdj : ∀ q, cA a q → ¬ mA h2 a2 q) (hS : va_S (fun q : Nat => s.heap.size ≤ q) s.heap H locs) {ls : Array Slot} (hl : lv_has ls 4 [(3, .int (iZ 0)), (2, .ref h2), (1, .ref (a 0)), (0, .ref b)]) : W p l e room_1 s m #[Value.ref b] below meth c H locs 600000 7302250 (lw_Z below #[Value.ref b] s) (F0 m 246 ls []) := by
  obtain ⟨hx, hb, hr, hml, hown, hts, hX, hbl, hlocks, hgv⟩ := id C0
  have hbA : ¬ (fun q : Nat => s.heap.size ≤ q) b := Nat.not_le.mpr hbl
  have htsL : ∀ w ∈ wsL_law, w.before #[Value.ref b] s = true := fun w h => hts w (wsL_law_in w h)
  obtain ⟨x1, hz1, e1⟩ := iZ_of (xs 1)
  obtain ⟨x2, hz2, e2⟩ := iZ_of (xs 2)
  have f1 : isTo (Int.toNat (cV1 0 3)) := by rw [show cV1 0 3 = 15 by decide +kernel]; unfold isTo; omega
  have f2 : isTo (Int.toNat (cV1 0 4)) := by rw [show cV1 0 4 = 23 by decide +kernel]; unfold isTo; omega
  have f3 : cV1 (Int.toNat (cV1 0 3)) 7 = 0 := by decide +kernel
  have f4 : cV1 (Int.toNat (cV1 0 3)) 8 = 0 := by decide +kernel
  have f5 : 0 ≤ cV1 (Int.toNat (cV1 0 3)) 9 ∧ cV1 (Int.toNat (cV1 0 3)) 9 ≤ 6 := by decide +kernel
  have f5b : cV1 (Int.toNat (cV1 0 3)) 9 = 0 := by decide +kernel
  have g390 : cV1 39 0 = 0 := by decide +kernel
  have g391 : cV1 39 1 = 0 := by decide +kernel
  have g392 : cV1 39 2 = 0 := by decide +kernel
  have g01 : cV1 0 1 = 0 := by decide +kernel
  have g44 : cV1 4 4 = 0 := by decide +kernel
  have g311 : cV1 31 1 = 0 := by decide +kernel
  have g012 : cV1 0 12 = 0 := by decide +kernel
  have f6 : 0 ≤ cV1 39 0 ∧ cV1 39 0 ≤ 999 := by omega
  have f7 : 0 ≤ cV1 39 1 ∧ cV1 39 1 ≤ 5 := by omega
  have f8 : 0 ≤ cV1 39 2 ∧ cV1 39 2 ≤ 8 := by omega
  have f9 : 0 ≤ cV1 0 1 ∧ cV1 0 1 ≤ 120 := by omega
  have f10 : ¬ Int.toNat (cV1 0 4) = 0 := by decide +kernel
  have f11 := paI_0
  have f12 := paI_1
  have f13 := cf_im
  have f14 : ∀ k : Nat, k < 4 → 0 ≤ cV1 40 k ∧ cV1 40 k ≤ 20 := fun k hk => by rw [cf_fe k hk]; decide
  have hI0 := mI_0
  have m10 : mM0 1 0 = 0 := by decide +kernel
  have m20 : mM0 2 0 = 0 := by decide +kernel
  have m50 : mM0 5 0 = 0 := by decide +kernel
  have m90 : mM0 9 0 = 1 := by decide +kernel
  have m190 : mM0 19 0 = 0 := by decide +kernel
  have m191 : mM0 19 1 = 0 := by decide +kernel
  have m1912 : mM0 19 12 = 0 := by decide +kernel
  have m200 : mM0 20 0 = 0 := by decide +kernel
  have m280 : mM0 28 0 = 0 := by decide +kernel
  have m290 : mM0 29 0 = 0 := by decide +kernel
  have heq : ((-1) : Int) = (s_saying mM0 x1 x2) := by unfold s_saying; rw [m50, if_pos (by omega)]
  refine lv_aload_n hx hb dL_law_246 rfl (lv_at hl 2 rfl) ?_
  refine lv_aload_n hx hb dL_law_247 rfl (lv_at hl 3 rfl) ?_
  refine lv_iload_n hx hb dL_law_248 rfl (lv_at hl 0 rfl) ?_
  refine lv_iconst (v := iZ 1) hx hb dL_law_249 (by decide) ?_
  refine z_iadd (x := 0) (y := 1) hx hb dL_law_250 ?_
  refine lq_ld hx hb hX hbl hbA hS 1 (by omega) (by omega) e1 (by decide) dL_law_251 ?_
  refine lv_aload_n hx hb dL_law_252 rfl (lv_at hl 3 rfl) ?_
  refine lv_iload_n hx hb dL_law_253 rfl (lv_at hl 0 rfl) ?_
  refine lv_iconst (v := iZ 2) hx hb dL_law_254 (by decide) ?_
  refine z_iadd (x := 0) (y := 2) hx hb dL_law_255 ?_
  refine lq_ld hx hb hX hbl hbA hS 2 (by omega) (by omega) e2 (by decide) dL_law_256 ?_
  refine lq_ci (As := [.int (iZ x1), .int (iZ x2)]) (rest := []) ⟨hx, hb, hml, hown, htsL⟩ hKc hP hNA hD hS (K_X7_saying_0 l D C a bb cV1 x1 x2 (by first | assumption | exact trivial) (by first | assumption | exact trivial) (by first | assumption | exact trivial) ) (cwV 2 htsL gL_law_X7_saying rfl rfl rfl (by decide +kernel) ⟨Nat.le_of_ble_eq_true rfl, Nat.le_of_ble_eq_true rfl⟩) rfl rfl hl.1 (Nat.le_of_ble_eq_true rfl) ⟨Nat.le_of_ble_eq_true rfl, Nat.le_of_ble_eq_true rfl⟩ dL_law_257 ?_
  refine lv_aload_n hx hb dL_law_260 rfl (lv_at hl 1 rfl) ?_
  refine lv_aload_n hx hb dL_law_261 rfl (lv_at hl 3 rfl) ?_
  refine lv_iload_n hx hb dL_law_262 rfl (lv_at hl 0 rfl) ?_
  refine lv_iconst (v := iZ 1) hx hb dL_law_263 (by decide) ?_
  refine z_iadd (x := 0) (y := 1) hx hb dL_law_264 ?_
  refine lq_ld hx hb hX hbl hbA hS 1 (by omega) (by omega) e1 (by decide) dL_law_265 ?_
  refine lv_aload_n hx hb dL_law_266 rfl (lv_at hl 3 rfl) ?_
  refine lv_iload_n hx hb dL_law_267 rfl (lv_at hl 0 rfl) ?_
  refine lv_iconst (v := iZ 2) hx hb dL_law_268 (by decide) ?_
  refine z_iadd (x := 0) (y := 2) hx hb dL_law_269 ?_
  refine lq_ld hx hb hX hbl hbA hS 2 (by omega) (by omega) e2 (by decide) dL_law_270 ?_
  refine lq_mi (As := [.int (iZ x1), .int (iZ x2)]) (rest := [.int (iZ (-1))]) ⟨hx, hb, hml, hown, htsL⟩ hKm hPm (C_saying l D C2 h2 a2 mM0 x1 x2 (by first | assumption | exact trivial) (by first | assumption | exact trivial) (by first | assumption | exact trivial) ) (cwV 2 htsL gL_law_X8_saying rfl rfl rfl (by decide +kernel) ⟨Nat.le_of_ble_eq_true rfl, Nat.le_of_ble_eq_true rfl⟩) rfl rfl hl.1 (Nat.le_of_ble_eq_true rfl) ⟨Nat.le_of_ble_eq_true rfl, Nat.le_of_ble_eq_true rfl⟩ dL_law_271 ?_
  rw [heq]
  refine lv_icmp_eq (tgt := 1022) hx hb dL_law_274 (by decide) (fun _ => ?_) (fun z => absurd rfl z)
  exact p1_end (a := a) l C0 hL hS hl
set_option maxHeartbeats 4000000 in
set_option maxRecDepth 100000 in
theorem p1_case_5 {p : Program} {e : Env} {s : State} {m : MethodId} {below : List Frame} {meth : Method} {c : Code} (l : Launch) {b L : Nat} {xs : Nat → Int32} (C0 : lw_At p s m meth c b L xs) (hL : L = 6) {D : va_G} {C : cC} {C2 : mC} (hKc : va_K D vwCl (cT C) s) (hKm : va_K D vwCl (mT C2) s) {a a2 bb : Nat → Nat} {h2 : Nat} (hNA : cNA D C (fun q : Nat => s.heap.size ≤ q) bb s)
  {H : Heap} {locs : List Loc} (hP : va_P D vwCl (cW C a cV1) H) (hD : va_D (fun q : Nat => s.heap.size ≤ q) (cW C a cV1)) (hPm : va_P D vwCl (mW C2 h2 a2 mM0) H) (hDm : va_D (fun q : Nat => s.heap.size ≤ q) (mW C2 h2 a2 mM0)) (hjk : ∀ k : Nat, ∃ (j : Nat) (e : va_E), (mW C2 h2 a2 mM0)[j]? = some (a2 k, e)) (hdj : ∀ q, cA a q → ¬ mA h2 a2 q) (hS : va_S (fun q : Nat => s.heap.size ≤ q) s.heap H locs) {ls : Array Slot} (hl : lv_has ls 4 [(3, .int (iZ 0)), (2, .ref h2), (1, .ref (a 0)), (0, .ref b)]) : W p l e room_1 s m #[Value.ref b] below meth c H locs 600000 7302250 (lw_Z below #[Value.ref b] s) (F0 m 279 ls []) := by
  obtain ⟨hx, hb, hr, hml, hown, hts, hX, hbl, hlocks, hgv⟩ := id C0
  have hbA : ¬ (fun q : Nat => s.heap.size ≤ q) b := Nat.not_le.mpr hbl
  have htsL : ∀ w ∈ wsL_law, w.before #[Value.ref b] s = true := fun w h => hts w (wsL_law_in w h)
  obtain ⟨x1, hz1, e1⟩ := iZ_of (xs 1)
  have f1 : isTo (Int.toNat (cV1 0 3)) := by rw [show cV1 0 3 = 15 by decide +kernel]; unfold isTo; omega
  have f2 : isTo (Int.toNat (cV1 0 4)) := by rw [show cV1 0 4 = 23 by decide +kernel]; unfold isTo; omega
  have f3 : cV1 (Int.toNat (cV1 0 3)) 7 = 0 := by decide +kernel
  have f4 : cV1 (Int.toNat (cV1 0 3)) 8 = 0 := by decide +kernel
  have f5 : 0 ≤ cV1 (Int.toNat (cV1 0 3)) 9 ∧ cV1 (Int.toNat (cV1 0 3)) 9 ≤ 6 := by decide +kernel
  have f5b : cV1 (Int.toNat (cV1 0 3)) 9 = 0 := by decide +kernel
  have g390 : cV1 39 0 = 0 := by decide +kernel
  have g391 : cV1 39 1 = 0 := by decide +kernel
  have g392 : cV1 39 2 = 0 := by decide +kernel
  have g01 : cV1 0 1 = 0 := by decide +kernel
  have g44 : cV1 4 4 = 0 := by decide +kernel
  have g311 : cV1 31 1 = 0 := by decide +kernel
  have g012 : cV1 0 12 = 0 := by decide +kernel
  have f6 : 0 ≤ cV1 39 0 ∧ cV1 39 0 ≤ 999 := by omega
  have f7 : 0 ≤ cV1 39 1 ∧ cV1 39 1 ≤ 5 := by omega
  have f8 : 0 ≤ cV1 39 2 ∧ cV1 39 2 ≤ 8 := by omega
  have f9 : 0 ≤ cV1 0 1 ∧ cV1 0 1 ≤ 120 := by omega
  have f10 : ¬ Int.toNat (cV1 0 4) = 0 := by decide +kernel
  have f11 := paI_0
  have f12 := paI_1
  have f13 := cf_im
  have f14 : ∀ k : Nat, k < 4 → 0 ≤ cV1 40 k ∧ cV1 40 k ≤ 20 := fun k hk => by rw [cf_fe k hk]; decide
  have hI0 := mI_0
  have m10 : mM0 1 0 = 0 := by decide +kernel
  have m20 : mM0 2 0 = 0 := by decide +kernel
  have m50 : mM0 5 0 = 0 := by decide +kernel
  have m90 : mM0 9 0 = 1 := by decide +kernel
  have m190 : mM0 19 0 = 0 := by decide +kernel
  have m191 : mM0 19 1 = 0 := by decide +kernel
  have m1912 : mM0 19 12 = 0 := by decide +kernel
  have m200 : mM0 20 0 = 0 := by decide +kernel
  have m280 : mM0 28 0 = 0 := by decide +kernel
  have m290 : mM0 29 0 = 0 := by decide +kernel
  have heq : ((if (0 ≤ x1 ∧ x1 ≤ 99) then cV1 ((Int.toNat (cV1 0 3)) + 6) (Int.toNat ((cV1 39 0 + x1) % (if 1 < cV1 (Int.toNat (cV1 0 3)) 9 then cV1 (Int.toNat (cV1 0 3)) 9 else 1))) else -1000000) : Int) = (if (0 ≤ x1 ∧ x1 ≤ 99) then s_wind mM0 x1 else -1000000) := by have q1 : ∀ x : Int, x % 1 = 0 := fun x => (by omega); have q2 : s_wind mM0 x1 = mM0 10 (Int.toNat 0) := (by unfold s_wind; rfl); have q3 : cV1 (Int.toNat (cV1 0 3) + 6) (Int.toNat 0) = 0 := (by decide +kernel); have q4 : mM0 10 (Int.toNat 0) = 0 := (by decide +kernel); rw [q2, if_neg (show ¬ (1 < cV1 (Int.toNat (cV1 0 3)) 9) by omega), q1, q3, q4]
  refine lv_aload_n hx hb dL_law_279 rfl (lv_at hl 2 rfl) ?_
  refine lv_aload_n hx hb dL_law_280 rfl (lv_at hl 3 rfl) ?_
  refine lv_iload_n hx hb dL_law_281 rfl (lv_at hl 0 rfl) ?_
  refine lv_iconst (v := iZ 1) hx hb dL_law_282 (by decide) ?_
  refine z_iadd (x := 0) (y := 1) hx hb dL_law_283 ?_
  refine lq_ld hx hb hX hbl hbA hS 1 (by omega) (by omega) e1 (by decide) dL_law_284 ?_
  refine lq_ci (As := [.int (iZ x1)]) (rest := []) ⟨hx, hb, hml, hown, htsL⟩ hKc hP hNA hD hS (K_X7_wind l D C a bb cV1 x1 (by first | assumption | exact trivial) (by first | assumption | exact trivial) (by first | assumption | exact trivial) (by first | assumption | exact trivial) ) (cwV 1 htsL gL_law_X7_wind rfl rfl rfl (by decide +kernel) ⟨Nat.le_of_ble_eq_true rfl, Nat.le_of_ble_eq_true rfl⟩) rfl rfl hl.1 (Nat.le_of_ble_eq_true rfl) ⟨Nat.le_of_ble_eq_true rfl, Nat.le_of_ble_eq_true rfl⟩ dL_law_285 ?_
  refine lv_aload_n hx hb dL_law_288 rfl (lv_at hl 1 rfl) ?_
  refine lv_aload_n hx hb dL_law_289 rfl (lv_at hl 3 rfl) ?_
  refine lv_iload_n hx hb dL_law_290 rfl (lv_at hl 0 rfl) ?_
  refine lv_iconst (v := iZ 1) hx hb dL_law_291 (by decide) ?_
  refine z_iadd (x := 0) (y := 1) hx hb dL_law_292 ?_
  refine lq_ld hx hb hX hbl hbA hS 1 (by omega) (by omega) e1 (by decide) dL_law_293 ?_
  refine lq_mi (As := [.int (iZ x1)]) (rest := [.int (iZ (if (0 ≤ x1 ∧ x1 ≤ 99) then cV1 ((Int.toNat (cV1 0 3)) + 6) (Int.toNat ((cV1 39 0 + x1) % (if 1 < cV1 (Int.toNat (cV1 0 3)) 9 then cV1 (Int.toNat (cV1 0 3)) 9 else 1))) else -1000000))]) ⟨hx, hb, hml, hown, htsL⟩ hKm hPm (C_wind l D C2 h2 a2 mM0 x1 (by first | assumption | exact trivial) (by first | assumption | exact trivial) ) (cwV 1 htsL gL_law_X8_wind rfl rfl rfl (by decide +kernel) ⟨Nat.le_of_ble_eq_true rfl, Nat.le_of_ble_eq_true rfl⟩) rfl rfl hl.1 (Nat.le_of_ble_eq_true rfl) ⟨Nat.le_of_ble_eq_true rfl, Nat.le_of_ble_eq_true rfl⟩ dL_law_294 ?_
  rw [heq]
  refine lv_icmp_eq (tgt := 1022) hx hb dL_law_297 (by decide) (fun _ => ?_) (fun z => absurd rfl z)
  exact p1_end (a := a) l C0 hL hS hl
set_option maxHeartbeats 4000000 in
set_option maxRecDepth 100000 in
theorem p1_case_6 {p : Program} {e : Env} {s : State} {m : MethodId} {below : List Frame} {meth : Method} {c : Code} (l : Launch) {b L : Nat} {xs : Nat → Int32} (C0 : lw_At p s m meth c b L xs) (hL : L = 6) {D : va_G} {C : cC} {C2 : mC} (hKc : va_K D vwCl (cT C) s) (hKm : va_K D vwCl (mT C2) s) {a a2 bb : Nat → Nat} {h2 : Nat} (hNA : cNA D C (fun q : Nat => s.heap.size ≤ q) bb s)
  {H : Heap} {locs : List Loc} (hP : va_P D vwCl (cW C a cV1) H) (hD : va_D (fun q : Nat => s.heap.size ≤ q) (cW C a cV1)) (hPm : va_P D vwCl (mW C2 h2 a2 mM0) H) (hDm : va_D (fun q : Nat => s.heap.size ≤ q) (mW C2 h2 a2 mM0)) (hjk : ∀ k : Nat, ∃ (j : Nat) (e : va_E), (mW C2 h2 a2 mM0)[j]? = some (a2 k, e)) (hdj : ∀ q, cA a q → ¬ mA h2 a2 q) (hS : va_S (fun q : Nat => s.heap.size ≤ q) s.heap H locs) {ls : Array Slot} (hl : lv_has ls 4 [(3, .int (iZ 0)), (2, .ref h2), (1, .ref (a 0)), (0, .ref b)]) : W p l e room_1 s m #[Value.ref b] below meth c H locs 600000 7302250 (lw_Z below #[Value.ref b] s) (F0 m 302 ls []) := by
  obtain ⟨hx, hb, hr, hml, hown, hts, hX, hbl, hlocks, hgv⟩ := id C0
  have hbA : ¬ (fun q : Nat => s.heap.size ≤ q) b := Nat.not_le.mpr hbl
  have htsL : ∀ w ∈ wsL_law, w.before #[Value.ref b] s = true := fun w h => hts w (wsL_law_in w h)
  obtain ⟨x1, hz1, e1⟩ := iZ_of (xs 1)
  obtain ⟨x2, hz2, e2⟩ := iZ_of (xs 2)
  have f1 : isTo (Int.toNat (cV1 0 3)) := by rw [show cV1 0 3 = 15 by decide +kernel]; unfold isTo; omega
  have f2 : isTo (Int.toNat (cV1 0 4)) := by rw [show cV1 0 4 = 23 by decide +kernel]; unfold isTo; omega
  have f3 : cV1 (Int.toNat (cV1 0 3)) 7 = 0 := by decide +kernel
  have f4 : cV1 (Int.toNat (cV1 0 3)) 8 = 0 := by decide +kernel
  have f5 : 0 ≤ cV1 (Int.toNat (cV1 0 3)) 9 ∧ cV1 (Int.toNat (cV1 0 3)) 9 ≤ 6 := by decide +kernel
  have f5b : cV1 (Int.toNat (cV1 0 3)) 9 = 0 := by decide +kernel
  have g390 : cV1 39 0 = 0 := by decide +kernel
  have g391 : cV1 39 1 = 0 := by decide +kernel
  have g392 : cV1 39 2 = 0 := by decide +kernel
  have g01 : cV1 0 1 = 0 := by decide +kernel
  have g44 : cV1 4 4 = 0 := by decide +kernel
  have g311 : cV1 31 1 = 0 := by decide +kernel
  have g012 : cV1 0 12 = 0 := by decide +kernel
  have f6 : 0 ≤ cV1 39 0 ∧ cV1 39 0 ≤ 999 := by omega
  have f7 : 0 ≤ cV1 39 1 ∧ cV1 39 1 ≤ 5 := by omega
  have f8 : 0 ≤ cV1 39 2 ∧ cV1 39 2 ≤ 8 := by omega
  have f9 : 0 ≤ cV1 0 1 ∧ cV1 0 1 ≤ 120 := by omega
  have f10 : ¬ Int.toNat (cV1 0 4) = 0 := by decide +kernel
  have f11 := paI_0
  have f12 := paI_1
  have f13 := cf_im
  have f14 : ∀ k : Nat, k < 4 → 0 ≤ cV1 40 k ∧ cV1 40 k ≤ 20 := fun k hk => by rw [cf_fe k hk]; decide
  have hI0 := mI_0
  have m10 : mM0 1 0 = 0 := by decide +kernel
  have m20 : mM0 2 0 = 0 := by decide +kernel
  have m50 : mM0 5 0 = 0 := by decide +kernel
  have m90 : mM0 9 0 = 1 := by decide +kernel
  have m190 : mM0 19 0 = 0 := by decide +kernel
  have m191 : mM0 19 1 = 0 := by decide +kernel
  have m1912 : mM0 19 12 = 0 := by decide +kernel
  have m200 : mM0 20 0 = 0 := by decide +kernel
  have m280 : mM0 28 0 = 0 := by decide +kernel
  have m290 : mM0 29 0 = 0 := by decide +kernel
  have heq : ((if (0 ≤ x1 ∧ x1 < 8) ∧ 0 ≤ x2 ∧ x2 ≤ 1 then (if cV1 39 2 ≤ x1 then -9 else if x2 = 0 then cV1 42 (Int.toNat x1) else cV1 43 (Int.toNat x1)) else -1) : Int) = (s_stray mM0 x1 x2) := by unfold s_stray; rw [g392, m1912]; (repeat' split) <;> first | rfl | omega | (exfalso; omega)
  refine lv_aload_n hx hb dL_law_302 rfl (lv_at hl 2 rfl) ?_
  refine lv_aload_n hx hb dL_law_303 rfl (lv_at hl 3 rfl) ?_
  refine lv_iload_n hx hb dL_law_304 rfl (lv_at hl 0 rfl) ?_
  refine lv_iconst (v := iZ 1) hx hb dL_law_305 (by decide) ?_
  refine z_iadd (x := 0) (y := 1) hx hb dL_law_306 ?_
  refine lq_ld hx hb hX hbl hbA hS 1 (by omega) (by omega) e1 (by decide) dL_law_307 ?_
  refine lv_aload_n hx hb dL_law_308 rfl (lv_at hl 3 rfl) ?_
  refine lv_iload_n hx hb dL_law_309 rfl (lv_at hl 0 rfl) ?_
  refine lv_iconst (v := iZ 2) hx hb dL_law_310 (by decide) ?_
  refine z_iadd (x := 0) (y := 2) hx hb dL_law_311 ?_
  refine lq_ld hx hb hX hbl hbA hS 2 (by omega) (by omega) e2 (by decide) dL_law_312 ?_
  refine lq_ci (As := [.int (iZ x1), .int (iZ x2)]) (rest := []) ⟨hx, hb, hml, hown, htsL⟩ hKc hP hNA hD hS (K_X7_stray l D C a bb cV1 x1 x2 (by first | assumption | exact trivial) (by first | assumption | exact trivial) (by first | assumption | exact trivial) ) (cwV 2 htsL gL_law_X7_stray rfl rfl rfl (by decide +kernel) ⟨Nat.le_of_ble_eq_true rfl, Nat.le_of_ble_eq_true rfl⟩) rfl rfl hl.1 (Nat.le_of_ble_eq_true rfl) ⟨Nat.le_of_ble_eq_true rfl, Nat.le_of_ble_eq_true rfl⟩ dL_law_313 ?_
  refine lv_aload_n hx hb dL_law_316 rfl (lv_at hl 1 rfl) ?_
  refine lv_aload_n hx hb dL_law_317 rfl (lv_at hl 3 rfl) ?_
  refine lv_iload_n hx hb dL_law_318 rfl (lv_at hl 0 rfl) ?_
  refine lv_iconst (v := iZ 1) hx hb dL_law_319 (by decide) ?_
  refine z_iadd (x := 0) (y := 1) hx hb dL_law_320 ?_
  refine lq_ld hx hb hX hbl hbA hS 1 (by omega) (by omega) e1 (by decide) dL_law_321 ?_
  refine lv_aload_n hx hb dL_law_322 rfl (lv_at hl 3 rfl) ?_
  refine lv_iload_n hx hb dL_law_323 rfl (lv_at hl 0 rfl) ?_
  refine lv_iconst (v := iZ 2) hx hb dL_law_324 (by decide) ?_
  refine z_iadd (x := 0) (y := 2) hx hb dL_law_325 ?_
  refine lq_ld hx hb hX hbl hbA hS 2 (by omega) (by omega) e2 (by decide) dL_law_326 ?_
  refine lq_mi (As := [.int (iZ x1), .int (iZ x2)]) (rest := [.int (iZ (if (0 ≤ x1 ∧ x1 < 8) ∧ 0 ≤ x2 ∧ x2 ≤ 1 then (if cV1 39 2 ≤ x1 then -9 else if x2 = 0 then cV1 42 (Int.toNat x1) else cV1 43 (Int.toNat x1)) else -1))]) ⟨hx, hb, hml, hown, htsL⟩ hKm hPm (C_stray l D C2 h2 a2 mM0 x1 x2 (by first | assumption | exact trivial) (by first | assumption | exact trivial) (by first | assumption | exact trivial) ) (cwV 2 htsL gL_law_X8_stray rfl rfl rfl (by decide +kernel) ⟨Nat.le_of_ble_eq_true rfl, Nat.le_of_ble_eq_true rfl⟩) rfl rfl hl.1 (Nat.le_of_ble_eq_true rfl) ⟨Nat.le_of_ble_eq_true rfl, Nat.le_of_ble_eq_true rfl⟩ dL_law_327 ?_
  rw [heq]
  refine lv_icmp_eq (tgt := 1022) hx hb dL_law_330 (by decide) (fun _ => ?_) (fun z => absurd rfl z)
  exact p1_end (a := a) l C0 hL hS hl
set_option maxHeartbeats 4000000 in
set_option maxRecDepth 100000 in
theorem p1_case_7 {p : Program} {e : Env} {s : State} {m : MethodId} {below : List Frame} {meth : Method} {c : Code} (l : Launch) {b L : Nat} {xs : Nat → Int32} (C0 : lw_At p s m meth c b L xs) (hL : L = 6) {D : va_G} {C : cC} {C2 : mC} (hKc : va_K D vwCl (cT C) s) (hKm : va_K D vwCl (mT C2) s) {a a2 bb : Nat → Nat} {h2 : Nat} (hNA : cNA D C (fun q : Nat => s.heap.size ≤ q) bb s)
  {H : Heap} {locs : List Loc} (hP : va_P D vwCl (cW C a cV1) H) (hD : va_D (fun q : Nat => s.heap.size ≤ q) (cW C a cV1)) (hPm : va_P D vwCl (mW C2 h2 a2 mM0) H) (hDm : va_D (fun q : Nat => s.heap.size ≤ q) (mW C2 h2 a2 mM0)) (hjk : ∀ k : Nat, ∃ (j : Nat) (e : va_E), (mW C2 h2 a2 mM0)[j]? = some (a2 k, e)) (hdj : ∀ q, cA a q → ¬ mA h2 a2 q) (hS : va_S (fun q : Nat => s.heap.size ≤ q) s.heap H locs) {ls : Array Slot} (hl : lv_has ls 4 [(3, .int (iZ 0)), (2, .ref h2), (1, .ref (a 0)), (0, .ref b)]) : W p l e room_1 s m #[Value.ref b] below meth c H locs 600000 7302250 (lw_Z below #[Value.ref b] s) (F0 m 335 ls []) := by
  obtain ⟨hx, hb, hr, hml, hown, hts, hX, hbl, hlocks, hgv⟩ := id C0
  have hbA : ¬ (fun q : Nat => s.heap.size ≤ q) b := Nat.not_le.mpr hbl
  have htsL : ∀ w ∈ wsL_law, w.before #[Value.ref b] s = true := fun w h => hts w (wsL_law_in w h)
  obtain ⟨x1, hz1, e1⟩ := iZ_of (xs 1)
  obtain ⟨x2, hz2, e2⟩ := iZ_of (xs 2)
  obtain ⟨x3, hz3, e3⟩ := iZ_of (xs 3)
  obtain ⟨x4, hz4, e4⟩ := iZ_of (xs 4)
  obtain ⟨x5, hz5, e5⟩ := iZ_of (xs 5)
  have f1 : isTo (Int.toNat (cV1 0 3)) := by rw [show cV1 0 3 = 15 by decide +kernel]; unfold isTo; omega
  have f2 : isTo (Int.toNat (cV1 0 4)) := by rw [show cV1 0 4 = 23 by decide +kernel]; unfold isTo; omega
  have f3 : cV1 (Int.toNat (cV1 0 3)) 7 = 0 := by decide +kernel
  have f4 : cV1 (Int.toNat (cV1 0 3)) 8 = 0 := by decide +kernel
  have f5 : 0 ≤ cV1 (Int.toNat (cV1 0 3)) 9 ∧ cV1 (Int.toNat (cV1 0 3)) 9 ≤ 6 := by decide +kernel
  have f5b : cV1 (Int.toNat (cV1 0 3)) 9 = 0 := by decide +kernel
  have g390 : cV1 39 0 = 0 := by decide +kernel
  have g391 : cV1 39 1 = 0 := by decide +kernel
  have g392 : cV1 39 2 = 0 := by decide +kernel
  have g01 : cV1 0 1 = 0 := by decide +kernel
  have g44 : cV1 4 4 = 0 := by decide +kernel
  have g311 : cV1 31 1 = 0 := by decide +kernel
  have g012 : cV1 0 12 = 0 := by decide +kernel
  have f6 : 0 ≤ cV1 39 0 ∧ cV1 39 0 ≤ 999 := by omega
  have f7 : 0 ≤ cV1 39 1 ∧ cV1 39 1 ≤ 5 := by omega
  have f8 : 0 ≤ cV1 39 2 ∧ cV1 39 2 ≤ 8 := by omega
  have f9 : 0 ≤ cV1 0 1 ∧ cV1 0 1 ≤ 120 := by omega
  have f10 : ¬ Int.toNat (cV1 0 4) = 0 := by decide +kernel
  have f11 := paI_0
  have f12 := paI_1
  have f13 := cf_im
  have f14 : ∀ k : Nat, k < 4 → 0 ≤ cV1 40 k ∧ cV1 40 k ≤ 20 := fun k hk => by rw [cf_fe k hk]; decide
  have hI0 := mI_0
  have m10 : mM0 1 0 = 0 := by decide +kernel
  have m20 : mM0 2 0 = 0 := by decide +kernel
  have m50 : mM0 5 0 = 0 := by decide +kernel
  have m90 : mM0 9 0 = 1 := by decide +kernel
  have m190 : mM0 19 0 = 0 := by decide +kernel
  have m191 : mM0 19 1 = 0 := by decide +kernel
  have m1912 : mM0 19 12 = 0 := by decide +kernel
  have m200 : mM0 20 0 = 0 := by decide +kernel
  have m280 : mM0 28 0 = 0 := by decide +kernel
  have m290 : mM0 29 0 = 0 := by decide +kernel
  have heq : ((-1) : Int) = (s_lets mM0 x1 x2 x3 x4 x5) := by unfold s_lets s_lok; rw [m20, if_pos (by omega)]
  refine lv_aload_n hx hb dL_law_335 rfl (lv_at hl 2 rfl) ?_
  refine lv_aload_n hx hb dL_law_336 rfl (lv_at hl 3 rfl) ?_
  refine lv_iload_n hx hb dL_law_337 rfl (lv_at hl 0 rfl) ?_
  refine lv_iconst (v := iZ 1) hx hb dL_law_338 (by decide) ?_
  refine z_iadd (x := 0) (y := 1) hx hb dL_law_339 ?_
  refine lq_ld hx hb hX hbl hbA hS 1 (by omega) (by omega) e1 (by decide) dL_law_340 ?_
  refine lv_aload_n hx hb dL_law_341 rfl (lv_at hl 3 rfl) ?_
  refine lv_iload_n hx hb dL_law_342 rfl (lv_at hl 0 rfl) ?_
  refine lv_iconst (v := iZ 2) hx hb dL_law_343 (by decide) ?_
  refine z_iadd (x := 0) (y := 2) hx hb dL_law_344 ?_
  refine lq_ld hx hb hX hbl hbA hS 2 (by omega) (by omega) e2 (by decide) dL_law_345 ?_
  refine lv_aload_n hx hb dL_law_346 rfl (lv_at hl 3 rfl) ?_
  refine lv_iload_n hx hb dL_law_347 rfl (lv_at hl 0 rfl) ?_
  refine lv_iconst (v := iZ 3) hx hb dL_law_348 (by decide) ?_
  refine z_iadd (x := 0) (y := 3) hx hb dL_law_349 ?_
  refine lq_ld hx hb hX hbl hbA hS 3 (by omega) (by omega) e3 (by decide) dL_law_350 ?_
  refine lv_aload_n hx hb dL_law_351 rfl (lv_at hl 3 rfl) ?_
  refine lv_iload_n hx hb dL_law_352 rfl (lv_at hl 0 rfl) ?_
  refine lv_iconst (v := iZ 4) hx hb dL_law_353 (by decide) ?_
  refine z_iadd (x := 0) (y := 4) hx hb dL_law_354 ?_
  refine lq_ld hx hb hX hbl hbA hS 4 (by omega) (by omega) e4 (by decide) dL_law_355 ?_
  refine lv_aload_n hx hb dL_law_356 rfl (lv_at hl 3 rfl) ?_
  refine lv_iload_n hx hb dL_law_357 rfl (lv_at hl 0 rfl) ?_
  refine lv_iconst (v := iZ 5) hx hb dL_law_358 (by decide) ?_
  refine z_iadd (x := 0) (y := 5) hx hb dL_law_359 ?_
  refine lq_ld hx hb hX hbl hbA hS 5 (by omega) (by omega) e5 (by decide) dL_law_360 ?_
  refine lq_ci (As := [.int (iZ x1), .int (iZ x2), .int (iZ x3), .int (iZ x4), .int (iZ x5)]) (rest := []) ⟨hx, hb, hml, hown, htsL⟩ hKc hP hNA hD hS (K_X7_lets_0 l D C a bb cV1 x1 x2 x3 x4 x5 (by first | assumption | exact trivial) (by first | assumption | exact trivial) (by first | assumption | exact trivial) (by first | assumption | exact trivial) (by first | assumption | exact trivial) (by first | assumption | exact trivial) (by first | assumption | exact trivial) ) (cwV 5 htsL gL_law_X7_lets rfl rfl rfl (by decide +kernel) ⟨Nat.le_of_ble_eq_true rfl, Nat.le_of_ble_eq_true rfl⟩) rfl rfl hl.1 (Nat.le_of_ble_eq_true rfl) ⟨Nat.le_of_ble_eq_true rfl, Nat.le_of_ble_eq_true rfl⟩ dL_law_361 ?_
  refine lv_aload_n hx hb dL_law_364 rfl (lv_at hl 1 rfl) ?_
  refine lv_aload_n hx hb dL_law_365 rfl (lv_at hl 3 rfl) ?_
  refine lv_iload_n hx hb dL_law_366 rfl (lv_at hl 0 rfl) ?_
  refine lv_iconst (v := iZ 1) hx hb dL_law_367 (by decide) ?_
  refine z_iadd (x := 0) (y := 1) hx hb dL_law_368 ?_
  refine lq_ld hx hb hX hbl hbA hS 1 (by omega) (by omega) e1 (by decide) dL_law_369 ?_
  refine lv_aload_n hx hb dL_law_370 rfl (lv_at hl 3 rfl) ?_
  refine lv_iload_n hx hb dL_law_371 rfl (lv_at hl 0 rfl) ?_
  refine lv_iconst (v := iZ 2) hx hb dL_law_372 (by decide) ?_
  refine z_iadd (x := 0) (y := 2) hx hb dL_law_373 ?_
  refine lq_ld hx hb hX hbl hbA hS 2 (by omega) (by omega) e2 (by decide) dL_law_374 ?_
  refine lv_aload_n hx hb dL_law_375 rfl (lv_at hl 3 rfl) ?_
  refine lv_iload_n hx hb dL_law_376 rfl (lv_at hl 0 rfl) ?_
  refine lv_iconst (v := iZ 3) hx hb dL_law_377 (by decide) ?_
  refine z_iadd (x := 0) (y := 3) hx hb dL_law_378 ?_
  refine lq_ld hx hb hX hbl hbA hS 3 (by omega) (by omega) e3 (by decide) dL_law_379 ?_
  refine lv_aload_n hx hb dL_law_380 rfl (lv_at hl 3 rfl) ?_
  refine lv_iload_n hx hb dL_law_381 rfl (lv_at hl 0 rfl) ?_
  refine lv_iconst (v := iZ 4) hx hb dL_law_382 (by decide) ?_
  refine z_iadd (x := 0) (y := 4) hx hb dL_law_383 ?_
  refine lq_ld hx hb hX hbl hbA hS 4 (by omega) (by omega) e4 (by decide) dL_law_384 ?_
  refine lv_aload_n hx hb dL_law_385 rfl (lv_at hl 3 rfl) ?_
  refine lv_iload_n hx hb dL_law_386 rfl (lv_at hl 0 rfl) ?_
  refine lv_iconst (v := iZ 5) hx hb dL_law_387 (by decide) ?_
  refine z_iadd (x := 0) (y := 5) hx hb dL_law_388 ?_
  refine lq_ld hx hb hX hbl hbA hS 5 (by omega) (by omega) e5 (by decide) dL_law_389 ?_
  refine lq_mm (As := [.int (iZ x1), .int (iZ x2), .int (iZ x3), .int (iZ x4), .int (iZ x5)]) (rest := [.int (iZ (-1))]) ⟨hx, hb, hml, hown, htsL⟩ hKm hPm hDm hS (mA_of hDm hjk) (C_lets l D C2 h2 a2 mM0 x1 x2 x3 x4 x5 (by first | assumption | exact trivial) (by first | assumption | exact trivial) (by first | assumption | exact trivial) (by first | assumption | exact trivial) (by first | assumption | exact trivial) (by first | assumption | exact trivial) (hDm.weaken (fun _ _ _ _ => trivial))) (cwV 5 htsL gL_law_X8_lets rfl rfl rfl (by decide +kernel) ⟨Nat.le_of_ble_eq_true rfl, Nat.le_of_ble_eq_true rfl⟩) rfl rfl hl.1 (Nat.le_of_ble_eq_true rfl) ⟨Nat.le_of_ble_eq_true rfl, Nat.le_of_ble_eq_true rfl⟩ dL_law_390 (fun H locs _ _ hS9 _ => ?_)
  replace hS := hS9
  rw [heq]
  refine lv_icmp_eq (tgt := 1022) hx hb dL_law_393 (by decide) (fun _ => ?_) (fun z => absurd rfl z)
  exact p1_end (a := a) l C0 hL hS hl
set_option maxHeartbeats 4000000 in
set_option maxRecDepth 100000 in
theorem p1_case_8 {p : Program} {e : Env} {s : State} {m : MethodId} {below : List Frame} {meth : Method} {c : Code} (l : Launch) {b L : Nat} {xs : Nat → Int32} (C0 : lw_At p s m meth c b L xs) (hL : L = 6) {D : va_G} {C : cC} {C2 : mC} (hKc : va_K D vwCl (cT C) s) (hKm : va_K D vwCl (mT C2) s) {a a2 bb : Nat → Nat} {h2 : Nat} (hNA : cNA D C (fun q : Nat => s.heap.size ≤ q) bb s)
  {H : Heap} {locs : List Loc} (hP : va_P D vwCl (cW C a cV1) H) (hD : va_D (fun q : Nat => s.heap.size ≤ q) (cW C a cV1)) (hPm : va_P D vwCl (mW C2 h2 a2 mM0) H) (hDm : va_D (fun q : Nat => s.heap.size ≤ q) (mW C2 h2 a2 mM0)) (hjk : ∀ k : Nat, ∃ (j : Nat) (e : va_E), (mW C2 h2 a2 mM0)[j]? = some (a2 k, e)) (hdj : ∀ q, cA a q → ¬ mA h2 a2 q) (hS : va_S (fun q : Nat => s.heap.size ≤ q) s.heap H locs) {ls : Array Slot} (hl : lv_has ls 4 [(3, .int (iZ 0)), (2, .ref h2), (1, .ref (a 0)), (0, .ref b)]) : W p l e room_1 s m #[Value.ref b] below meth c H locs 600000 7302250 (lw_Z below #[Value.ref b] s) (F0 m 398 ls []) := by
  obtain ⟨hx, hb, hr, hml, hown, hts, hX, hbl, hlocks, hgv⟩ := id C0
  have hbA : ¬ (fun q : Nat => s.heap.size ≤ q) b := Nat.not_le.mpr hbl
  have htsL : ∀ w ∈ wsL_law, w.before #[Value.ref b] s = true := fun w h => hts w (wsL_law_in w h)
  obtain ⟨x1, hz1, e1⟩ := iZ_of (xs 1)
  have f1 : isTo (Int.toNat (cV1 0 3)) := by rw [show cV1 0 3 = 15 by decide +kernel]; unfold isTo; omega
  have f2 : isTo (Int.toNat (cV1 0 4)) := by rw [show cV1 0 4 = 23 by decide +kernel]; unfold isTo; omega
  have f3 : cV1 (Int.toNat (cV1 0 3)) 7 = 0 := by decide +kernel
  have f4 : cV1 (Int.toNat (cV1 0 3)) 8 = 0 := by decide +kernel
  have f5 : 0 ≤ cV1 (Int.toNat (cV1 0 3)) 9 ∧ cV1 (Int.toNat (cV1 0 3)) 9 ≤ 6 := by decide +kernel
  have f5b : cV1 (Int.toNat (cV1 0 3)) 9 = 0 := by decide +kernel
  have g390 : cV1 39 0 = 0 := by decide +kernel
  have g391 : cV1 39 1 = 0 := by decide +kernel
  have g392 : cV1 39 2 = 0 := by decide +kernel
  have g01 : cV1 0 1 = 0 := by decide +kernel
  have g44 : cV1 4 4 = 0 := by decide +kernel
  have g311 : cV1 31 1 = 0 := by decide +kernel
  have g012 : cV1 0 12 = 0 := by decide +kernel
  have f6 : 0 ≤ cV1 39 0 ∧ cV1 39 0 ≤ 999 := by omega
  have f7 : 0 ≤ cV1 39 1 ∧ cV1 39 1 ≤ 5 := by omega
  have f8 : 0 ≤ cV1 39 2 ∧ cV1 39 2 ≤ 8 := by omega
  have f9 : 0 ≤ cV1 0 1 ∧ cV1 0 1 ≤ 120 := by omega
  have f10 : ¬ Int.toNat (cV1 0 4) = 0 := by decide +kernel
  have f11 := paI_0
  have f12 := paI_1
  have f13 := cf_im
  have f14 : ∀ k : Nat, k < 4 → 0 ≤ cV1 40 k ∧ cV1 40 k ≤ 20 := fun k hk => by rw [cf_fe k hk]; decide
  have hI0 := mI_0
  have m10 : mM0 1 0 = 0 := by decide +kernel
  have m20 : mM0 2 0 = 0 := by decide +kernel
  have m50 : mM0 5 0 = 0 := by decide +kernel
  have m90 : mM0 9 0 = 1 := by decide +kernel
  have m190 : mM0 19 0 = 0 := by decide +kernel
  have m191 : mM0 19 1 = 0 := by decide +kernel
  have m1912 : mM0 19 12 = 0 := by decide +kernel
  have m200 : mM0 20 0 = 0 := by decide +kernel
  have m280 : mM0 28 0 = 0 := by decide +kernel
  have m290 : mM0 29 0 = 0 := by decide +kernel
  have heq : ((-1) : Int) = (s_picks mM0 x1) := by unfold s_picks; rw [m20, if_pos (by omega)]
  refine lv_aload_n hx hb dL_law_398 rfl (lv_at hl 2 rfl) ?_
  refine lv_aload_n hx hb dL_law_399 rfl (lv_at hl 3 rfl) ?_
  refine lv_iload_n hx hb dL_law_400 rfl (lv_at hl 0 rfl) ?_
  refine lv_iconst (v := iZ 1) hx hb dL_law_401 (by decide) ?_
  refine z_iadd (x := 0) (y := 1) hx hb dL_law_402 ?_
  refine lq_ld hx hb hX hbl hbA hS 1 (by omega) (by omega) e1 (by decide) dL_law_403 ?_
  refine lq_ci (As := [.int (iZ x1)]) (rest := []) ⟨hx, hb, hml, hown, htsL⟩ hKc hP hNA hD hS (K_X7_picks_0 l D C a bb cV1 x1 (by first | assumption | exact trivial) (by first | assumption | exact trivial) (by first | assumption | exact trivial) ) (cwV 1 htsL gL_law_X7_picks rfl rfl rfl (by decide +kernel) ⟨Nat.le_of_ble_eq_true rfl, Nat.le_of_ble_eq_true rfl⟩) rfl rfl hl.1 (Nat.le_of_ble_eq_true rfl) ⟨Nat.le_of_ble_eq_true rfl, Nat.le_of_ble_eq_true rfl⟩ dL_law_404 ?_
  refine lv_aload_n hx hb dL_law_407 rfl (lv_at hl 1 rfl) ?_
  refine lv_aload_n hx hb dL_law_408 rfl (lv_at hl 3 rfl) ?_
  refine lv_iload_n hx hb dL_law_409 rfl (lv_at hl 0 rfl) ?_
  refine lv_iconst (v := iZ 1) hx hb dL_law_410 (by decide) ?_
  refine z_iadd (x := 0) (y := 1) hx hb dL_law_411 ?_
  refine lq_ld hx hb hX hbl hbA hS 1 (by omega) (by omega) e1 (by decide) dL_law_412 ?_
  refine lq_mm (As := [.int (iZ x1)]) (rest := [.int (iZ (-1))]) ⟨hx, hb, hml, hown, htsL⟩ hKm hPm hDm hS (mA_of hDm hjk) (C_picks l D C2 h2 a2 mM0 x1 (by first | assumption | exact trivial) (by first | assumption | exact trivial) (hDm.weaken (fun _ _ _ _ => trivial))) (cwV 1 htsL gL_law_X8_picks rfl rfl rfl (by decide +kernel) ⟨Nat.le_of_ble_eq_true rfl, Nat.le_of_ble_eq_true rfl⟩) rfl rfl hl.1 (Nat.le_of_ble_eq_true rfl) ⟨Nat.le_of_ble_eq_true rfl, Nat.le_of_ble_eq_true rfl⟩ dL_law_413 (fun H locs _ _ hS9 _ => ?_)
  replace hS := hS9
  rw [heq]
  refine lv_icmp_eq (tgt := 1022) hx hb dL_law_416 (by decide) (fun _ => ?_) (fun z => absurd rfl z)
  exact p1_end (a := a) l C0 hL hS hl
set_option maxHeartbeats 4000000 in
set_option maxRecDepth 100000 in
theorem p1_case_9 {p : Program} {e : Env} {s : State} {m : MethodId} {below : List Frame} {meth : Method} {c : Code} (l : Launch) {b L : Nat} {xs : Nat → Int32} (C0 : lw_At p s m meth c b L xs) (hL : L = 6) {D : va_G} {C : cC} {C2 : mC} (hKc : va_K D vwCl (cT C) s) (hKm : va_K D vwCl (mT C2) s) {a a2 bb : Nat → Nat} {h2 : Nat} (hNA : cNA D C (fun q : Nat => s.heap.size ≤ q) bb s)
  {H : Heap} {locs : List Loc} (hP : va_P D vwCl (cW C a cV1) H) (hD : va_D (fun q : Nat => s.heap.size ≤ q) (cW C a cV1)) (hPm : va_P D vwCl (mW C2 h2 a2 mM0) H) (hDm : va_D (fun q : Nat => s.heap.size ≤ q) (mW C2 h2 a2 mM0)) (hjk : ∀ k : Nat, ∃ (j : Nat) (e : va_E), (mW C2 h2 a2 mM0)[j]? = some (a2 k, e)) (hdj : ∀ q, cA a q → ¬ mA h2 a2 q) (hS : va_S (fun q : Nat => s.heap.size ≤ q) s.heap H locs) {ls : Array Slot} (hl : lv_has ls 4 [(3, .int (iZ 0)), (2, .ref h2), (1, .ref (a 0)), (0, .ref b)]) : W p l e room_1 s m #[Value.ref b] below meth c H locs 600000 7302250 (lw_Z below #[Value.ref b] s) (F0 m 421 ls []) := by
  obtain ⟨hx, hb, hr, hml, hown, hts, hX, hbl, hlocks, hgv⟩ := id C0
  have hbA : ¬ (fun q : Nat => s.heap.size ≤ q) b := Nat.not_le.mpr hbl
  have htsL : ∀ w ∈ wsL_law, w.before #[Value.ref b] s = true := fun w h => hts w (wsL_law_in w h)
  obtain ⟨x1, hz1, e1⟩ := iZ_of (xs 1)
  have f1 : isTo (Int.toNat (cV1 0 3)) := by rw [show cV1 0 3 = 15 by decide +kernel]; unfold isTo; omega
  have f2 : isTo (Int.toNat (cV1 0 4)) := by rw [show cV1 0 4 = 23 by decide +kernel]; unfold isTo; omega
  have f3 : cV1 (Int.toNat (cV1 0 3)) 7 = 0 := by decide +kernel
  have f4 : cV1 (Int.toNat (cV1 0 3)) 8 = 0 := by decide +kernel
  have f5 : 0 ≤ cV1 (Int.toNat (cV1 0 3)) 9 ∧ cV1 (Int.toNat (cV1 0 3)) 9 ≤ 6 := by decide +kernel
  have f5b : cV1 (Int.toNat (cV1 0 3)) 9 = 0 := by decide +kernel
  have g390 : cV1 39 0 = 0 := by decide +kernel
  have g391 : cV1 39 1 = 0 := by decide +kernel
  have g392 : cV1 39 2 = 0 := by decide +kernel
  have g01 : cV1 0 1 = 0 := by decide +kernel
  have g44 : cV1 4 4 = 0 := by decide +kernel
  have g311 : cV1 31 1 = 0 := by decide +kernel
  have g012 : cV1 0 12 = 0 := by decide +kernel
  have f6 : 0 ≤ cV1 39 0 ∧ cV1 39 0 ≤ 999 := by omega
  have f7 : 0 ≤ cV1 39 1 ∧ cV1 39 1 ≤ 5 := by omega
  have f8 : 0 ≤ cV1 39 2 ∧ cV1 39 2 ≤ 8 := by omega
  have f9 : 0 ≤ cV1 0 1 ∧ cV1 0 1 ≤ 120 := by omega
  have f10 : ¬ Int.toNat (cV1 0 4) = 0 := by decide +kernel
  have f11 := paI_0
  have f12 := paI_1
  have f13 := cf_im
  have f14 : ∀ k : Nat, k < 4 → 0 ≤ cV1 40 k ∧ cV1 40 k ≤ 20 := fun k hk => by rw [cf_fe k hk]; decide
  have hI0 := mI_0
  have m10 : mM0 1 0 = 0 := by decide +kernel
  have m20 : mM0 2 0 = 0 := by decide +kernel
  have m50 : mM0 5 0 = 0 := by decide +kernel
  have m90 : mM0 9 0 = 1 := by decide +kernel
  have m190 : mM0 19 0 = 0 := by decide +kernel
  have m191 : mM0 19 1 = 0 := by decide +kernel
  have m1912 : mM0 19 12 = 0 := by decide +kernel
  have m200 : mM0 20 0 = 0 := by decide +kernel
  have m280 : mM0 28 0 = 0 := by decide +kernel
  have m290 : mM0 29 0 = 0 := by decide +kernel
  have heq : ((if 1 ≤ x1 ∧ x1 ≤ 9 then (if cV1 39 0 + x1 ≤ 999 then cV1 39 0 + x1 else -2) else -1) : Int) = (s_hours mM0 x1) := by unfold s_hours; rw [g390, m190]; (repeat' split) <;> omega
  refine lv_aload_n hx hb dL_law_421 rfl (lv_at hl 2 rfl) ?_
  refine lv_aload_n hx hb dL_law_422 rfl (lv_at hl 3 rfl) ?_
  refine lv_iload_n hx hb dL_law_423 rfl (lv_at hl 0 rfl) ?_
  refine lv_iconst (v := iZ 1) hx hb dL_law_424 (by decide) ?_
  refine z_iadd (x := 0) (y := 1) hx hb dL_law_425 ?_
  refine lq_ld hx hb hX hbl hbA hS 1 (by omega) (by omega) e1 (by decide) dL_law_426 ?_
  refine lq_cm (As := [.int (iZ x1)]) (rest := []) ⟨hx, hb, hml, hown, htsL⟩ hKc hP hNA hD hS (K_X7_hours l D C a bb cV1 x1 (by first | assumption | exact trivial) (by first | assumption | exact trivial) (by first | assumption | exact trivial) (hD.weaken (fun _ _ _ _ => trivial))) (cwV 1 htsL gL_law_X7_hours rfl rfl rfl (by decide +kernel) ⟨Nat.le_of_ble_eq_true rfl, Nat.le_of_ble_eq_true rfl⟩) rfl rfl hl.1 (Nat.le_of_ble_eq_true rfl) ⟨Nat.le_of_ble_eq_true rfl, Nat.le_of_ble_eq_true rfl⟩ dL_law_427 (fun H locs hP9 hD9 hS9 hk9 => ?_)
  replace hPm : va_P D vwCl (mW C2 h2 a2 mM0) H := hPm.kept (fun k q hq => hk9 q.1 (hPm k q hq).lt (fun z => hdj _ z (mA_mem k q hq)))
  replace hS := hS9
  refine lv_aload_n hx hb dL_law_430 rfl (lv_at hl 1 rfl) ?_
  refine lv_aload_n hx hb dL_law_431 rfl (lv_at hl 3 rfl) ?_
  refine lv_iload_n hx hb dL_law_432 rfl (lv_at hl 0 rfl) ?_
  refine lv_iconst (v := iZ 1) hx hb dL_law_433 (by decide) ?_
  refine z_iadd (x := 0) (y := 1) hx hb dL_law_434 ?_
  refine lq_ld hx hb hX hbl hbA hS 1 (by omega) (by omega) e1 (by decide) dL_law_435 ?_
  refine lq_mm (As := [.int (iZ x1)]) (rest := [.int (iZ (if 1 ≤ x1 ∧ x1 ≤ 9 then (if cV1 39 0 + x1 ≤ 999 then cV1 39 0 + x1 else -2) else -1))]) ⟨hx, hb, hml, hown, htsL⟩ hKm hPm hDm hS (mA_of hDm hjk) (C_hours l D C2 h2 a2 mM0 x1 (by first | assumption | exact trivial) (by first | assumption | exact trivial) (hDm.weaken (fun _ _ _ _ => trivial))) (cwV 1 htsL gL_law_X8_hours rfl rfl rfl (by decide +kernel) ⟨Nat.le_of_ble_eq_true rfl, Nat.le_of_ble_eq_true rfl⟩) rfl rfl hl.1 (Nat.le_of_ble_eq_true rfl) ⟨Nat.le_of_ble_eq_true rfl, Nat.le_of_ble_eq_true rfl⟩ dL_law_436 (fun H locs _ _ hS9 _ => ?_)
  replace hS := hS9
  rw [heq]
  refine lv_icmp_eq (tgt := 1022) hx hb dL_law_439 (by decide) (fun _ => ?_) (fun z => absurd rfl z)
  exact p1_end (a := a) l C0 hL hS hl
set_option maxHeartbeats 4000000 in
set_option maxRecDepth 100000 in
theorem p1_case_10 {p : Program} {e : Env} {s : State} {m : MethodId} {below : List Frame} {meth : Method} {c : Code} (l : Launch) {b L : Nat} {xs : Nat → Int32} (C0 : lw_At p s m meth c b L xs) (hL : L = 6) {D : va_G} {C : cC} {C2 : mC} (hKc : va_K D vwCl (cT C) s) (hKm : va_K D vwCl (mT C2) s) {a a2 bb : Nat → Nat} {h2 : Nat} (hNA : cNA D C (fun q : Nat => s.heap.size ≤ q) bb s)
  {H : Heap} {locs : List Loc} (hP : va_P D vwCl (cW C a cV1) H) (hD : va_D (fun q : Nat => s.heap.size ≤ q) (cW C a cV1)) (hPm : va_P D vwCl (mW C2 h2 a2 mM0) H) (hDm : va_D (fun q : Nat => s.heap.size ≤ q) (mW C2 h2 a2 mM0)) (hjk : ∀ k : Nat, ∃ (j : Nat) (e : va_E), (mW C2 h2 a2 mM0)[j]? = some (a2 k, e)) (hdj : ∀ q, cA a q → ¬ mA h2 a2 q) (hS : va_S (fun q : Nat => s.heap.size ≤ q) s.heap H locs) {ls : Array Slot} (hl : lv_has ls 4 [(3, .int (iZ 0)), (2, .ref h2), (1, .ref (a 0)), (0, .ref b)]) : W p l e room_1 s m #[Value.ref b] below meth c H locs 600000 7302250 (lw_Z below #[Value.ref b] s) (F0 m 444 ls []) := by
  obtain ⟨hx, hb, hr, hml, hown, hts, hX, hbl, hlocks, hgv⟩ := id C0
  have hbA : ¬ (fun q : Nat => s.heap.size ≤ q) b := Nat.not_le.mpr hbl
  have htsL : ∀ w ∈ wsL_law, w.before #[Value.ref b] s = true := fun w h => hts w (wsL_law_in w h)
  obtain ⟨x1, hz1, e1⟩ := iZ_of (xs 1)
  have f1 : isTo (Int.toNat (cV1 0 3)) := by rw [show cV1 0 3 = 15 by decide +kernel]; unfold isTo; omega
  have f2 : isTo (Int.toNat (cV1 0 4)) := by rw [show cV1 0 4 = 23 by decide +kernel]; unfold isTo; omega
  have f3 : cV1 (Int.toNat (cV1 0 3)) 7 = 0 := by decide +kernel
  have f4 : cV1 (Int.toNat (cV1 0 3)) 8 = 0 := by decide +kernel
  have f5 : 0 ≤ cV1 (Int.toNat (cV1 0 3)) 9 ∧ cV1 (Int.toNat (cV1 0 3)) 9 ≤ 6 := by decide +kernel
  have f5b : cV1 (Int.toNat (cV1 0 3)) 9 = 0 := by decide +kernel
  have g390 : cV1 39 0 = 0 := by decide +kernel
  have g391 : cV1 39 1 = 0 := by decide +kernel
  have g392 : cV1 39 2 = 0 := by decide +kernel
  have g01 : cV1 0 1 = 0 := by decide +kernel
  have g44 : cV1 4 4 = 0 := by decide +kernel
  have g311 : cV1 31 1 = 0 := by decide +kernel
  have g012 : cV1 0 12 = 0 := by decide +kernel
  have f6 : 0 ≤ cV1 39 0 ∧ cV1 39 0 ≤ 999 := by omega
  have f7 : 0 ≤ cV1 39 1 ∧ cV1 39 1 ≤ 5 := by omega
  have f8 : 0 ≤ cV1 39 2 ∧ cV1 39 2 ≤ 8 := by omega
  have f9 : 0 ≤ cV1 0 1 ∧ cV1 0 1 ≤ 120 := by omega
  have f10 : ¬ Int.toNat (cV1 0 4) = 0 := by decide +kernel
  have f11 := paI_0
  have f12 := paI_1
  have f13 := cf_im
  have f14 : ∀ k : Nat, k < 4 → 0 ≤ cV1 40 k ∧ cV1 40 k ≤ 20 := fun k hk => by rw [cf_fe k hk]; decide
  have hI0 := mI_0
  have m10 : mM0 1 0 = 0 := by decide +kernel
  have m20 : mM0 2 0 = 0 := by decide +kernel
  have m50 : mM0 5 0 = 0 := by decide +kernel
  have m90 : mM0 9 0 = 1 := by decide +kernel
  have m190 : mM0 19 0 = 0 := by decide +kernel
  have m191 : mM0 19 1 = 0 := by decide +kernel
  have m1912 : mM0 19 12 = 0 := by decide +kernel
  have m200 : mM0 20 0 = 0 := by decide +kernel
  have m280 : mM0 28 0 = 0 := by decide +kernel
  have m290 : mM0 29 0 = 0 := by decide +kernel
  have heq : ((if 0 ≤ x1 ∧ x1 ≤ 5 then (if x1 = cV1 39 1 then -2 else cV1 39 1) else -1) : Int) = (s_damps mM0 x1) := by unfold s_damps; rw [g391, m191]; (repeat' split) <;> omega
  refine lv_aload_n hx hb dL_law_444 rfl (lv_at hl 2 rfl) ?_
  refine lv_aload_n hx hb dL_law_445 rfl (lv_at hl 3 rfl) ?_
  refine lv_iload_n hx hb dL_law_446 rfl (lv_at hl 0 rfl) ?_
  refine lv_iconst (v := iZ 1) hx hb dL_law_447 (by decide) ?_
  refine z_iadd (x := 0) (y := 1) hx hb dL_law_448 ?_
  refine lq_ld hx hb hX hbl hbA hS 1 (by omega) (by omega) e1 (by decide) dL_law_449 ?_
  refine lq_cm (As := [.int (iZ x1)]) (rest := []) ⟨hx, hb, hml, hown, htsL⟩ hKc hP hNA hD hS (K_X7_damps l D C a bb cV1 x1 (by first | assumption | exact trivial) (by first | assumption | exact trivial) (by first | assumption | exact trivial) (hD.weaken (fun _ _ _ _ => trivial))) (cwV 1 htsL gL_law_X7_damps rfl rfl rfl (by decide +kernel) ⟨Nat.le_of_ble_eq_true rfl, Nat.le_of_ble_eq_true rfl⟩) rfl rfl hl.1 (Nat.le_of_ble_eq_true rfl) ⟨Nat.le_of_ble_eq_true rfl, Nat.le_of_ble_eq_true rfl⟩ dL_law_450 (fun H locs hP9 hD9 hS9 hk9 => ?_)
  replace hPm : va_P D vwCl (mW C2 h2 a2 mM0) H := hPm.kept (fun k q hq => hk9 q.1 (hPm k q hq).lt (fun z => hdj _ z (mA_mem k q hq)))
  replace hS := hS9
  refine lv_aload_n hx hb dL_law_453 rfl (lv_at hl 1 rfl) ?_
  refine lv_aload_n hx hb dL_law_454 rfl (lv_at hl 3 rfl) ?_
  refine lv_iload_n hx hb dL_law_455 rfl (lv_at hl 0 rfl) ?_
  refine lv_iconst (v := iZ 1) hx hb dL_law_456 (by decide) ?_
  refine z_iadd (x := 0) (y := 1) hx hb dL_law_457 ?_
  refine lq_ld hx hb hX hbl hbA hS 1 (by omega) (by omega) e1 (by decide) dL_law_458 ?_
  refine lq_mm (As := [.int (iZ x1)]) (rest := [.int (iZ (if 0 ≤ x1 ∧ x1 ≤ 5 then (if x1 = cV1 39 1 then -2 else cV1 39 1) else -1))]) ⟨hx, hb, hml, hown, htsL⟩ hKm hPm hDm hS (mA_of hDm hjk) (C_damps l D C2 h2 a2 mM0 x1 (by first | assumption | exact trivial) (by first | assumption | exact trivial) (hDm.weaken (fun _ _ _ _ => trivial))) (cwV 1 htsL gL_law_X8_damps rfl rfl rfl (by decide +kernel) ⟨Nat.le_of_ble_eq_true rfl, Nat.le_of_ble_eq_true rfl⟩) rfl rfl hl.1 (Nat.le_of_ble_eq_true rfl) ⟨Nat.le_of_ble_eq_true rfl, Nat.le_of_ble_eq_true rfl⟩ dL_law_459 (fun H locs _ _ hS9 _ => ?_)
  replace hS := hS9
  rw [heq]
  refine lv_icmp_eq (tgt := 1022) hx hb dL_law_462 (by decide) (fun _ => ?_) (fun z => absurd rfl z)
  exact p1_end (a := a) l C0 hL hS hl
set_option maxHeartbeats 4000000 in
set_option maxRecDepth 100000 in
theorem p1_case_11 {p : Program} {e : Env} {s : State} {m : MethodId} {below : List Frame} {meth : Method} {c : Code} (l : Launch) {b L : Nat} {xs : Nat → Int32} (C0 : lw_At p s m meth c b L xs) (hL : L = 6) {D : va_G} {C : cC} {C2 : mC} (hKc : va_K D vwCl (cT C) s) (hKm : va_K D vwCl (mT C2) s) {a a2 bb : Nat → Nat} {h2 : Nat} (hNA : cNA D C (fun q : Nat => s.heap.size ≤ q) bb s)
  {H : Heap} {locs : List Loc} (hP : va_P D vwCl (cW C a cV1) H) (hD : va_D (fun q : Nat => s.heap.size ≤ q) (cW C a cV1)) (hPm : va_P D vwCl (mW C2 h2 a2 mM0) H) (hDm : va_D (fun q : Nat => s.heap.size ≤ q) (mW C2 h2 a2 mM0)) (hjk : ∀ k : Nat, ∃ (j : Nat) (e : va_E), (mW C2 h2 a2 mM0)[j]? = some (a2 k, e)) (hdj : ∀ q, cA a q → ¬ mA h2 a2 q) (hS : va_S (fun q : Nat => s.heap.size ≤ q) s.heap H locs) {ls : Array Slot} (hl : lv_has ls 4 [(3, .int (iZ 0)), (2, .ref h2), (1, .ref (a 0)), (0, .ref b)]) : W p l e room_1 s m #[Value.ref b] below meth c H locs 600000 7302250 (lw_Z below #[Value.ref b] s) (F0 m 467 ls []) := by
  obtain ⟨hx, hb, hr, hml, hown, hts, hX, hbl, hlocks, hgv⟩ := id C0
  have hbA : ¬ (fun q : Nat => s.heap.size ≤ q) b := Nat.not_le.mpr hbl
  have htsL : ∀ w ∈ wsL_law, w.before #[Value.ref b] s = true := fun w h => hts w (wsL_law_in w h)
  obtain ⟨x1, hz1, e1⟩ := iZ_of (xs 1)
  obtain ⟨x2, hz2, e2⟩ := iZ_of (xs 2)
  have f1 : isTo (Int.toNat (cV1 0 3)) := by rw [show cV1 0 3 = 15 by decide +kernel]; unfold isTo; omega
  have f2 : isTo (Int.toNat (cV1 0 4)) := by rw [show cV1 0 4 = 23 by decide +kernel]; unfold isTo; omega
  have f3 : cV1 (Int.toNat (cV1 0 3)) 7 = 0 := by decide +kernel
  have f4 : cV1 (Int.toNat (cV1 0 3)) 8 = 0 := by decide +kernel
  have f5 : 0 ≤ cV1 (Int.toNat (cV1 0 3)) 9 ∧ cV1 (Int.toNat (cV1 0 3)) 9 ≤ 6 := by decide +kernel
  have f5b : cV1 (Int.toNat (cV1 0 3)) 9 = 0 := by decide +kernel
  have g390 : cV1 39 0 = 0 := by decide +kernel
  have g391 : cV1 39 1 = 0 := by decide +kernel
  have g392 : cV1 39 2 = 0 := by decide +kernel
  have g01 : cV1 0 1 = 0 := by decide +kernel
  have g44 : cV1 4 4 = 0 := by decide +kernel
  have g311 : cV1 31 1 = 0 := by decide +kernel
  have g012 : cV1 0 12 = 0 := by decide +kernel
  have f6 : 0 ≤ cV1 39 0 ∧ cV1 39 0 ≤ 999 := by omega
  have f7 : 0 ≤ cV1 39 1 ∧ cV1 39 1 ≤ 5 := by omega
  have f8 : 0 ≤ cV1 39 2 ∧ cV1 39 2 ≤ 8 := by omega
  have f9 : 0 ≤ cV1 0 1 ∧ cV1 0 1 ≤ 120 := by omega
  have f10 : ¬ Int.toNat (cV1 0 4) = 0 := by decide +kernel
  have f11 := paI_0
  have f12 := paI_1
  have f13 := cf_im
  have f14 : ∀ k : Nat, k < 4 → 0 ≤ cV1 40 k ∧ cV1 40 k ≤ 20 := fun k hk => by rw [cf_fe k hk]; decide
  have hI0 := mI_0
  have m10 : mM0 1 0 = 0 := by decide +kernel
  have m20 : mM0 2 0 = 0 := by decide +kernel
  have m50 : mM0 5 0 = 0 := by decide +kernel
  have m90 : mM0 9 0 = 1 := by decide +kernel
  have m190 : mM0 19 0 = 0 := by decide +kernel
  have m191 : mM0 19 1 = 0 := by decide +kernel
  have m1912 : mM0 19 12 = 0 := by decide +kernel
  have m200 : mM0 20 0 = 0 := by decide +kernel
  have m280 : mM0 28 0 = 0 := by decide +kernel
  have m290 : mM0 29 0 = 0 := by decide +kernel
  have heq : ((if (0 ≤ x1 ∧ x1 < 4) ∧ 1 ≤ x2 ∧ x2 ≤ 9 then (if cV1 40 (Int.toNat x1) < 20 then (if cV1 40 (Int.toNat x1) + x2 < 20 then cV1 40 (Int.toNat x1) + x2 else 20) else -2) else -1) : Int) = (s_plucks mM0 x1 x2) := by exact plucks_0 x1 x2
  refine lv_aload_n hx hb dL_law_467 rfl (lv_at hl 2 rfl) ?_
  refine lv_aload_n hx hb dL_law_468 rfl (lv_at hl 3 rfl) ?_
  refine lv_iload_n hx hb dL_law_469 rfl (lv_at hl 0 rfl) ?_
  refine lv_iconst (v := iZ 1) hx hb dL_law_470 (by decide) ?_
  refine z_iadd (x := 0) (y := 1) hx hb dL_law_471 ?_
  refine lq_ld hx hb hX hbl hbA hS 1 (by omega) (by omega) e1 (by decide) dL_law_472 ?_
  refine lv_aload_n hx hb dL_law_473 rfl (lv_at hl 3 rfl) ?_
  refine lv_iload_n hx hb dL_law_474 rfl (lv_at hl 0 rfl) ?_
  refine lv_iconst (v := iZ 2) hx hb dL_law_475 (by decide) ?_
  refine z_iadd (x := 0) (y := 2) hx hb dL_law_476 ?_
  refine lq_ld hx hb hX hbl hbA hS 2 (by omega) (by omega) e2 (by decide) dL_law_477 ?_
  refine lq_cm (As := [.int (iZ x1), .int (iZ x2)]) (rest := []) ⟨hx, hb, hml, hown, htsL⟩ hKc hP hNA hD hS (K_X7_plucks l D C a bb cV1 x1 x2 (by first | assumption | exact trivial) (by first | assumption | exact trivial) (by first | assumption | exact trivial) (by first | assumption | exact trivial) (hD.weaken (fun _ _ _ _ => trivial))) (cwV 2 htsL gL_law_X7_plucks rfl rfl rfl (by decide +kernel) ⟨Nat.le_of_ble_eq_true rfl, Nat.le_of_ble_eq_true rfl⟩) rfl rfl hl.1 (Nat.le_of_ble_eq_true rfl) ⟨Nat.le_of_ble_eq_true rfl, Nat.le_of_ble_eq_true rfl⟩ dL_law_478 (fun H locs hP9 hD9 hS9 hk9 => ?_)
  replace hPm : va_P D vwCl (mW C2 h2 a2 mM0) H := hPm.kept (fun k q hq => hk9 q.1 (hPm k q hq).lt (fun z => hdj _ z (mA_mem k q hq)))
  replace hS := hS9
  refine lv_aload_n hx hb dL_law_481 rfl (lv_at hl 1 rfl) ?_
  refine lv_aload_n hx hb dL_law_482 rfl (lv_at hl 3 rfl) ?_
  refine lv_iload_n hx hb dL_law_483 rfl (lv_at hl 0 rfl) ?_
  refine lv_iconst (v := iZ 1) hx hb dL_law_484 (by decide) ?_
  refine z_iadd (x := 0) (y := 1) hx hb dL_law_485 ?_
  refine lq_ld hx hb hX hbl hbA hS 1 (by omega) (by omega) e1 (by decide) dL_law_486 ?_
  refine lv_aload_n hx hb dL_law_487 rfl (lv_at hl 3 rfl) ?_
  refine lv_iload_n hx hb dL_law_488 rfl (lv_at hl 0 rfl) ?_
  refine lv_iconst (v := iZ 2) hx hb dL_law_489 (by decide) ?_
  refine z_iadd (x := 0) (y := 2) hx hb dL_law_490 ?_
  refine lq_ld hx hb hX hbl hbA hS 2 (by omega) (by omega) e2 (by decide) dL_law_491 ?_
  refine lq_mm (As := [.int (iZ x1), .int (iZ x2)]) (rest := [.int (iZ (if (0 ≤ x1 ∧ x1 < 4) ∧ 1 ≤ x2 ∧ x2 ≤ 9 then (if cV1 40 (Int.toNat x1) < 20 then (if cV1 40 (Int.toNat x1) + x2 < 20 then cV1 40 (Int.toNat x1) + x2 else 20) else -2) else -1))]) ⟨hx, hb, hml, hown, htsL⟩ hKm hPm hDm hS (mA_of hDm hjk) (C_plucks l D C2 h2 a2 mM0 x1 x2 (by first | assumption | exact trivial) (by first | assumption | exact trivial) (by first | assumption | exact trivial) (hDm.weaken (fun _ _ _ _ => trivial))) (cwV 2 htsL gL_law_X8_plucks rfl rfl rfl (by decide +kernel) ⟨Nat.le_of_ble_eq_true rfl, Nat.le_of_ble_eq_true rfl⟩) rfl rfl hl.1 (Nat.le_of_ble_eq_true rfl) ⟨Nat.le_of_ble_eq_true rfl, Nat.le_of_ble_eq_true rfl⟩ dL_law_492 (fun H locs _ _ hS9 _ => ?_)
  replace hS := hS9
  rw [heq]
  refine lv_icmp_eq (tgt := 1022) hx hb dL_law_495 (by decide) (fun _ => ?_) (fun z => absurd rfl z)
  exact p1_end (a := a) l C0 hL hS hl
set_option maxHeartbeats 4000000 in
set_option maxRecDepth 100000 in
theorem p1_case_12 {p : Program} {e : Env} {s : State} {m : MethodId} {below : List Frame} {meth : Method} {c : Code} (l : Launch) {b L : Nat} {xs : Nat → Int32} (C0 : lw_At p s m meth c b L xs) (hL : L = 6) {D : va_G} {C : cC} {C2 : mC} (hKc : va_K D vwCl (cT C) s) (hKm : va_K D vwCl (mT C2) s) {a a2 bb : Nat → Nat} {h2 : Nat} (hNA : cNA D C (fun q : Nat => s.heap.size ≤ q) bb s)
  {H : Heap} {locs : List Loc} (hP : va_P D vwCl (cW C a cV1) H) (hD : va_D (fun q : Nat => s.heap.size ≤ q) (cW C a cV1)) (hPm : va_P D vwCl (mW C2 h2 a2 mM0) H) (hDm : va_D (fun q : Nat => s.heap.size ≤ q) (mW C2 h2 a2 mM0)) (hjk : ∀ k : Nat, ∃ (j : Nat) (e : va_E), (mW C2 h2 a2 mM0)[j]? = some (a2 k, e)) (hdj : ∀ q, cA a q → ¬ mA h2 a2 q) (hS : va_S (fun q : Nat => s.heap.size ≤ q) s.heap H locs) {ls : Array Slot} (hl : lv_has ls 4 [(3, .int (iZ 0)), (2, .ref h2), (1, .ref (a 0)), (0, .ref b)]) : W p l e room_1 s m #[Value.ref b] below meth c H locs 600000 7302250 (lw_Z below #[Value.ref b] s) (F0 m 500 ls []) := by
  obtain ⟨hx, hb, hr, hml, hown, hts, hX, hbl, hlocks, hgv⟩ := id C0
  have hbA : ¬ (fun q : Nat => s.heap.size ≤ q) b := Nat.not_le.mpr hbl
  have htsL : ∀ w ∈ wsL_law, w.before #[Value.ref b] s = true := fun w h => hts w (wsL_law_in w h)
  have f1 : isTo (Int.toNat (cV1 0 3)) := by rw [show cV1 0 3 = 15 by decide +kernel]; unfold isTo; omega
  have f2 : isTo (Int.toNat (cV1 0 4)) := by rw [show cV1 0 4 = 23 by decide +kernel]; unfold isTo; omega
  have f3 : cV1 (Int.toNat (cV1 0 3)) 7 = 0 := by decide +kernel
  have f4 : cV1 (Int.toNat (cV1 0 3)) 8 = 0 := by decide +kernel
  have f5 : 0 ≤ cV1 (Int.toNat (cV1 0 3)) 9 ∧ cV1 (Int.toNat (cV1 0 3)) 9 ≤ 6 := by decide +kernel
  have f5b : cV1 (Int.toNat (cV1 0 3)) 9 = 0 := by decide +kernel
  have g390 : cV1 39 0 = 0 := by decide +kernel
  have g391 : cV1 39 1 = 0 := by decide +kernel
  have g392 : cV1 39 2 = 0 := by decide +kernel
  have g01 : cV1 0 1 = 0 := by decide +kernel
  have g44 : cV1 4 4 = 0 := by decide +kernel
  have g311 : cV1 31 1 = 0 := by decide +kernel
  have g012 : cV1 0 12 = 0 := by decide +kernel
  have f6 : 0 ≤ cV1 39 0 ∧ cV1 39 0 ≤ 999 := by omega
  have f7 : 0 ≤ cV1 39 1 ∧ cV1 39 1 ≤ 5 := by omega
  have f8 : 0 ≤ cV1 39 2 ∧ cV1 39 2 ≤ 8 := by omega
  have f9 : 0 ≤ cV1 0 1 ∧ cV1 0 1 ≤ 120 := by omega
  have f10 : ¬ Int.toNat (cV1 0 4) = 0 := by decide +kernel
  have f11 := paI_0
  have f12 := paI_1
  have f13 := cf_im
  have f14 : ∀ k : Nat, k < 4 → 0 ≤ cV1 40 k ∧ cV1 40 k ≤ 20 := fun k hk => by rw [cf_fe k hk]; decide
  have hI0 := mI_0
  have m10 : mM0 1 0 = 0 := by decide +kernel
  have m20 : mM0 2 0 = 0 := by decide +kernel
  have m50 : mM0 5 0 = 0 := by decide +kernel
  have m90 : mM0 9 0 = 1 := by decide +kernel
  have m190 : mM0 19 0 = 0 := by decide +kernel
  have m191 : mM0 19 1 = 0 := by decide +kernel
  have m1912 : mM0 19 12 = 0 := by decide +kernel
  have m200 : mM0 20 0 = 0 := by decide +kernel
  have m280 : mM0 28 0 = 0 := by decide +kernel
  have m290 : mM0 29 0 = 0 := by decide +kernel
  have heq : ((-2) : Int) = (s_undo mM0) := by unfold s_undo; rw [m200]; rfl
  refine lv_aload_n hx hb dL_law_500 rfl (lv_at hl 2 rfl) ?_
  refine lq_ci (As := []) (rest := []) ⟨hx, hb, hml, hown, htsL⟩ hKc hP hNA hD hS (K_X7_undo_0 l D C a bb cV1  (by first | assumption | exact trivial) ) (cwV 0 htsL gL_law_X7_undo rfl rfl rfl (by decide +kernel) ⟨Nat.le_of_ble_eq_true rfl, Nat.le_of_ble_eq_true rfl⟩) rfl rfl hl.1 (Nat.le_of_ble_eq_true rfl) ⟨Nat.le_of_ble_eq_true rfl, Nat.le_of_ble_eq_true rfl⟩ dL_law_501 ?_
  refine lv_aload_n hx hb dL_law_504 rfl (lv_at hl 1 rfl) ?_
  refine lq_mm (As := []) (rest := [.int (iZ (-2))]) ⟨hx, hb, hml, hown, htsL⟩ hKm hPm hDm hS (mA_of hDm hjk) (C_undo l D C2 h2 a2 mM0  (by first | assumption | exact trivial) (hDm.weaken (fun _ _ _ _ => trivial))) (cwV 0 htsL gL_law_X8_undo rfl rfl rfl (by decide +kernel) ⟨Nat.le_of_ble_eq_true rfl, Nat.le_of_ble_eq_true rfl⟩) rfl rfl hl.1 (Nat.le_of_ble_eq_true rfl) ⟨Nat.le_of_ble_eq_true rfl, Nat.le_of_ble_eq_true rfl⟩ dL_law_505 (fun H locs _ _ hS9 _ => ?_)
  replace hS := hS9
  rw [heq]
  refine lv_icmp_eq (tgt := 1022) hx hb dL_law_508 (by decide) (fun _ => ?_) (fun z => absurd rfl z)
  exact p1_end (a := a) l C0 hL hS hl
set_option maxHeartbeats 4000000 in
set_option maxRecDepth 100000 in
theorem p1_case_13 {p : Program} {e : Env} {s : State} {m : MethodId} {below : List Frame} {meth : Method} {c : Code} (l : Launch) {b L : Nat} {xs : Nat → Int32} (C0 : lw_At p s m meth c b L xs) (hL : L = 6) {D : va_G} {C : cC} {C2 : mC} (hKc : va_K D vwCl (cT C) s) (hKm : va_K D vwCl (mT C2) s) {a a2 bb : Nat → Nat} {h2 : Nat} (hNA : cNA D C (fun q : Nat => s.heap.size ≤ q) bb s)
  {H : Heap} {locs : List Loc} (hP : va_P D vwCl (cW C a cV1) H) (hD : va_D (fun q : Nat => s.heap.size ≤ q) (cW C a cV1)) (hPm : va_P D vwCl (mW C2 h2 a2 mM0) H) (hDm : va_D (fun q : Nat => s.heap.size ≤ q) (mW C2 h2 a2 mM0)) (hjk : ∀ k : Nat, ∃ (j : Nat) (e : va_E), (mW C2 h2 a2 mM0)[j]? = some (a2 k, e)) (hdj : ∀ q, cA a q → ¬ mA h2 a2 q) (hS : va_S (fun q : Nat => s.heap.size ≤ q) s.heap H locs) {ls : Array Slot} (hl : lv_has ls 4 [(3, .int (iZ 0)), (2, .ref h2), (1, .ref (a 0)), (0, .ref b)]) : W p l e room_1 s m #[Value.ref b] below meth c H locs 600000 7302250 (lw_Z below #[Value.ref b] s) (F0 m 513 ls []) := by
  obtain ⟨hx, hb, hr, hml, hown, hts, hX, hbl, hlocks, hgv⟩ := id C0
  have hbA : ¬ (fun q : Nat => s.heap.size ≤ q) b := Nat.not_le.mpr hbl
  have htsL : ∀ w ∈ wsL_law, w.before #[Value.ref b] s = true := fun w h => hts w (wsL_law_in w h)
  obtain ⟨x1, hz1, e1⟩ := iZ_of (xs 1)
  have f1 : isTo (Int.toNat (cV1 0 3)) := by rw [show cV1 0 3 = 15 by decide +kernel]; unfold isTo; omega
  have f2 : isTo (Int.toNat (cV1 0 4)) := by rw [show cV1 0 4 = 23 by decide +kernel]; unfold isTo; omega
  have f3 : cV1 (Int.toNat (cV1 0 3)) 7 = 0 := by decide +kernel
  have f4 : cV1 (Int.toNat (cV1 0 3)) 8 = 0 := by decide +kernel
  have f5 : 0 ≤ cV1 (Int.toNat (cV1 0 3)) 9 ∧ cV1 (Int.toNat (cV1 0 3)) 9 ≤ 6 := by decide +kernel
  have f5b : cV1 (Int.toNat (cV1 0 3)) 9 = 0 := by decide +kernel
  have g390 : cV1 39 0 = 0 := by decide +kernel
  have g391 : cV1 39 1 = 0 := by decide +kernel
  have g392 : cV1 39 2 = 0 := by decide +kernel
  have g01 : cV1 0 1 = 0 := by decide +kernel
  have g44 : cV1 4 4 = 0 := by decide +kernel
  have g311 : cV1 31 1 = 0 := by decide +kernel
  have g012 : cV1 0 12 = 0 := by decide +kernel
  have f6 : 0 ≤ cV1 39 0 ∧ cV1 39 0 ≤ 999 := by omega
  have f7 : 0 ≤ cV1 39 1 ∧ cV1 39 1 ≤ 5 := by omega
  have f8 : 0 ≤ cV1 39 2 ∧ cV1 39 2 ≤ 8 := by omega
  have f9 : 0 ≤ cV1 0 1 ∧ cV1 0 1 ≤ 120 := by omega
  have f10 : ¬ Int.toNat (cV1 0 4) = 0 := by decide +kernel
  have f11 := paI_0
  have f12 := paI_1
  have f13 := cf_im
  have f14 : ∀ k : Nat, k < 4 → 0 ≤ cV1 40 k ∧ cV1 40 k ≤ 20 := fun k hk => by rw [cf_fe k hk]; decide
  have hI0 := mI_0
  have m10 : mM0 1 0 = 0 := by decide +kernel
  have m20 : mM0 2 0 = 0 := by decide +kernel
  have m50 : mM0 5 0 = 0 := by decide +kernel
  have m90 : mM0 9 0 = 1 := by decide +kernel
  have m190 : mM0 19 0 = 0 := by decide +kernel
  have m191 : mM0 19 1 = 0 := by decide +kernel
  have m1912 : mM0 19 12 = 0 := by decide +kernel
  have m200 : mM0 20 0 = 0 := by decide +kernel
  have m280 : mM0 28 0 = 0 := by decide +kernel
  have m290 : mM0 29 0 = 0 := by decide +kernel
  have heq : ((if 0 ≤ x1 ∧ x1 ≤ 6 then (if x1 = 0 then cV1 39 0 else if x1 = 1 then cV1 39 1 else if x1 = 6 then cV1 39 2 else cV1 40 (Int.toNat (x1 - 2))) else -1) : Int) = (s_now mM0 x1) := by exact now_0 x1
  refine lv_aload_n hx hb dL_law_513 rfl (lv_at hl 2 rfl) ?_
  refine lv_aload_n hx hb dL_law_514 rfl (lv_at hl 3 rfl) ?_
  refine lv_iload_n hx hb dL_law_515 rfl (lv_at hl 0 rfl) ?_
  refine lv_iconst (v := iZ 1) hx hb dL_law_516 (by decide) ?_
  refine z_iadd (x := 0) (y := 1) hx hb dL_law_517 ?_
  refine lq_ld hx hb hX hbl hbA hS 1 (by omega) (by omega) e1 (by decide) dL_law_518 ?_
  refine lq_ci (As := [.int (iZ x1)]) (rest := []) ⟨hx, hb, hml, hown, htsL⟩ hKc hP hNA hD hS (K_X7_now l D C a bb cV1 x1 (by first | assumption | exact trivial) ) (cwV 1 htsL gL_law_X7_now rfl rfl rfl (by decide +kernel) ⟨Nat.le_of_ble_eq_true rfl, Nat.le_of_ble_eq_true rfl⟩) rfl rfl hl.1 (Nat.le_of_ble_eq_true rfl) ⟨Nat.le_of_ble_eq_true rfl, Nat.le_of_ble_eq_true rfl⟩ dL_law_519 ?_
  refine lv_aload_n hx hb dL_law_522 rfl (lv_at hl 1 rfl) ?_
  refine lv_aload_n hx hb dL_law_523 rfl (lv_at hl 3 rfl) ?_
  refine lv_iload_n hx hb dL_law_524 rfl (lv_at hl 0 rfl) ?_
  refine lv_iconst (v := iZ 1) hx hb dL_law_525 (by decide) ?_
  refine z_iadd (x := 0) (y := 1) hx hb dL_law_526 ?_
  refine lq_ld hx hb hX hbl hbA hS 1 (by omega) (by omega) e1 (by decide) dL_law_527 ?_
  refine lq_mi (As := [.int (iZ x1)]) (rest := [.int (iZ (if 0 ≤ x1 ∧ x1 ≤ 6 then (if x1 = 0 then cV1 39 0 else if x1 = 1 then cV1 39 1 else if x1 = 6 then cV1 39 2 else cV1 40 (Int.toNat (x1 - 2))) else -1))]) ⟨hx, hb, hml, hown, htsL⟩ hKm hPm (C_now l D C2 h2 a2 mM0 x1 (by first | assumption | exact trivial) (by first | assumption | exact trivial) ) (cwV 1 htsL gL_law_X8_now rfl rfl rfl (by decide +kernel) ⟨Nat.le_of_ble_eq_true rfl, Nat.le_of_ble_eq_true rfl⟩) rfl rfl hl.1 (Nat.le_of_ble_eq_true rfl) ⟨Nat.le_of_ble_eq_true rfl, Nat.le_of_ble_eq_true rfl⟩ dL_law_528 ?_
  rw [heq]
  refine lv_icmp_eq (tgt := 1022) hx hb dL_law_531 (by decide) (fun _ => ?_) (fun z => absurd rfl z)
  exact p1_end (a := a) l C0 hL hS hl
set_option maxHeartbeats 4000000 in
set_option maxRecDepth 100000 in
theorem p1_case_14 {p : Program} {e : Env} {s : State} {m : MethodId} {below : List Frame} {meth : Method} {c : Code} (l : Launch) {b L : Nat} {xs : Nat → Int32} (C0 : lw_At p s m meth c b L xs) (hL : L = 6) {D : va_G} {C : cC} {C2 : mC} (hKc : va_K D vwCl (cT C) s) (hKm : va_K D vwCl (mT C2) s) {a a2 bb : Nat → Nat} {h2 : Nat} (hNA : cNA D C (fun q : Nat => s.heap.size ≤ q) bb s)
  {H : Heap} {locs : List Loc} (hP : va_P D vwCl (cW C a cV1) H) (hD : va_D (fun q : Nat => s.heap.size ≤ q) (cW C a cV1)) (hPm : va_P D vwCl (mW C2 h2 a2 mM0) H) (hDm : va_D (fun q : Nat => s.heap.size ≤ q) (mW C2 h2 a2 mM0)) (hjk : ∀ k : Nat, ∃ (j : Nat) (e : va_E), (mW C2 h2 a2 mM0)[j]? = some (a2 k, e)) (hdj : ∀ q, cA a q → ¬ mA h2 a2 q) (hS : va_S (fun q : Nat => s.heap.size ≤ q) s.heap H locs) {ls : Array Slot} (hl : lv_has ls 4 [(3, .int (iZ 0)), (2, .ref h2), (1, .ref (a 0)), (0, .ref b)]) : W p l e room_1 s m #[Value.ref b] below meth c H locs 600000 7302250 (lw_Z below #[Value.ref b] s) (F0 m 536 ls []) := by
  obtain ⟨hx, hb, hr, hml, hown, hts, hX, hbl, hlocks, hgv⟩ := id C0
  have hbA : ¬ (fun q : Nat => s.heap.size ≤ q) b := Nat.not_le.mpr hbl
  have htsL : ∀ w ∈ wsL_law, w.before #[Value.ref b] s = true := fun w h => hts w (wsL_law_in w h)
  obtain ⟨x1, hz1, e1⟩ := iZ_of (xs 1)
  obtain ⟨x2, hz2, e2⟩ := iZ_of (xs 2)
  obtain ⟨x3, hz3, e3⟩ := iZ_of (xs 3)
  obtain ⟨x4, hz4, e4⟩ := iZ_of (xs 4)
  obtain ⟨x5, hz5, e5⟩ := iZ_of (xs 5)
  have f1 : isTo (Int.toNat (cV1 0 3)) := by rw [show cV1 0 3 = 15 by decide +kernel]; unfold isTo; omega
  have f2 : isTo (Int.toNat (cV1 0 4)) := by rw [show cV1 0 4 = 23 by decide +kernel]; unfold isTo; omega
  have f3 : cV1 (Int.toNat (cV1 0 3)) 7 = 0 := by decide +kernel
  have f4 : cV1 (Int.toNat (cV1 0 3)) 8 = 0 := by decide +kernel
  have f5 : 0 ≤ cV1 (Int.toNat (cV1 0 3)) 9 ∧ cV1 (Int.toNat (cV1 0 3)) 9 ≤ 6 := by decide +kernel
  have f5b : cV1 (Int.toNat (cV1 0 3)) 9 = 0 := by decide +kernel
  have g390 : cV1 39 0 = 0 := by decide +kernel
  have g391 : cV1 39 1 = 0 := by decide +kernel
  have g392 : cV1 39 2 = 0 := by decide +kernel
  have g01 : cV1 0 1 = 0 := by decide +kernel
  have g44 : cV1 4 4 = 0 := by decide +kernel
  have g311 : cV1 31 1 = 0 := by decide +kernel
  have g012 : cV1 0 12 = 0 := by decide +kernel
  have f6 : 0 ≤ cV1 39 0 ∧ cV1 39 0 ≤ 999 := by omega
  have f7 : 0 ≤ cV1 39 1 ∧ cV1 39 1 ≤ 5 := by omega
  have f8 : 0 ≤ cV1 39 2 ∧ cV1 39 2 ≤ 8 := by omega
  have f9 : 0 ≤ cV1 0 1 ∧ cV1 0 1 ≤ 120 := by omega
  have f10 : ¬ Int.toNat (cV1 0 4) = 0 := by decide +kernel
  have f11 := paI_0
  have f12 := paI_1
  have f13 := cf_im
  have f14 : ∀ k : Nat, k < 4 → 0 ≤ cV1 40 k ∧ cV1 40 k ≤ 20 := fun k hk => by rw [cf_fe k hk]; decide
  have hI0 := mI_0
  have m10 : mM0 1 0 = 0 := by decide +kernel
  have m20 : mM0 2 0 = 0 := by decide +kernel
  have m50 : mM0 5 0 = 0 := by decide +kernel
  have m90 : mM0 9 0 = 1 := by decide +kernel
  have m190 : mM0 19 0 = 0 := by decide +kernel
  have m191 : mM0 19 1 = 0 := by decide +kernel
  have m1912 : mM0 19 12 = 0 := by decide +kernel
  have m200 : mM0 20 0 = 0 := by decide +kernel
  have m280 : mM0 28 0 = 0 := by decide +kernel
  have m290 : mM0 29 0 = 0 := by decide +kernel
  have heq : ((-1) : Int) = (s_lands mM0 x1 x2 x3 x4 x5) := by unfold s_lands; rw [m20, if_neg (by omega)]
  refine lv_aload_n hx hb dL_law_536 rfl (lv_at hl 2 rfl) ?_
  refine lv_aload_n hx hb dL_law_537 rfl (lv_at hl 3 rfl) ?_
  refine lv_iload_n hx hb dL_law_538 rfl (lv_at hl 0 rfl) ?_
  refine lv_iconst (v := iZ 1) hx hb dL_law_539 (by decide) ?_
  refine z_iadd (x := 0) (y := 1) hx hb dL_law_540 ?_
  refine lq_ld hx hb hX hbl hbA hS 1 (by omega) (by omega) e1 (by decide) dL_law_541 ?_
  refine lv_aload_n hx hb dL_law_542 rfl (lv_at hl 3 rfl) ?_
  refine lv_iload_n hx hb dL_law_543 rfl (lv_at hl 0 rfl) ?_
  refine lv_iconst (v := iZ 2) hx hb dL_law_544 (by decide) ?_
  refine z_iadd (x := 0) (y := 2) hx hb dL_law_545 ?_
  refine lq_ld hx hb hX hbl hbA hS 2 (by omega) (by omega) e2 (by decide) dL_law_546 ?_
  refine lv_aload_n hx hb dL_law_547 rfl (lv_at hl 3 rfl) ?_
  refine lv_iload_n hx hb dL_law_548 rfl (lv_at hl 0 rfl) ?_
  refine lv_iconst (v := iZ 3) hx hb dL_law_549 (by decide) ?_
  refine z_iadd (x := 0) (y := 3) hx hb dL_law_550 ?_
  refine lq_ld hx hb hX hbl hbA hS 3 (by omega) (by omega) e3 (by decide) dL_law_551 ?_
  refine lv_aload_n hx hb dL_law_552 rfl (lv_at hl 3 rfl) ?_
  refine lv_iload_n hx hb dL_law_553 rfl (lv_at hl 0 rfl) ?_
  refine lv_iconst (v := iZ 4) hx hb dL_law_554 (by decide) ?_
  refine z_iadd (x := 0) (y := 4) hx hb dL_law_555 ?_
  refine lq_ld hx hb hX hbl hbA hS 4 (by omega) (by omega) e4 (by decide) dL_law_556 ?_
  refine lv_aload_n hx hb dL_law_557 rfl (lv_at hl 3 rfl) ?_
  refine lv_iload_n hx hb dL_law_558 rfl (lv_at hl 0 rfl) ?_
  refine lv_iconst (v := iZ 5) hx hb dL_law_559 (by decide) ?_
  refine z_iadd (x := 0) (y := 5) hx hb dL_law_560 ?_
  refine lq_ld hx hb hX hbl hbA hS 5 (by omega) (by omega) e5 (by decide) dL_law_561 ?_
  refine lq_ci (As := [.int (iZ x1), .int (iZ x2), .int (iZ x3), .int (iZ x4), .int (iZ x5)]) (rest := []) ⟨hx, hb, hml, hown, htsL⟩ hKc hP hNA hD hS (K_X7_lands_0 l D C a bb cV1 x1 x2 x3 x4 x5 (by first | assumption | exact trivial) (by first | assumption | exact trivial) (by first | assumption | exact trivial) (by first | assumption | exact trivial) (by first | assumption | exact trivial) (by first | assumption | exact trivial) (by first | assumption | exact trivial) ) (cwV 5 htsL gL_law_X7_lands rfl rfl rfl (by decide +kernel) ⟨Nat.le_of_ble_eq_true rfl, Nat.le_of_ble_eq_true rfl⟩) rfl rfl hl.1 (Nat.le_of_ble_eq_true rfl) ⟨Nat.le_of_ble_eq_true rfl, Nat.le_of_ble_eq_true rfl⟩ dL_law_562 ?_
  refine lv_aload_n hx hb dL_law_565 rfl (lv_at hl 1 rfl) ?_
  refine lv_aload_n hx hb dL_law_566 rfl (lv_at hl 3 rfl) ?_
  refine lv_iload_n hx hb dL_law_567 rfl (lv_at hl 0 rfl) ?_
  refine lv_iconst (v := iZ 1) hx hb dL_law_568 (by decide) ?_
  refine z_iadd (x := 0) (y := 1) hx hb dL_law_569 ?_
  refine lq_ld hx hb hX hbl hbA hS 1 (by omega) (by omega) e1 (by decide) dL_law_570 ?_
  refine lv_aload_n hx hb dL_law_571 rfl (lv_at hl 3 rfl) ?_
  refine lv_iload_n hx hb dL_law_572 rfl (lv_at hl 0 rfl) ?_
  refine lv_iconst (v := iZ 2) hx hb dL_law_573 (by decide) ?_
  refine z_iadd (x := 0) (y := 2) hx hb dL_law_574 ?_
  refine lq_ld hx hb hX hbl hbA hS 2 (by omega) (by omega) e2 (by decide) dL_law_575 ?_
  refine lv_aload_n hx hb dL_law_576 rfl (lv_at hl 3 rfl) ?_
  refine lv_iload_n hx hb dL_law_577 rfl (lv_at hl 0 rfl) ?_
  refine lv_iconst (v := iZ 3) hx hb dL_law_578 (by decide) ?_
  refine z_iadd (x := 0) (y := 3) hx hb dL_law_579 ?_
  refine lq_ld hx hb hX hbl hbA hS 3 (by omega) (by omega) e3 (by decide) dL_law_580 ?_
  refine lv_aload_n hx hb dL_law_581 rfl (lv_at hl 3 rfl) ?_
  refine lv_iload_n hx hb dL_law_582 rfl (lv_at hl 0 rfl) ?_
  refine lv_iconst (v := iZ 4) hx hb dL_law_583 (by decide) ?_
  refine z_iadd (x := 0) (y := 4) hx hb dL_law_584 ?_
  refine lq_ld hx hb hX hbl hbA hS 4 (by omega) (by omega) e4 (by decide) dL_law_585 ?_
  refine lv_aload_n hx hb dL_law_586 rfl (lv_at hl 3 rfl) ?_
  refine lv_iload_n hx hb dL_law_587 rfl (lv_at hl 0 rfl) ?_
  refine lv_iconst (v := iZ 5) hx hb dL_law_588 (by decide) ?_
  refine z_iadd (x := 0) (y := 5) hx hb dL_law_589 ?_
  refine lq_ld hx hb hX hbl hbA hS 5 (by omega) (by omega) e5 (by decide) dL_law_590 ?_
  refine lq_mi (As := [.int (iZ x1), .int (iZ x2), .int (iZ x3), .int (iZ x4), .int (iZ x5)]) (rest := [.int (iZ (-1))]) ⟨hx, hb, hml, hown, htsL⟩ hKm hPm (C_lands l D C2 h2 a2 mM0 x1 x2 x3 x4 x5 (by first | assumption | exact trivial) (by first | assumption | exact trivial) (by first | assumption | exact trivial) (by first | assumption | exact trivial) (by first | assumption | exact trivial) (by first | assumption | exact trivial) ) (cwV 5 htsL gL_law_X8_lands rfl rfl rfl (by decide +kernel) ⟨Nat.le_of_ble_eq_true rfl, Nat.le_of_ble_eq_true rfl⟩) rfl rfl hl.1 (Nat.le_of_ble_eq_true rfl) ⟨Nat.le_of_ble_eq_true rfl, Nat.le_of_ble_eq_true rfl⟩ dL_law_591 ?_
  rw [heq]
  refine lv_icmp_eq (tgt := 1022) hx hb dL_law_594 (by decide) (fun _ => ?_) (fun z => absurd rfl z)
  exact p1_end (a := a) l C0 hL hS hl
set_option maxHeartbeats 4000000 in
set_option maxRecDepth 100000 in
theorem p1_case_15 {p : Program} {e : Env} {s : State} {m : MethodId} {below : List Frame} {meth : Method} {c : Code} (l : Launch) {b L : Nat} {xs : Nat → Int32} (C0 : lw_At p s m meth c b L xs) (hL : L = 6) {D : va_G} {C : cC} {C2 : mC} (hKc : va_K D vwCl (cT C) s) (hKm : va_K D vwCl (mT C2) s) {a a2 bb : Nat → Nat} {h2 : Nat} (hNA : cNA D C (fun q : Nat => s.heap.size ≤ q) bb s)
  {H : Heap} {locs : List Loc} (hP : va_P D vwCl (cW C a cV1) H) (hD : va_D (fun q : Nat => s.heap.size ≤ q) (cW C a cV1)) (hPm : va_P D vwCl (mW C2 h2 a2 mM0) H) (hDm : va_D (fun q : Nat => s.heap.size ≤ q) (mW C2 h2 a2 mM0)) (hjk : ∀ k : Nat, ∃ (j : Nat) (e : va_E), (mW C2 h2 a2 mM0)[j]? = some (a2 k, e)) (hdj : ∀ q, cA a q → ¬ mA h2 a2 q) (hS : va_S (fun q : Nat => s.heap.size ≤ q) s.heap H locs) {ls : Array Slot} (hl : lv_has ls 4 [(3, .int (iZ 0)), (2, .ref h2), (1, .ref (a 0)), (0, .ref b)]) : W p l e room_1 s m #[Value.ref b] below meth c H locs 600000 7302250 (lw_Z below #[Value.ref b] s) (F0 m 599 ls []) := by
  obtain ⟨hx, hb, hr, hml, hown, hts, hX, hbl, hlocks, hgv⟩ := id C0
  have hbA : ¬ (fun q : Nat => s.heap.size ≤ q) b := Nat.not_le.mpr hbl
  have htsL : ∀ w ∈ wsL_law, w.before #[Value.ref b] s = true := fun w h => hts w (wsL_law_in w h)
  obtain ⟨x1, hz1, e1⟩ := iZ_of (xs 1)
  obtain ⟨x2, hz2, e2⟩ := iZ_of (xs 2)
  obtain ⟨x3, hz3, e3⟩ := iZ_of (xs 3)
  have f1 : isTo (Int.toNat (cV1 0 3)) := by rw [show cV1 0 3 = 15 by decide +kernel]; unfold isTo; omega
  have f2 : isTo (Int.toNat (cV1 0 4)) := by rw [show cV1 0 4 = 23 by decide +kernel]; unfold isTo; omega
  have f3 : cV1 (Int.toNat (cV1 0 3)) 7 = 0 := by decide +kernel
  have f4 : cV1 (Int.toNat (cV1 0 3)) 8 = 0 := by decide +kernel
  have f5 : 0 ≤ cV1 (Int.toNat (cV1 0 3)) 9 ∧ cV1 (Int.toNat (cV1 0 3)) 9 ≤ 6 := by decide +kernel
  have f5b : cV1 (Int.toNat (cV1 0 3)) 9 = 0 := by decide +kernel
  have g390 : cV1 39 0 = 0 := by decide +kernel
  have g391 : cV1 39 1 = 0 := by decide +kernel
  have g392 : cV1 39 2 = 0 := by decide +kernel
  have g01 : cV1 0 1 = 0 := by decide +kernel
  have g44 : cV1 4 4 = 0 := by decide +kernel
  have g311 : cV1 31 1 = 0 := by decide +kernel
  have g012 : cV1 0 12 = 0 := by decide +kernel
  have f6 : 0 ≤ cV1 39 0 ∧ cV1 39 0 ≤ 999 := by omega
  have f7 : 0 ≤ cV1 39 1 ∧ cV1 39 1 ≤ 5 := by omega
  have f8 : 0 ≤ cV1 39 2 ∧ cV1 39 2 ≤ 8 := by omega
  have f9 : 0 ≤ cV1 0 1 ∧ cV1 0 1 ≤ 120 := by omega
  have f10 : ¬ Int.toNat (cV1 0 4) = 0 := by decide +kernel
  have f11 := paI_0
  have f12 := paI_1
  have f13 := cf_im
  have f14 : ∀ k : Nat, k < 4 → 0 ≤ cV1 40 k ∧ cV1 40 k ≤ 20 := fun k hk => by rw [cf_fe k hk]; decide
  have hI0 := mI_0
  have m10 : mM0 1 0 = 0 := by decide +kernel
  have m20 : mM0 2 0 = 0 := by decide +kernel
  have m50 : mM0 5 0 = 0 := by decide +kernel
  have m90 : mM0 9 0 = 1 := by decide +kernel
  have m190 : mM0 19 0 = 0 := by decide +kernel
  have m191 : mM0 19 1 = 0 := by decide +kernel
  have m1912 : mM0 19 12 = 0 := by decide +kernel
  have m200 : mM0 20 0 = 0 := by decide +kernel
  have m280 : mM0 28 0 = 0 := by decide +kernel
  have m290 : mM0 29 0 = 0 := by decide +kernel
  have heq : ((-1) : Int) = (s_call mM0 x1 x2 x3) := by unfold s_call; rw [m20, if_neg (by omega)]
  refine lv_aload_n hx hb dL_law_599 rfl (lv_at hl 2 rfl) ?_
  refine lv_aload_n hx hb dL_law_600 rfl (lv_at hl 3 rfl) ?_
  refine lv_iload_n hx hb dL_law_601 rfl (lv_at hl 0 rfl) ?_
  refine lv_iconst (v := iZ 1) hx hb dL_law_602 (by decide) ?_
  refine z_iadd (x := 0) (y := 1) hx hb dL_law_603 ?_
  refine lq_ld hx hb hX hbl hbA hS 1 (by omega) (by omega) e1 (by decide) dL_law_604 ?_
  refine lv_aload_n hx hb dL_law_605 rfl (lv_at hl 3 rfl) ?_
  refine lv_iload_n hx hb dL_law_606 rfl (lv_at hl 0 rfl) ?_
  refine lv_iconst (v := iZ 2) hx hb dL_law_607 (by decide) ?_
  refine z_iadd (x := 0) (y := 2) hx hb dL_law_608 ?_
  refine lq_ld hx hb hX hbl hbA hS 2 (by omega) (by omega) e2 (by decide) dL_law_609 ?_
  refine lv_aload_n hx hb dL_law_610 rfl (lv_at hl 3 rfl) ?_
  refine lv_iload_n hx hb dL_law_611 rfl (lv_at hl 0 rfl) ?_
  refine lv_iconst (v := iZ 3) hx hb dL_law_612 (by decide) ?_
  refine z_iadd (x := 0) (y := 3) hx hb dL_law_613 ?_
  refine lq_ld hx hb hX hbl hbA hS 3 (by omega) (by omega) e3 (by decide) dL_law_614 ?_
  refine lq_ci (As := [.int (iZ x1), .int (iZ x2), .int (iZ x3)]) (rest := []) ⟨hx, hb, hml, hown, htsL⟩ hKc hP hNA hD hS (K_X7_call_0 l D C a bb cV1 x1 x2 x3 (by first | assumption | exact trivial) (by first | assumption | exact trivial) (by first | assumption | exact trivial) (by first | assumption | exact trivial) ) (cwV 3 htsL gL_law_X7_call rfl rfl rfl (by decide +kernel) ⟨Nat.le_of_ble_eq_true rfl, Nat.le_of_ble_eq_true rfl⟩) rfl rfl hl.1 (Nat.le_of_ble_eq_true rfl) ⟨Nat.le_of_ble_eq_true rfl, Nat.le_of_ble_eq_true rfl⟩ dL_law_615 ?_
  refine lv_aload_n hx hb dL_law_618 rfl (lv_at hl 1 rfl) ?_
  refine lv_aload_n hx hb dL_law_619 rfl (lv_at hl 3 rfl) ?_
  refine lv_iload_n hx hb dL_law_620 rfl (lv_at hl 0 rfl) ?_
  refine lv_iconst (v := iZ 1) hx hb dL_law_621 (by decide) ?_
  refine z_iadd (x := 0) (y := 1) hx hb dL_law_622 ?_
  refine lq_ld hx hb hX hbl hbA hS 1 (by omega) (by omega) e1 (by decide) dL_law_623 ?_
  refine lv_aload_n hx hb dL_law_624 rfl (lv_at hl 3 rfl) ?_
  refine lv_iload_n hx hb dL_law_625 rfl (lv_at hl 0 rfl) ?_
  refine lv_iconst (v := iZ 2) hx hb dL_law_626 (by decide) ?_
  refine z_iadd (x := 0) (y := 2) hx hb dL_law_627 ?_
  refine lq_ld hx hb hX hbl hbA hS 2 (by omega) (by omega) e2 (by decide) dL_law_628 ?_
  refine lv_aload_n hx hb dL_law_629 rfl (lv_at hl 3 rfl) ?_
  refine lv_iload_n hx hb dL_law_630 rfl (lv_at hl 0 rfl) ?_
  refine lv_iconst (v := iZ 3) hx hb dL_law_631 (by decide) ?_
  refine z_iadd (x := 0) (y := 3) hx hb dL_law_632 ?_
  refine lq_ld hx hb hX hbl hbA hS 3 (by omega) (by omega) e3 (by decide) dL_law_633 ?_
  refine lq_mi (As := [.int (iZ x1), .int (iZ x2), .int (iZ x3)]) (rest := [.int (iZ (-1))]) ⟨hx, hb, hml, hown, htsL⟩ hKm hPm (C_call l D C2 h2 a2 mM0 x1 x2 x3 (by first | assumption | exact trivial) (by first | assumption | exact trivial) (by first | assumption | exact trivial) (by first | assumption | exact trivial) ) (cwV 3 htsL gL_law_X8_call rfl rfl rfl (by decide +kernel) ⟨Nat.le_of_ble_eq_true rfl, Nat.le_of_ble_eq_true rfl⟩) rfl rfl hl.1 (Nat.le_of_ble_eq_true rfl) ⟨Nat.le_of_ble_eq_true rfl, Nat.le_of_ble_eq_true rfl⟩ dL_law_634 ?_
  rw [heq]
  refine lv_icmp_eq (tgt := 1022) hx hb dL_law_637 (by decide) (fun _ => ?_) (fun z => absurd rfl z)
  exact p1_end (a := a) l C0 hL hS hl
set_option maxHeartbeats 4000000 in
set_option maxRecDepth 100000 in
theorem p1_case_16 {p : Program} {e : Env} {s : State} {m : MethodId} {below : List Frame} {meth : Method} {c : Code} (l : Launch) {b L : Nat} {xs : Nat → Int32} (C0 : lw_At p s m meth c b L xs) (hL : L = 6) {D : va_G} {C : cC} {C2 : mC} (hKc : va_K D vwCl (cT C) s) (hKm : va_K D vwCl (mT C2) s) {a a2 bb : Nat → Nat} {h2 : Nat} (hNA : cNA D C (fun q : Nat => s.heap.size ≤ q) bb s)
  {H : Heap} {locs : List Loc} (hP : va_P D vwCl (cW C a cV1) H) (hD : va_D (fun q : Nat => s.heap.size ≤ q) (cW C a cV1)) (hPm : va_P D vwCl (mW C2 h2 a2 mM0) H) (hDm : va_D (fun q : Nat => s.heap.size ≤ q) (mW C2 h2 a2 mM0)) (hjk : ∀ k : Nat, ∃ (j : Nat) (e : va_E), (mW C2 h2 a2 mM0)[j]? = some (a2 k, e)) (hdj : ∀ q, cA a q → ¬ mA h2 a2 q) (hS : va_S (fun q : Nat => s.heap.size ≤ q) s.heap H locs) {ls : Array Slot} (hl : lv_has ls 4 [(3, .int (iZ 0)), (2, .ref h2), (1, .ref (a 0)), (0, .ref b)]) : W p l e room_1 s m #[Value.ref b] below meth c H locs 600000 7302250 (lw_Z below #[Value.ref b] s) (F0 m 642 ls []) := by
  obtain ⟨hx, hb, hr, hml, hown, hts, hX, hbl, hlocks, hgv⟩ := id C0
  have hbA : ¬ (fun q : Nat => s.heap.size ≤ q) b := Nat.not_le.mpr hbl
  have htsL : ∀ w ∈ wsL_law, w.before #[Value.ref b] s = true := fun w h => hts w (wsL_law_in w h)
  obtain ⟨x1, hz1, e1⟩ := iZ_of (xs 1)
  obtain ⟨x2, hz2, e2⟩ := iZ_of (xs 2)
  obtain ⟨x3, hz3, e3⟩ := iZ_of (xs 3)
  obtain ⟨x4, hz4, e4⟩ := iZ_of (xs 4)
  have f1 : isTo (Int.toNat (cV1 0 3)) := by rw [show cV1 0 3 = 15 by decide +kernel]; unfold isTo; omega
  have f2 : isTo (Int.toNat (cV1 0 4)) := by rw [show cV1 0 4 = 23 by decide +kernel]; unfold isTo; omega
  have f3 : cV1 (Int.toNat (cV1 0 3)) 7 = 0 := by decide +kernel
  have f4 : cV1 (Int.toNat (cV1 0 3)) 8 = 0 := by decide +kernel
  have f5 : 0 ≤ cV1 (Int.toNat (cV1 0 3)) 9 ∧ cV1 (Int.toNat (cV1 0 3)) 9 ≤ 6 := by decide +kernel
  have f5b : cV1 (Int.toNat (cV1 0 3)) 9 = 0 := by decide +kernel
  have g390 : cV1 39 0 = 0 := by decide +kernel
  have g391 : cV1 39 1 = 0 := by decide +kernel
  have g392 : cV1 39 2 = 0 := by decide +kernel
  have g01 : cV1 0 1 = 0 := by decide +kernel
  have g44 : cV1 4 4 = 0 := by decide +kernel
  have g311 : cV1 31 1 = 0 := by decide +kernel
  have g012 : cV1 0 12 = 0 := by decide +kernel
  have f6 : 0 ≤ cV1 39 0 ∧ cV1 39 0 ≤ 999 := by omega
  have f7 : 0 ≤ cV1 39 1 ∧ cV1 39 1 ≤ 5 := by omega
  have f8 : 0 ≤ cV1 39 2 ∧ cV1 39 2 ≤ 8 := by omega
  have f9 : 0 ≤ cV1 0 1 ∧ cV1 0 1 ≤ 120 := by omega
  have f10 : ¬ Int.toNat (cV1 0 4) = 0 := by decide +kernel
  have f11 := paI_0
  have f12 := paI_1
  have f13 := cf_im
  have f14 : ∀ k : Nat, k < 4 → 0 ≤ cV1 40 k ∧ cV1 40 k ≤ 20 := fun k hk => by rw [cf_fe k hk]; decide
  have hI0 := mI_0
  have m10 : mM0 1 0 = 0 := by decide +kernel
  have m20 : mM0 2 0 = 0 := by decide +kernel
  have m50 : mM0 5 0 = 0 := by decide +kernel
  have m90 : mM0 9 0 = 1 := by decide +kernel
  have m190 : mM0 19 0 = 0 := by decide +kernel
  have m191 : mM0 19 1 = 0 := by decide +kernel
  have m1912 : mM0 19 12 = 0 := by decide +kernel
  have m200 : mM0 20 0 = 0 := by decide +kernel
  have m280 : mM0 28 0 = 0 := by decide +kernel
  have m290 : mM0 29 0 = 0 := by decide +kernel
  have heq : ((-1) : Int) = (s_waits mM0 x1 x2 x3 x4) := by unfold s_waits; rw [m20, if_neg (by omega)]
  refine lv_aload_n hx hb dL_law_642 rfl (lv_at hl 2 rfl) ?_
  refine lv_aload_n hx hb dL_law_643 rfl (lv_at hl 3 rfl) ?_
  refine lv_iload_n hx hb dL_law_644 rfl (lv_at hl 0 rfl) ?_
  refine lv_iconst (v := iZ 1) hx hb dL_law_645 (by decide) ?_
  refine z_iadd (x := 0) (y := 1) hx hb dL_law_646 ?_
  refine lq_ld hx hb hX hbl hbA hS 1 (by omega) (by omega) e1 (by decide) dL_law_647 ?_
  refine lv_aload_n hx hb dL_law_648 rfl (lv_at hl 3 rfl) ?_
  refine lv_iload_n hx hb dL_law_649 rfl (lv_at hl 0 rfl) ?_
  refine lv_iconst (v := iZ 2) hx hb dL_law_650 (by decide) ?_
  refine z_iadd (x := 0) (y := 2) hx hb dL_law_651 ?_
  refine lq_ld hx hb hX hbl hbA hS 2 (by omega) (by omega) e2 (by decide) dL_law_652 ?_
  refine lv_aload_n hx hb dL_law_653 rfl (lv_at hl 3 rfl) ?_
  refine lv_iload_n hx hb dL_law_654 rfl (lv_at hl 0 rfl) ?_
  refine lv_iconst (v := iZ 3) hx hb dL_law_655 (by decide) ?_
  refine z_iadd (x := 0) (y := 3) hx hb dL_law_656 ?_
  refine lq_ld hx hb hX hbl hbA hS 3 (by omega) (by omega) e3 (by decide) dL_law_657 ?_
  refine lv_aload_n hx hb dL_law_658 rfl (lv_at hl 3 rfl) ?_
  refine lv_iload_n hx hb dL_law_659 rfl (lv_at hl 0 rfl) ?_
  refine lv_iconst (v := iZ 4) hx hb dL_law_660 (by decide) ?_
  refine z_iadd (x := 0) (y := 4) hx hb dL_law_661 ?_
  refine lq_ld hx hb hX hbl hbA hS 4 (by omega) (by omega) e4 (by decide) dL_law_662 ?_
  refine lq_ci (As := [.int (iZ x1), .int (iZ x2), .int (iZ x3), .int (iZ x4)]) (rest := []) ⟨hx, hb, hml, hown, htsL⟩ hKc hP hNA hD hS (K_X7_waits_0 l D C a bb cV1 x1 x2 x3 x4 (by first | assumption | exact trivial) (by first | assumption | exact trivial) (by first | assumption | exact trivial) (by first | assumption | exact trivial) ) (cwV 4 htsL gL_law_X7_waits rfl rfl rfl (by decide +kernel) ⟨Nat.le_of_ble_eq_true rfl, Nat.le_of_ble_eq_true rfl⟩) rfl rfl hl.1 (Nat.le_of_ble_eq_true rfl) ⟨Nat.le_of_ble_eq_true rfl, Nat.le_of_ble_eq_true rfl⟩ dL_law_663 ?_
  refine lv_aload_n hx hb dL_law_666 rfl (lv_at hl 1 rfl) ?_
  refine lv_aload_n hx hb dL_law_667 rfl (lv_at hl 3 rfl) ?_
  refine lv_iload_n hx hb dL_law_668 rfl (lv_at hl 0 rfl) ?_
  refine lv_iconst (v := iZ 1) hx hb dL_law_669 (by decide) ?_
  refine z_iadd (x := 0) (y := 1) hx hb dL_law_670 ?_
  refine lq_ld hx hb hX hbl hbA hS 1 (by omega) (by omega) e1 (by decide) dL_law_671 ?_
  refine lv_aload_n hx hb dL_law_672 rfl (lv_at hl 3 rfl) ?_
  refine lv_iload_n hx hb dL_law_673 rfl (lv_at hl 0 rfl) ?_
  refine lv_iconst (v := iZ 2) hx hb dL_law_674 (by decide) ?_
  refine z_iadd (x := 0) (y := 2) hx hb dL_law_675 ?_
  refine lq_ld hx hb hX hbl hbA hS 2 (by omega) (by omega) e2 (by decide) dL_law_676 ?_
  refine lv_aload_n hx hb dL_law_677 rfl (lv_at hl 3 rfl) ?_
  refine lv_iload_n hx hb dL_law_678 rfl (lv_at hl 0 rfl) ?_
  refine lv_iconst (v := iZ 3) hx hb dL_law_679 (by decide) ?_
  refine z_iadd (x := 0) (y := 3) hx hb dL_law_680 ?_
  refine lq_ld hx hb hX hbl hbA hS 3 (by omega) (by omega) e3 (by decide) dL_law_681 ?_
  refine lv_aload_n hx hb dL_law_682 rfl (lv_at hl 3 rfl) ?_
  refine lv_iload_n hx hb dL_law_683 rfl (lv_at hl 0 rfl) ?_
  refine lv_iconst (v := iZ 4) hx hb dL_law_684 (by decide) ?_
  refine z_iadd (x := 0) (y := 4) hx hb dL_law_685 ?_
  refine lq_ld hx hb hX hbl hbA hS 4 (by omega) (by omega) e4 (by decide) dL_law_686 ?_
  refine lq_mi (As := [.int (iZ x1), .int (iZ x2), .int (iZ x3), .int (iZ x4)]) (rest := [.int (iZ (-1))]) ⟨hx, hb, hml, hown, htsL⟩ hKm hPm (C_waits l D C2 h2 a2 mM0 x1 x2 x3 x4 (by first | assumption | exact trivial) (by first | assumption | exact trivial) (by first | assumption | exact trivial) (by first | assumption | exact trivial) (by first | assumption | exact trivial) ) (cwV 4 htsL gL_law_X8_waits rfl rfl rfl (by decide +kernel) ⟨Nat.le_of_ble_eq_true rfl, Nat.le_of_ble_eq_true rfl⟩) rfl rfl hl.1 (Nat.le_of_ble_eq_true rfl) ⟨Nat.le_of_ble_eq_true rfl, Nat.le_of_ble_eq_true rfl⟩ dL_law_687 ?_
  rw [heq]
  refine lv_icmp_eq (tgt := 1022) hx hb dL_law_690 (by decide) (fun _ => ?_) (fun z => absurd rfl z)
  exact p1_end (a := a) l C0 hL hS hl
set_option maxHeartbeats 4000000 in
set_option maxRecDepth 100000 in
theorem p1_case_17 {p : Program} {e : Env} {s : State} {m : MethodId} {below : List Frame} {meth : Method} {c : Code} (l : Launch) {b L : Nat} {xs : Nat → Int32} (C0 : lw_At p s m meth c b L xs) (hL : L = 6) {D : va_G} {C : cC} {C2 : mC} (hKc : va_K D vwCl (cT C) s) (hKm : va_K D vwCl (mT C2) s) {a a2 bb : Nat → Nat} {h2 : Nat} (hNA : cNA D C (fun q : Nat => s.heap.size ≤ q) bb s)
  {H : Heap} {locs : List Loc} (hP : va_P D vwCl (cW C a cV1) H) (hD : va_D (fun q : Nat => s.heap.size ≤ q) (cW C a cV1)) (hPm : va_P D vwCl (mW C2 h2 a2 mM0) H) (hDm : va_D (fun q : Nat => s.heap.size ≤ q) (mW C2 h2 a2 mM0)) (hjk : ∀ k : Nat, ∃ (j : Nat) (e : va_E), (mW C2 h2 a2 mM0)[j]? = some (a2 k, e)) (hdj : ∀ q, cA a q → ¬ mA h2 a2 q) (hS : va_S (fun q : Nat => s.heap.size ≤ q) s.heap H locs) {ls : Array Slot} (hl : lv_has ls 4 [(3, .int (iZ 0)), (2, .ref h2), (1, .ref (a 0)), (0, .ref b)]) : W p l e room_1 s m #[Value.ref b] below meth c H locs 600000 7302250 (lw_Z below #[Value.ref b] s) (F0 m 695 ls []) := by
  obtain ⟨hx, hb, hr, hml, hown, hts, hX, hbl, hlocks, hgv⟩ := id C0
  have hbA : ¬ (fun q : Nat => s.heap.size ≤ q) b := Nat.not_le.mpr hbl
  have htsL : ∀ w ∈ wsL_law, w.before #[Value.ref b] s = true := fun w h => hts w (wsL_law_in w h)
  obtain ⟨x1, hz1, e1⟩ := iZ_of (xs 1)
  obtain ⟨x2, hz2, e2⟩ := iZ_of (xs 2)
  obtain ⟨x3, hz3, e3⟩ := iZ_of (xs 3)
  have f1 : isTo (Int.toNat (cV1 0 3)) := by rw [show cV1 0 3 = 15 by decide +kernel]; unfold isTo; omega
  have f2 : isTo (Int.toNat (cV1 0 4)) := by rw [show cV1 0 4 = 23 by decide +kernel]; unfold isTo; omega
  have f3 : cV1 (Int.toNat (cV1 0 3)) 7 = 0 := by decide +kernel
  have f4 : cV1 (Int.toNat (cV1 0 3)) 8 = 0 := by decide +kernel
  have f5 : 0 ≤ cV1 (Int.toNat (cV1 0 3)) 9 ∧ cV1 (Int.toNat (cV1 0 3)) 9 ≤ 6 := by decide +kernel
  have f5b : cV1 (Int.toNat (cV1 0 3)) 9 = 0 := by decide +kernel
  have g390 : cV1 39 0 = 0 := by decide +kernel
  have g391 : cV1 39 1 = 0 := by decide +kernel
  have g392 : cV1 39 2 = 0 := by decide +kernel
  have g01 : cV1 0 1 = 0 := by decide +kernel
  have g44 : cV1 4 4 = 0 := by decide +kernel
  have g311 : cV1 31 1 = 0 := by decide +kernel
  have g012 : cV1 0 12 = 0 := by decide +kernel
  have f6 : 0 ≤ cV1 39 0 ∧ cV1 39 0 ≤ 999 := by omega
  have f7 : 0 ≤ cV1 39 1 ∧ cV1 39 1 ≤ 5 := by omega
  have f8 : 0 ≤ cV1 39 2 ∧ cV1 39 2 ≤ 8 := by omega
  have f9 : 0 ≤ cV1 0 1 ∧ cV1 0 1 ≤ 120 := by omega
  have f10 : ¬ Int.toNat (cV1 0 4) = 0 := by decide +kernel
  have f11 := paI_0
  have f12 := paI_1
  have f13 := cf_im
  have f14 : ∀ k : Nat, k < 4 → 0 ≤ cV1 40 k ∧ cV1 40 k ≤ 20 := fun k hk => by rw [cf_fe k hk]; decide
  have hI0 := mI_0
  have m10 : mM0 1 0 = 0 := by decide +kernel
  have m20 : mM0 2 0 = 0 := by decide +kernel
  have m50 : mM0 5 0 = 0 := by decide +kernel
  have m90 : mM0 9 0 = 1 := by decide +kernel
  have m190 : mM0 19 0 = 0 := by decide +kernel
  have m191 : mM0 19 1 = 0 := by decide +kernel
  have m1912 : mM0 19 12 = 0 := by decide +kernel
  have m200 : mM0 20 0 = 0 := by decide +kernel
  have m280 : mM0 28 0 = 0 := by decide +kernel
  have m290 : mM0 29 0 = 0 := by decide +kernel
  have heq : ((-1) : Int) = (s_relay mM0 x1 x2 x3) := by unfold s_relay; rw [m50, if_pos (by omega)]
  refine lv_aload_n hx hb dL_law_695 rfl (lv_at hl 2 rfl) ?_
  refine lv_aload_n hx hb dL_law_696 rfl (lv_at hl 3 rfl) ?_
  refine lv_iload_n hx hb dL_law_697 rfl (lv_at hl 0 rfl) ?_
  refine lv_iconst (v := iZ 1) hx hb dL_law_698 (by decide) ?_
  refine z_iadd (x := 0) (y := 1) hx hb dL_law_699 ?_
  refine lq_ld hx hb hX hbl hbA hS 1 (by omega) (by omega) e1 (by decide) dL_law_700 ?_
  refine lv_aload_n hx hb dL_law_701 rfl (lv_at hl 3 rfl) ?_
  refine lv_iload_n hx hb dL_law_702 rfl (lv_at hl 0 rfl) ?_
  refine lv_iconst (v := iZ 2) hx hb dL_law_703 (by decide) ?_
  refine z_iadd (x := 0) (y := 2) hx hb dL_law_704 ?_
  refine lq_ld hx hb hX hbl hbA hS 2 (by omega) (by omega) e2 (by decide) dL_law_705 ?_
  refine lv_aload_n hx hb dL_law_706 rfl (lv_at hl 3 rfl) ?_
  refine lv_iload_n hx hb dL_law_707 rfl (lv_at hl 0 rfl) ?_
  refine lv_iconst (v := iZ 3) hx hb dL_law_708 (by decide) ?_
  refine z_iadd (x := 0) (y := 3) hx hb dL_law_709 ?_
  refine lq_ld hx hb hX hbl hbA hS 3 (by omega) (by omega) e3 (by decide) dL_law_710 ?_
  refine lq_ci (As := [.int (iZ x1), .int (iZ x2), .int (iZ x3)]) (rest := []) ⟨hx, hb, hml, hown, htsL⟩ hKc hP hNA hD hS (K_X7_relay_0 l D C a bb cV1 x1 x2 x3 (by first | assumption | exact trivial) (by first | assumption | exact trivial) (by first | assumption | exact trivial) ) (cwV 3 htsL gL_law_X7_relay rfl rfl rfl (by decide +kernel) ⟨Nat.le_of_ble_eq_true rfl, Nat.le_of_ble_eq_true rfl⟩) rfl rfl hl.1 (Nat.le_of_ble_eq_true rfl) ⟨Nat.le_of_ble_eq_true rfl, Nat.le_of_ble_eq_true rfl⟩ dL_law_711 ?_
  refine lv_aload_n hx hb dL_law_714 rfl (lv_at hl 1 rfl) ?_
  refine lv_aload_n hx hb dL_law_715 rfl (lv_at hl 3 rfl) ?_
  refine lv_iload_n hx hb dL_law_716 rfl (lv_at hl 0 rfl) ?_
  refine lv_iconst (v := iZ 1) hx hb dL_law_717 (by decide) ?_
  refine z_iadd (x := 0) (y := 1) hx hb dL_law_718 ?_
  refine lq_ld hx hb hX hbl hbA hS 1 (by omega) (by omega) e1 (by decide) dL_law_719 ?_
  refine lv_aload_n hx hb dL_law_720 rfl (lv_at hl 3 rfl) ?_
  refine lv_iload_n hx hb dL_law_721 rfl (lv_at hl 0 rfl) ?_
  refine lv_iconst (v := iZ 2) hx hb dL_law_722 (by decide) ?_
  refine z_iadd (x := 0) (y := 2) hx hb dL_law_723 ?_
  refine lq_ld hx hb hX hbl hbA hS 2 (by omega) (by omega) e2 (by decide) dL_law_724 ?_
  refine lv_aload_n hx hb dL_law_725 rfl (lv_at hl 3 rfl) ?_
  refine lv_iload_n hx hb dL_law_726 rfl (lv_at hl 0 rfl) ?_
  refine lv_iconst (v := iZ 3) hx hb dL_law_727 (by decide) ?_
  refine z_iadd (x := 0) (y := 3) hx hb dL_law_728 ?_
  refine lq_ld hx hb hX hbl hbA hS 3 (by omega) (by omega) e3 (by decide) dL_law_729 ?_
  refine lq_mm (As := [.int (iZ x1), .int (iZ x2), .int (iZ x3)]) (rest := [.int (iZ (-1))]) ⟨hx, hb, hml, hown, htsL⟩ hKm hPm hDm hS (mA_of hDm hjk) (C_relay l D C2 h2 a2 mM0 x1 x2 x3 (by first | assumption | exact trivial) (by first | assumption | exact trivial) (by first | assumption | exact trivial) (by first | assumption | exact trivial) (hDm.weaken (fun _ _ _ _ => trivial))) (cwV 3 htsL gL_law_X8_relay rfl rfl rfl (by decide +kernel) ⟨Nat.le_of_ble_eq_true rfl, Nat.le_of_ble_eq_true rfl⟩) rfl rfl hl.1 (Nat.le_of_ble_eq_true rfl) ⟨Nat.le_of_ble_eq_true rfl, Nat.le_of_ble_eq_true rfl⟩ dL_law_730 (fun H locs _ _ hS9 _ => ?_)
  replace hS := hS9
  rw [heq]
  refine lv_icmp_eq (tgt := 1022) hx hb dL_law_733 (by decide) (fun _ => ?_) (fun z => absurd rfl z)
  exact p1_end (a := a) l C0 hL hS hl
set_option maxHeartbeats 4000000 in
set_option maxRecDepth 100000 in
theorem p1_case_18 {p : Program} {e : Env} {s : State} {m : MethodId} {below : List Frame} {meth : Method} {c : Code} (l : Launch) {b L : Nat} {xs : Nat → Int32} (C0 : lw_At p s m meth c b L xs) (hL : L = 6) {D : va_G} {C : cC} {C2 : mC} (hKc : va_K D vwCl (cT C) s) (hKm : va_K D vwCl (mT C2) s) {a a2 bb : Nat → Nat} {h2 : Nat} (hNA : cNA D C (fun q : Nat => s.heap.size ≤ q) bb s)
  {H : Heap} {locs : List Loc} (hP : va_P D vwCl (cW C a cV1) H) (hD : va_D (fun q : Nat => s.heap.size ≤ q) (cW C a cV1)) (hPm : va_P D vwCl (mW C2 h2 a2 mM0) H) (hDm : va_D (fun q : Nat => s.heap.size ≤ q) (mW C2 h2 a2 mM0)) (hjk : ∀ k : Nat, ∃ (j : Nat) (e : va_E), (mW C2 h2 a2 mM0)[j]? = some (a2 k, e)) (hdj : ∀ q, cA a q → ¬ mA h2 a2 q) (hS : va_S (fun q : Nat => s.heap.size ≤ q) s.heap H locs) {ls : Array Slot} (hl : lv_has ls 4 [(3, .int (iZ 0)), (2, .ref h2), (1, .ref (a 0)), (0, .ref b)]) : W p l e room_1 s m #[Value.ref b] below meth c H locs 600000 7302250 (lw_Z below #[Value.ref b] s) (F0 m 738 ls []) := by
  obtain ⟨hx, hb, hr, hml, hown, hts, hX, hbl, hlocks, hgv⟩ := id C0
  have hbA : ¬ (fun q : Nat => s.heap.size ≤ q) b := Nat.not_le.mpr hbl
  have htsL : ∀ w ∈ wsL_law, w.before #[Value.ref b] s = true := fun w h => hts w (wsL_law_in w h)
  obtain ⟨x1, hz1, e1⟩ := iZ_of (xs 1)
  obtain ⟨x2, hz2, e2⟩ := iZ_of (xs 2)
  have f1 : isTo (Int.toNat (cV1 0 3)) := by rw [show cV1 0 3 = 15 by decide +kernel]; unfold isTo; omega
  have f2 : isTo (Int.toNat (cV1 0 4)) := by rw [show cV1 0 4 = 23 by decide +kernel]; unfold isTo; omega
  have f3 : cV1 (Int.toNat (cV1 0 3)) 7 = 0 := by decide +kernel
  have f4 : cV1 (Int.toNat (cV1 0 3)) 8 = 0 := by decide +kernel
  have f5 : 0 ≤ cV1 (Int.toNat (cV1 0 3)) 9 ∧ cV1 (Int.toNat (cV1 0 3)) 9 ≤ 6 := by decide +kernel
  have f5b : cV1 (Int.toNat (cV1 0 3)) 9 = 0 := by decide +kernel
  have g390 : cV1 39 0 = 0 := by decide +kernel
  have g391 : cV1 39 1 = 0 := by decide +kernel
  have g392 : cV1 39 2 = 0 := by decide +kernel
  have g01 : cV1 0 1 = 0 := by decide +kernel
  have g44 : cV1 4 4 = 0 := by decide +kernel
  have g311 : cV1 31 1 = 0 := by decide +kernel
  have g012 : cV1 0 12 = 0 := by decide +kernel
  have f6 : 0 ≤ cV1 39 0 ∧ cV1 39 0 ≤ 999 := by omega
  have f7 : 0 ≤ cV1 39 1 ∧ cV1 39 1 ≤ 5 := by omega
  have f8 : 0 ≤ cV1 39 2 ∧ cV1 39 2 ≤ 8 := by omega
  have f9 : 0 ≤ cV1 0 1 ∧ cV1 0 1 ≤ 120 := by omega
  have f10 : ¬ Int.toNat (cV1 0 4) = 0 := by decide +kernel
  have f11 := paI_0
  have f12 := paI_1
  have f13 := cf_im
  have f14 : ∀ k : Nat, k < 4 → 0 ≤ cV1 40 k ∧ cV1 40 k ≤ 20 := fun k hk => by rw [cf_fe k hk]; decide
  have hI0 := mI_0
  have m10 : mM0 1 0 = 0 := by decide +kernel
  have m20 : mM0 2 0 = 0 := by decide +kernel
  have m50 : mM0 5 0 = 0 := by decide +kernel
  have m90 : mM0 9 0 = 1 := by decide +kernel
  have m190 : mM0 19 0 = 0 := by decide +kernel
  have m191 : mM0 19 1 = 0 := by decide +kernel
  have m1912 : mM0 19 12 = 0 := by decide +kernel
  have m200 : mM0 20 0 = 0 := by decide +kernel
  have m280 : mM0 28 0 = 0 := by decide +kernel
  have m290 : mM0 29 0 = 0 := by decide +kernel
  have heq : ((-1) : Int) = (s_allot mM0 x1 x2) := by unfold s_allot s_aok; rw [m50]; exact (if_pos (by rw [show zp 0 = 1 from rfl]; omega)).symm
  refine lv_aload_n hx hb dL_law_738 rfl (lv_at hl 2 rfl) ?_
  refine lv_aload_n hx hb dL_law_739 rfl (lv_at hl 3 rfl) ?_
  refine lv_iload_n hx hb dL_law_740 rfl (lv_at hl 0 rfl) ?_
  refine lv_iconst (v := iZ 1) hx hb dL_law_741 (by decide) ?_
  refine z_iadd (x := 0) (y := 1) hx hb dL_law_742 ?_
  refine lq_ld hx hb hX hbl hbA hS 1 (by omega) (by omega) e1 (by decide) dL_law_743 ?_
  refine lv_aload_n hx hb dL_law_744 rfl (lv_at hl 3 rfl) ?_
  refine lv_iload_n hx hb dL_law_745 rfl (lv_at hl 0 rfl) ?_
  refine lv_iconst (v := iZ 2) hx hb dL_law_746 (by decide) ?_
  refine z_iadd (x := 0) (y := 2) hx hb dL_law_747 ?_
  refine lq_ld hx hb hX hbl hbA hS 2 (by omega) (by omega) e2 (by decide) dL_law_748 ?_
  refine lq_ci (As := [.int (iZ x1), .int (iZ x2)]) (rest := []) ⟨hx, hb, hml, hown, htsL⟩ hKc hP hNA hD hS (K_X7_allot_0 l D C a bb cV1 x1 x2 (by first | assumption | exact trivial) (by first | assumption | exact trivial) (by first | assumption | exact trivial) ) (cwV 2 htsL gL_law_X7_allot rfl rfl rfl (by decide +kernel) ⟨Nat.le_of_ble_eq_true rfl, Nat.le_of_ble_eq_true rfl⟩) rfl rfl hl.1 (Nat.le_of_ble_eq_true rfl) ⟨Nat.le_of_ble_eq_true rfl, Nat.le_of_ble_eq_true rfl⟩ dL_law_749 ?_
  refine lv_aload_n hx hb dL_law_752 rfl (lv_at hl 1 rfl) ?_
  refine lv_aload_n hx hb dL_law_753 rfl (lv_at hl 3 rfl) ?_
  refine lv_iload_n hx hb dL_law_754 rfl (lv_at hl 0 rfl) ?_
  refine lv_iconst (v := iZ 1) hx hb dL_law_755 (by decide) ?_
  refine z_iadd (x := 0) (y := 1) hx hb dL_law_756 ?_
  refine lq_ld hx hb hX hbl hbA hS 1 (by omega) (by omega) e1 (by decide) dL_law_757 ?_
  refine lv_aload_n hx hb dL_law_758 rfl (lv_at hl 3 rfl) ?_
  refine lv_iload_n hx hb dL_law_759 rfl (lv_at hl 0 rfl) ?_
  refine lv_iconst (v := iZ 2) hx hb dL_law_760 (by decide) ?_
  refine z_iadd (x := 0) (y := 2) hx hb dL_law_761 ?_
  refine lq_ld hx hb hX hbl hbA hS 2 (by omega) (by omega) e2 (by decide) dL_law_762 ?_
  refine lq_mm (As := [.int (iZ x1), .int (iZ x2)]) (rest := [.int (iZ (-1))]) ⟨hx, hb, hml, hown, htsL⟩ hKm hPm hDm hS (mA_of hDm hjk) (C_allot l D C2 h2 a2 mM0 x1 x2 (by first | assumption | exact trivial) (by first | assumption | exact trivial) (by first | assumption | exact trivial) (hDm.weaken (fun _ _ _ _ => trivial))) (cwV 2 htsL gL_law_X8_allot rfl rfl rfl (by decide +kernel) ⟨Nat.le_of_ble_eq_true rfl, Nat.le_of_ble_eq_true rfl⟩) rfl rfl hl.1 (Nat.le_of_ble_eq_true rfl) ⟨Nat.le_of_ble_eq_true rfl, Nat.le_of_ble_eq_true rfl⟩ dL_law_763 (fun H locs _ _ hS9 _ => ?_)
  replace hS := hS9
  rw [heq]
  refine lv_icmp_eq (tgt := 1022) hx hb dL_law_766 (by decide) (fun _ => ?_) (fun z => absurd rfl z)
  exact p1_end (a := a) l C0 hL hS hl
set_option maxHeartbeats 4000000 in
set_option maxRecDepth 100000 in
theorem p1_case_19 {p : Program} {e : Env} {s : State} {m : MethodId} {below : List Frame} {meth : Method} {c : Code} (l : Launch) {b L : Nat} {xs : Nat → Int32} (C0 : lw_At p s m meth c b L xs) (hL : L = 6) {D : va_G} {C : cC} {C2 : mC} (hKc : va_K D vwCl (cT C) s) (hKm : va_K D vwCl (mT C2) s) {a a2 bb : Nat → Nat} {h2 : Nat} (hNA : cNA D C (fun q : Nat => s.heap.size ≤ q) bb s)
  {H : Heap} {locs : List Loc} (hP : va_P D vwCl (cW C a cV1) H) (hD : va_D (fun q : Nat => s.heap.size ≤ q) (cW C a cV1)) (hPm : va_P D vwCl (mW C2 h2 a2 mM0) H) (hDm : va_D (fun q : Nat => s.heap.size ≤ q) (mW C2 h2 a2 mM0)) (hjk : ∀ k : Nat, ∃ (j : Nat) (e : va_E), (mW C2 h2 a2 mM0)[j]? = some (a2 k, e)) (hdj : ∀ q, cA a q → ¬ mA h2 a2 q) (hS : va_S (fun q : Nat => s.heap.size ≤ q) s.heap H locs) {ls : Array Slot} (hl : lv_has ls 4 [(3, .int (iZ 0)), (2, .ref h2), (1, .ref (a 0)), (0, .ref b)]) : W p l e room_1 s m #[Value.ref b] below meth c H locs 600000 7302250 (lw_Z below #[Value.ref b] s) (F0 m 771 ls []) := by
  obtain ⟨hx, hb, hr, hml, hown, hts, hX, hbl, hlocks, hgv⟩ := id C0
  have hbA : ¬ (fun q : Nat => s.heap.size ≤ q) b := Nat.not_le.mpr hbl
  have htsL : ∀ w ∈ wsL_law, w.before #[Value.ref b] s = true := fun w h => hts w (wsL_law_in w h)
  obtain ⟨x1, hz1, e1⟩ := iZ_of (xs 1)
  obtain ⟨x2, hz2, e2⟩ := iZ_of (xs 2)
  obtain ⟨x3, hz3, e3⟩ := iZ_of (xs 3)
  obtain ⟨x4, hz4, e4⟩ := iZ_of (xs 4)
  obtain ⟨x5, hz5, e5⟩ := iZ_of (xs 5)
  have f1 : isTo (Int.toNat (cV1 0 3)) := by rw [show cV1 0 3 = 15 by decide +kernel]; unfold isTo; omega
  have f2 : isTo (Int.toNat (cV1 0 4)) := by rw [show cV1 0 4 = 23 by decide +kernel]; unfold isTo; omega
  have f3 : cV1 (Int.toNat (cV1 0 3)) 7 = 0 := by decide +kernel
  have f4 : cV1 (Int.toNat (cV1 0 3)) 8 = 0 := by decide +kernel
  have f5 : 0 ≤ cV1 (Int.toNat (cV1 0 3)) 9 ∧ cV1 (Int.toNat (cV1 0 3)) 9 ≤ 6 := by decide +kernel
  have f5b : cV1 (Int.toNat (cV1 0 3)) 9 = 0 := by decide +kernel
  have g390 : cV1 39 0 = 0 := by decide +kernel
  have g391 : cV1 39 1 = 0 := by decide +kernel
  have g392 : cV1 39 2 = 0 := by decide +kernel
  have g01 : cV1 0 1 = 0 := by decide +kernel
  have g44 : cV1 4 4 = 0 := by decide +kernel
  have g311 : cV1 31 1 = 0 := by decide +kernel
  have g012 : cV1 0 12 = 0 := by decide +kernel
  have f6 : 0 ≤ cV1 39 0 ∧ cV1 39 0 ≤ 999 := by omega
  have f7 : 0 ≤ cV1 39 1 ∧ cV1 39 1 ≤ 5 := by omega
  have f8 : 0 ≤ cV1 39 2 ∧ cV1 39 2 ≤ 8 := by omega
  have f9 : 0 ≤ cV1 0 1 ∧ cV1 0 1 ≤ 120 := by omega
  have f10 : ¬ Int.toNat (cV1 0 4) = 0 := by decide +kernel
  have f11 := paI_0
  have f12 := paI_1
  have f13 := cf_im
  have f14 : ∀ k : Nat, k < 4 → 0 ≤ cV1 40 k ∧ cV1 40 k ≤ 20 := fun k hk => by rw [cf_fe k hk]; decide
  have hI0 := mI_0
  have m10 : mM0 1 0 = 0 := by decide +kernel
  have m20 : mM0 2 0 = 0 := by decide +kernel
  have m50 : mM0 5 0 = 0 := by decide +kernel
  have m90 : mM0 9 0 = 1 := by decide +kernel
  have m190 : mM0 19 0 = 0 := by decide +kernel
  have m191 : mM0 19 1 = 0 := by decide +kernel
  have m1912 : mM0 19 12 = 0 := by decide +kernel
  have m200 : mM0 20 0 = 0 := by decide +kernel
  have m280 : mM0 28 0 = 0 := by decide +kernel
  have m290 : mM0 29 0 = 0 := by decide +kernel
  have heq : ((-1) : Int) = (s_odds mM0 x1 x2 x3 x4 x5) := by unfold s_odds; rw [m20, if_pos (by omega)]
  refine lv_aload_n hx hb dL_law_771 rfl (lv_at hl 2 rfl) ?_
  refine lv_aload_n hx hb dL_law_772 rfl (lv_at hl 3 rfl) ?_
  refine lv_iload_n hx hb dL_law_773 rfl (lv_at hl 0 rfl) ?_
  refine lv_iconst (v := iZ 1) hx hb dL_law_774 (by decide) ?_
  refine z_iadd (x := 0) (y := 1) hx hb dL_law_775 ?_
  refine lq_ld hx hb hX hbl hbA hS 1 (by omega) (by omega) e1 (by decide) dL_law_776 ?_
  refine lv_aload_n hx hb dL_law_777 rfl (lv_at hl 3 rfl) ?_
  refine lv_iload_n hx hb dL_law_778 rfl (lv_at hl 0 rfl) ?_
  refine lv_iconst (v := iZ 2) hx hb dL_law_779 (by decide) ?_
  refine z_iadd (x := 0) (y := 2) hx hb dL_law_780 ?_
  refine lq_ld hx hb hX hbl hbA hS 2 (by omega) (by omega) e2 (by decide) dL_law_781 ?_
  refine lv_aload_n hx hb dL_law_782 rfl (lv_at hl 3 rfl) ?_
  refine lv_iload_n hx hb dL_law_783 rfl (lv_at hl 0 rfl) ?_
  refine lv_iconst (v := iZ 3) hx hb dL_law_784 (by decide) ?_
  refine z_iadd (x := 0) (y := 3) hx hb dL_law_785 ?_
  refine lq_ld hx hb hX hbl hbA hS 3 (by omega) (by omega) e3 (by decide) dL_law_786 ?_
  refine lv_aload_n hx hb dL_law_787 rfl (lv_at hl 3 rfl) ?_
  refine lv_iload_n hx hb dL_law_788 rfl (lv_at hl 0 rfl) ?_
  refine lv_iconst (v := iZ 4) hx hb dL_law_789 (by decide) ?_
  refine z_iadd (x := 0) (y := 4) hx hb dL_law_790 ?_
  refine lq_ld hx hb hX hbl hbA hS 4 (by omega) (by omega) e4 (by decide) dL_law_791 ?_
  refine lv_aload_n hx hb dL_law_792 rfl (lv_at hl 3 rfl) ?_
  refine lv_iload_n hx hb dL_law_793 rfl (lv_at hl 0 rfl) ?_
  refine lv_iconst (v := iZ 5) hx hb dL_law_794 (by decide) ?_
  refine z_iadd (x := 0) (y := 5) hx hb dL_law_795 ?_
  refine lq_ld hx hb hX hbl hbA hS 5 (by omega) (by omega) e5 (by decide) dL_law_796 ?_
  refine lq_ci (As := [.int (iZ x1), .int (iZ x2), .int (iZ x3), .int (iZ x4), .int (iZ x5)]) (rest := []) ⟨hx, hb, hml, hown, htsL⟩ hKc hP hNA hD hS (K_X7_odds_0 l D C a bb cV1 x1 x2 x3 x4 x5 (by first | assumption | exact trivial) (by first | assumption | exact trivial) (by first | assumption | exact trivial) (by first | assumption | exact trivial) ) (cwV 5 htsL gL_law_X7_odds rfl rfl rfl (by decide +kernel) ⟨Nat.le_of_ble_eq_true rfl, Nat.le_of_ble_eq_true rfl⟩) rfl rfl hl.1 (Nat.le_of_ble_eq_true rfl) ⟨Nat.le_of_ble_eq_true rfl, Nat.le_of_ble_eq_true rfl⟩ dL_law_797 ?_
  refine lv_aload_n hx hb dL_law_800 rfl (lv_at hl 1 rfl) ?_
  refine lv_aload_n hx hb dL_law_801 rfl (lv_at hl 3 rfl) ?_
  refine lv_iload_n hx hb dL_law_802 rfl (lv_at hl 0 rfl) ?_
  refine lv_iconst (v := iZ 1) hx hb dL_law_803 (by decide) ?_
  refine z_iadd (x := 0) (y := 1) hx hb dL_law_804 ?_
  refine lq_ld hx hb hX hbl hbA hS 1 (by omega) (by omega) e1 (by decide) dL_law_805 ?_
  refine lv_aload_n hx hb dL_law_806 rfl (lv_at hl 3 rfl) ?_
  refine lv_iload_n hx hb dL_law_807 rfl (lv_at hl 0 rfl) ?_
  refine lv_iconst (v := iZ 2) hx hb dL_law_808 (by decide) ?_
  refine z_iadd (x := 0) (y := 2) hx hb dL_law_809 ?_
  refine lq_ld hx hb hX hbl hbA hS 2 (by omega) (by omega) e2 (by decide) dL_law_810 ?_
  refine lv_aload_n hx hb dL_law_811 rfl (lv_at hl 3 rfl) ?_
  refine lv_iload_n hx hb dL_law_812 rfl (lv_at hl 0 rfl) ?_
  refine lv_iconst (v := iZ 3) hx hb dL_law_813 (by decide) ?_
  refine z_iadd (x := 0) (y := 3) hx hb dL_law_814 ?_
  refine lq_ld hx hb hX hbl hbA hS 3 (by omega) (by omega) e3 (by decide) dL_law_815 ?_
  refine lv_aload_n hx hb dL_law_816 rfl (lv_at hl 3 rfl) ?_
  refine lv_iload_n hx hb dL_law_817 rfl (lv_at hl 0 rfl) ?_
  refine lv_iconst (v := iZ 4) hx hb dL_law_818 (by decide) ?_
  refine z_iadd (x := 0) (y := 4) hx hb dL_law_819 ?_
  refine lq_ld hx hb hX hbl hbA hS 4 (by omega) (by omega) e4 (by decide) dL_law_820 ?_
  refine lv_aload_n hx hb dL_law_821 rfl (lv_at hl 3 rfl) ?_
  refine lv_iload_n hx hb dL_law_822 rfl (lv_at hl 0 rfl) ?_
  refine lv_iconst (v := iZ 5) hx hb dL_law_823 (by decide) ?_
  refine z_iadd (x := 0) (y := 5) hx hb dL_law_824 ?_
  refine lq_ld hx hb hX hbl hbA hS 5 (by omega) (by omega) e5 (by decide) dL_law_825 ?_
  refine lq_mi (As := [.int (iZ x1), .int (iZ x2), .int (iZ x3), .int (iZ x4), .int (iZ x5)]) (rest := [.int (iZ (-1))]) ⟨hx, hb, hml, hown, htsL⟩ hKm hPm (C_odds l D C2 h2 a2 mM0 x1 x2 x3 x4 x5 (by first | assumption | exact trivial) (by first | assumption | exact trivial) (by first | assumption | exact trivial) (by first | assumption | exact trivial) (by first | assumption | exact trivial) (by first | assumption | exact trivial) ) (cwV 5 htsL gL_law_X8_odds rfl rfl rfl (by decide +kernel) ⟨Nat.le_of_ble_eq_true rfl, Nat.le_of_ble_eq_true rfl⟩) rfl rfl hl.1 (Nat.le_of_ble_eq_true rfl) ⟨Nat.le_of_ble_eq_true rfl, Nat.le_of_ble_eq_true rfl⟩ dL_law_826 ?_
  rw [heq]
  refine lv_icmp_eq (tgt := 1022) hx hb dL_law_829 (by decide) (fun _ => ?_) (fun z => absurd rfl z)
  exact p1_end (a := a) l C0 hL hS hl
set_option maxHeartbeats 4000000 in
set_option maxRecDepth 100000 in
theorem p1_case_20 {p : Program} {e : Env} {s : State} {m : MethodId} {below : List Frame} {meth : Method} {c : Code} (l : Launch) {b L : Nat} {xs : Nat → Int32} (C0 : lw_At p s m meth c b L xs) (hL : L = 6) {D : va_G} {C : cC} {C2 : mC} (hKc : va_K D vwCl (cT C) s) (hKm : va_K D vwCl (mT C2) s) {a a2 bb : Nat → Nat} {h2 : Nat} (hNA : cNA D C (fun q : Nat => s.heap.size ≤ q) bb s)
  {H : Heap} {locs : List Loc} (hP : va_P D vwCl (cW C a cV1) H) (hD : va_D (fun q : Nat => s.heap.size ≤ q) (cW C a cV1)) (hPm : va_P D vwCl (mW C2 h2 a2 mM0) H) (hDm : va_D (fun q : Nat => s.heap.size ≤ q) (mW C2 h2 a2 mM0)) (hjk : ∀ k : Nat, ∃ (j : Nat) (e : va_E), (mW C2 h2 a2 mM0)[j]? = some (a2 k, e)) (hdj : ∀ q, cA a q → ¬ mA h2 a2 q) (hS : va_S (fun q : Nat => s.heap.size ≤ q) s.heap H locs) {ls : Array Slot} (hl : lv_has ls 4 [(3, .int (iZ 0)), (2, .ref h2), (1, .ref (a 0)), (0, .ref b)]) : W p l e room_1 s m #[Value.ref b] below meth c H locs 600000 7302250 (lw_Z below #[Value.ref b] s) (F0 m 834 ls []) := by
  obtain ⟨hx, hb, hr, hml, hown, hts, hX, hbl, hlocks, hgv⟩ := id C0
  have hbA : ¬ (fun q : Nat => s.heap.size ≤ q) b := Nat.not_le.mpr hbl
  have htsL : ∀ w ∈ wsL_law, w.before #[Value.ref b] s = true := fun w h => hts w (wsL_law_in w h)
  obtain ⟨x1, hz1, e1⟩ := iZ_of (xs 1)
  obtain ⟨x2, hz2, e2⟩ := iZ_of (xs 2)
  have f1 : isTo (Int.toNat (cV1 0 3)) := by rw [show cV1 0 3 = 15 by decide +kernel]; unfold isTo; omega
  have f2 : isTo (Int.toNat (cV1 0 4)) := by rw [show cV1 0 4 = 23 by decide +kernel]; unfold isTo; omega
  have f3 : cV1 (Int.toNat (cV1 0 3)) 7 = 0 := by decide +kernel
  have f4 : cV1 (Int.toNat (cV1 0 3)) 8 = 0 := by decide +kernel
  have f5 : 0 ≤ cV1 (Int.toNat (cV1 0 3)) 9 ∧ cV1 (Int.toNat (cV1 0 3)) 9 ≤ 6 := by decide +kernel
  have f5b : cV1 (Int.toNat (cV1 0 3)) 9 = 0 := by decide +kernel
  have g390 : cV1 39 0 = 0 := by decide +kernel
  have g391 : cV1 39 1 = 0 := by decide +kernel
  have g392 : cV1 39 2 = 0 := by decide +kernel
  have g01 : cV1 0 1 = 0 := by decide +kernel
  have g44 : cV1 4 4 = 0 := by decide +kernel
  have g311 : cV1 31 1 = 0 := by decide +kernel
  have g012 : cV1 0 12 = 0 := by decide +kernel
  have f6 : 0 ≤ cV1 39 0 ∧ cV1 39 0 ≤ 999 := by omega
  have f7 : 0 ≤ cV1 39 1 ∧ cV1 39 1 ≤ 5 := by omega
  have f8 : 0 ≤ cV1 39 2 ∧ cV1 39 2 ≤ 8 := by omega
  have f9 : 0 ≤ cV1 0 1 ∧ cV1 0 1 ≤ 120 := by omega
  have f10 : ¬ Int.toNat (cV1 0 4) = 0 := by decide +kernel
  have f11 := paI_0
  have f12 := paI_1
  have f13 := cf_im
  have f14 : ∀ k : Nat, k < 4 → 0 ≤ cV1 40 k ∧ cV1 40 k ≤ 20 := fun k hk => by rw [cf_fe k hk]; decide
  have hI0 := mI_0
  have m10 : mM0 1 0 = 0 := by decide +kernel
  have m20 : mM0 2 0 = 0 := by decide +kernel
  have m50 : mM0 5 0 = 0 := by decide +kernel
  have m90 : mM0 9 0 = 1 := by decide +kernel
  have m190 : mM0 19 0 = 0 := by decide +kernel
  have m191 : mM0 19 1 = 0 := by decide +kernel
  have m1912 : mM0 19 12 = 0 := by decide +kernel
  have m200 : mM0 20 0 = 0 := by decide +kernel
  have m280 : mM0 28 0 = 0 := by decide +kernel
  have m290 : mM0 29 0 = 0 := by decide +kernel
  have heq : ((-1) : Int) = (s_saw mM0 x1 x2) := by unfold s_saw; rw [m50, if_pos (by omega)]
  refine lv_aload_n hx hb dL_law_834 rfl (lv_at hl 2 rfl) ?_
  refine lv_aload_n hx hb dL_law_835 rfl (lv_at hl 3 rfl) ?_
  refine lv_iload_n hx hb dL_law_836 rfl (lv_at hl 0 rfl) ?_
  refine lv_iconst (v := iZ 1) hx hb dL_law_837 (by decide) ?_
  refine z_iadd (x := 0) (y := 1) hx hb dL_law_838 ?_
  refine lq_ld hx hb hX hbl hbA hS 1 (by omega) (by omega) e1 (by decide) dL_law_839 ?_
  refine lv_aload_n hx hb dL_law_840 rfl (lv_at hl 3 rfl) ?_
  refine lv_iload_n hx hb dL_law_841 rfl (lv_at hl 0 rfl) ?_
  refine lv_iconst (v := iZ 2) hx hb dL_law_842 (by decide) ?_
  refine z_iadd (x := 0) (y := 2) hx hb dL_law_843 ?_
  refine lq_ld hx hb hX hbl hbA hS 2 (by omega) (by omega) e2 (by decide) dL_law_844 ?_
  refine lq_ci (As := [.int (iZ x1), .int (iZ x2)]) (rest := []) ⟨hx, hb, hml, hown, htsL⟩ hKc hP hNA hD hS (K_X7_saw_0 l D C a bb cV1 x1 x2 (by first | assumption | exact trivial) (by first | assumption | exact trivial) (by first | assumption | exact trivial) ) (cwV 2 htsL gL_law_X7_saw rfl rfl rfl (by decide +kernel) ⟨Nat.le_of_ble_eq_true rfl, Nat.le_of_ble_eq_true rfl⟩) rfl rfl hl.1 (Nat.le_of_ble_eq_true rfl) ⟨Nat.le_of_ble_eq_true rfl, Nat.le_of_ble_eq_true rfl⟩ dL_law_845 ?_
  refine lv_aload_n hx hb dL_law_848 rfl (lv_at hl 1 rfl) ?_
  refine lv_aload_n hx hb dL_law_849 rfl (lv_at hl 3 rfl) ?_
  refine lv_iload_n hx hb dL_law_850 rfl (lv_at hl 0 rfl) ?_
  refine lv_iconst (v := iZ 1) hx hb dL_law_851 (by decide) ?_
  refine z_iadd (x := 0) (y := 1) hx hb dL_law_852 ?_
  refine lq_ld hx hb hX hbl hbA hS 1 (by omega) (by omega) e1 (by decide) dL_law_853 ?_
  refine lv_aload_n hx hb dL_law_854 rfl (lv_at hl 3 rfl) ?_
  refine lv_iload_n hx hb dL_law_855 rfl (lv_at hl 0 rfl) ?_
  refine lv_iconst (v := iZ 2) hx hb dL_law_856 (by decide) ?_
  refine z_iadd (x := 0) (y := 2) hx hb dL_law_857 ?_
  refine lq_ld hx hb hX hbl hbA hS 2 (by omega) (by omega) e2 (by decide) dL_law_858 ?_
  refine lq_mm (As := [.int (iZ x1), .int (iZ x2)]) (rest := [.int (iZ (-1))]) ⟨hx, hb, hml, hown, htsL⟩ hKm hPm hDm hS (mA_of hDm hjk) (C_saw l D C2 h2 a2 mM0 x1 x2 (by first | assumption | exact trivial) (by first | assumption | exact trivial) (by first | assumption | exact trivial) (hDm.weaken (fun _ _ _ _ => trivial))) (cwV 2 htsL gL_law_X8_saw rfl rfl rfl (by decide +kernel) ⟨Nat.le_of_ble_eq_true rfl, Nat.le_of_ble_eq_true rfl⟩) rfl rfl hl.1 (Nat.le_of_ble_eq_true rfl) ⟨Nat.le_of_ble_eq_true rfl, Nat.le_of_ble_eq_true rfl⟩ dL_law_859 (fun H locs _ _ hS9 _ => ?_)
  replace hS := hS9
  rw [heq]
  refine lv_icmp_eq (tgt := 1022) hx hb dL_law_862 (by decide) (fun _ => ?_) (fun z => absurd rfl z)
  exact p1_end (a := a) l C0 hL hS hl
set_option maxHeartbeats 4000000 in
set_option maxRecDepth 100000 in
theorem p1_case_21 {p : Program} {e : Env} {s : State} {m : MethodId} {below : List Frame} {meth : Method} {c : Code} (l : Launch) {b L : Nat} {xs : Nat → Int32} (C0 : lw_At p s m meth c b L xs) (hL : L = 6) {D : va_G} {C : cC} {C2 : mC} (hKc : va_K D vwCl (cT C) s) (hKm : va_K D vwCl (mT C2) s) {a a2 bb : Nat → Nat} {h2 : Nat} (hNA : cNA D C (fun q : Nat => s.heap.size ≤ q) bb s)
  {H : Heap} {locs : List Loc} (hP : va_P D vwCl (cW C a cV1) H) (hD : va_D (fun q : Nat => s.heap.size ≤ q) (cW C a cV1)) (hPm : va_P D vwCl (mW C2 h2 a2 mM0) H) (hDm : va_D (fun q : Nat => s.heap.size ≤ q) (mW C2 h2 a2 mM0)) (hjk : ∀ k : Nat, ∃ (j : Nat) (e : va_E), (mW C2 h2 a2 mM0)[j]? = some (a2 k, e)) (hdj : ∀ q, cA a q → ¬ mA h2 a2 q) (hS : va_S (fun q : Nat => s.heap.size ≤ q) s.heap H locs) {ls : Array Slot} (hl : lv_has ls 4 [(3, .int (iZ 0)), (2, .ref h2), (1, .ref (a 0)), (0, .ref b)]) : W p l e room_1 s m #[Value.ref b] below meth c H locs 600000 7302250 (lw_Z below #[Value.ref b] s) (F0 m 867 ls []) := by
  obtain ⟨hx, hb, hr, hml, hown, hts, hX, hbl, hlocks, hgv⟩ := id C0
  have hbA : ¬ (fun q : Nat => s.heap.size ≤ q) b := Nat.not_le.mpr hbl
  have htsL : ∀ w ∈ wsL_law, w.before #[Value.ref b] s = true := fun w h => hts w (wsL_law_in w h)
  have f1 : isTo (Int.toNat (cV1 0 3)) := by rw [show cV1 0 3 = 15 by decide +kernel]; unfold isTo; omega
  have f2 : isTo (Int.toNat (cV1 0 4)) := by rw [show cV1 0 4 = 23 by decide +kernel]; unfold isTo; omega
  have f3 : cV1 (Int.toNat (cV1 0 3)) 7 = 0 := by decide +kernel
  have f4 : cV1 (Int.toNat (cV1 0 3)) 8 = 0 := by decide +kernel
  have f5 : 0 ≤ cV1 (Int.toNat (cV1 0 3)) 9 ∧ cV1 (Int.toNat (cV1 0 3)) 9 ≤ 6 := by decide +kernel
  have f5b : cV1 (Int.toNat (cV1 0 3)) 9 = 0 := by decide +kernel
  have g390 : cV1 39 0 = 0 := by decide +kernel
  have g391 : cV1 39 1 = 0 := by decide +kernel
  have g392 : cV1 39 2 = 0 := by decide +kernel
  have g01 : cV1 0 1 = 0 := by decide +kernel
  have g44 : cV1 4 4 = 0 := by decide +kernel
  have g311 : cV1 31 1 = 0 := by decide +kernel
  have g012 : cV1 0 12 = 0 := by decide +kernel
  have f6 : 0 ≤ cV1 39 0 ∧ cV1 39 0 ≤ 999 := by omega
  have f7 : 0 ≤ cV1 39 1 ∧ cV1 39 1 ≤ 5 := by omega
  have f8 : 0 ≤ cV1 39 2 ∧ cV1 39 2 ≤ 8 := by omega
  have f9 : 0 ≤ cV1 0 1 ∧ cV1 0 1 ≤ 120 := by omega
  have f10 : ¬ Int.toNat (cV1 0 4) = 0 := by decide +kernel
  have f11 := paI_0
  have f12 := paI_1
  have f13 := cf_im
  have f14 : ∀ k : Nat, k < 4 → 0 ≤ cV1 40 k ∧ cV1 40 k ≤ 20 := fun k hk => by rw [cf_fe k hk]; decide
  have hI0 := mI_0
  have m10 : mM0 1 0 = 0 := by decide +kernel
  have m20 : mM0 2 0 = 0 := by decide +kernel
  have m50 : mM0 5 0 = 0 := by decide +kernel
  have m90 : mM0 9 0 = 1 := by decide +kernel
  have m190 : mM0 19 0 = 0 := by decide +kernel
  have m191 : mM0 19 1 = 0 := by decide +kernel
  have m1912 : mM0 19 12 = 0 := by decide +kernel
  have m200 : mM0 20 0 = 0 := by decide +kernel
  have m280 : mM0 28 0 = 0 := by decide +kernel
  have m290 : mM0 29 0 = 0 := by decide +kernel
  have heq : ((cV1 4 4) : Int) = (mM0 28 0) := by rw [g44, m280]
  refine lv_aload_n hx hb dL_law_867 rfl (lv_at hl 2 rfl) ?_
  refine lq_cm (As := []) (rest := []) ⟨hx, hb, hml, hown, htsL⟩ hKc hP hNA hD hS (K_X7_forget l D C a bb cV1   (hD.weaken (fun _ _ _ _ => trivial))) (cwV 0 htsL gL_law_X7_forget rfl rfl rfl (by decide +kernel) ⟨Nat.le_of_ble_eq_true rfl, Nat.le_of_ble_eq_true rfl⟩) rfl rfl hl.1 (Nat.le_of_ble_eq_true rfl) ⟨Nat.le_of_ble_eq_true rfl, Nat.le_of_ble_eq_true rfl⟩ dL_law_868 (fun H locs hP9 hD9 hS9 hk9 => ?_)
  replace hPm : va_P D vwCl (mW C2 h2 a2 mM0) H := hPm.kept (fun k q hq => hk9 q.1 (hPm k q hq).lt (fun z => hdj _ z (mA_mem k q hq)))
  replace hS := hS9
  refine lv_aload_n hx hb dL_law_871 rfl (lv_at hl 1 rfl) ?_
  refine lq_mm (As := []) (rest := [.int (iZ (cV1 4 4))]) ⟨hx, hb, hml, hown, htsL⟩ hKm hPm hDm hS (mA_of hDm hjk) (C_forget l D C2 h2 a2 mM0   (hDm.weaken (fun _ _ _ _ => trivial))) (cwV 0 htsL gL_law_X8_forget rfl rfl rfl (by decide +kernel) ⟨Nat.le_of_ble_eq_true rfl, Nat.le_of_ble_eq_true rfl⟩) rfl rfl hl.1 (Nat.le_of_ble_eq_true rfl) ⟨Nat.le_of_ble_eq_true rfl, Nat.le_of_ble_eq_true rfl⟩ dL_law_872 (fun H locs _ _ hS9 _ => ?_)
  replace hS := hS9
  rw [heq]
  refine lv_icmp_eq (tgt := 1022) hx hb dL_law_875 (by decide) (fun _ => ?_) (fun z => absurd rfl z)
  exact p1_end (a := a) l C0 hL hS hl
set_option maxHeartbeats 4000000 in
set_option maxRecDepth 100000 in
theorem p1_case_22 {p : Program} {e : Env} {s : State} {m : MethodId} {below : List Frame} {meth : Method} {c : Code} (l : Launch) {b L : Nat} {xs : Nat → Int32} (C0 : lw_At p s m meth c b L xs) (hL : L = 6) {D : va_G} {C : cC} {C2 : mC} (hKc : va_K D vwCl (cT C) s) (hKm : va_K D vwCl (mT C2) s) {a a2 bb : Nat → Nat} {h2 : Nat} (hNA : cNA D C (fun q : Nat => s.heap.size ≤ q) bb s)
  {H : Heap} {locs : List Loc} (hP : va_P D vwCl (cW C a cV1) H) (hD : va_D (fun q : Nat => s.heap.size ≤ q) (cW C a cV1)) (hPm : va_P D vwCl (mW C2 h2 a2 mM0) H) (hDm : va_D (fun q : Nat => s.heap.size ≤ q) (mW C2 h2 a2 mM0)) (hjk : ∀ k : Nat, ∃ (j : Nat) (e : va_E), (mW C2 h2 a2 mM0)[j]? = some (a2 k, e)) (hdj : ∀ q, cA a q → ¬ mA h2 a2 q) (hS : va_S (fun q : Nat => s.heap.size ≤ q) s.heap H locs) {ls : Array Slot} (hl : lv_has ls 4 [(3, .int (iZ 0)), (2, .ref h2), (1, .ref (a 0)), (0, .ref b)]) : W p l e room_1 s m #[Value.ref b] below meth c H locs 600000 7302250 (lw_Z below #[Value.ref b] s) (F0 m 880 ls []) := by
  obtain ⟨hx, hb, hr, hml, hown, hts, hX, hbl, hlocks, hgv⟩ := id C0
  have hbA : ¬ (fun q : Nat => s.heap.size ≤ q) b := Nat.not_le.mpr hbl
  have htsL : ∀ w ∈ wsL_law, w.before #[Value.ref b] s = true := fun w h => hts w (wsL_law_in w h)
  have f1 : isTo (Int.toNat (cV1 0 3)) := by rw [show cV1 0 3 = 15 by decide +kernel]; unfold isTo; omega
  have f2 : isTo (Int.toNat (cV1 0 4)) := by rw [show cV1 0 4 = 23 by decide +kernel]; unfold isTo; omega
  have f3 : cV1 (Int.toNat (cV1 0 3)) 7 = 0 := by decide +kernel
  have f4 : cV1 (Int.toNat (cV1 0 3)) 8 = 0 := by decide +kernel
  have f5 : 0 ≤ cV1 (Int.toNat (cV1 0 3)) 9 ∧ cV1 (Int.toNat (cV1 0 3)) 9 ≤ 6 := by decide +kernel
  have f5b : cV1 (Int.toNat (cV1 0 3)) 9 = 0 := by decide +kernel
  have g390 : cV1 39 0 = 0 := by decide +kernel
  have g391 : cV1 39 1 = 0 := by decide +kernel
  have g392 : cV1 39 2 = 0 := by decide +kernel
  have g01 : cV1 0 1 = 0 := by decide +kernel
  have g44 : cV1 4 4 = 0 := by decide +kernel
  have g311 : cV1 31 1 = 0 := by decide +kernel
  have g012 : cV1 0 12 = 0 := by decide +kernel
  have f6 : 0 ≤ cV1 39 0 ∧ cV1 39 0 ≤ 999 := by omega
  have f7 : 0 ≤ cV1 39 1 ∧ cV1 39 1 ≤ 5 := by omega
  have f8 : 0 ≤ cV1 39 2 ∧ cV1 39 2 ≤ 8 := by omega
  have f9 : 0 ≤ cV1 0 1 ∧ cV1 0 1 ≤ 120 := by omega
  have f10 : ¬ Int.toNat (cV1 0 4) = 0 := by decide +kernel
  have f11 := paI_0
  have f12 := paI_1
  have f13 := cf_im
  have f14 : ∀ k : Nat, k < 4 → 0 ≤ cV1 40 k ∧ cV1 40 k ≤ 20 := fun k hk => by rw [cf_fe k hk]; decide
  have hI0 := mI_0
  have m10 : mM0 1 0 = 0 := by decide +kernel
  have m20 : mM0 2 0 = 0 := by decide +kernel
  have m50 : mM0 5 0 = 0 := by decide +kernel
  have m90 : mM0 9 0 = 1 := by decide +kernel
  have m190 : mM0 19 0 = 0 := by decide +kernel
  have m191 : mM0 19 1 = 0 := by decide +kernel
  have m1912 : mM0 19 12 = 0 := by decide +kernel
  have m200 : mM0 20 0 = 0 := by decide +kernel
  have m280 : mM0 28 0 = 0 := by decide +kernel
  have m290 : mM0 29 0 = 0 := by decide +kernel
  have heq : ((0) : Int) = (s_who mM0) := by rfl
  refine lv_aload_n hx hb dL_law_880 rfl (lv_at hl 2 rfl) ?_
  refine lq_ci (As := []) (rest := []) ⟨hx, hb, hml, hown, htsL⟩ hKc hP hNA hD hS (K_X7_who_0 l D C a bb cV1  (by first | assumption | exact trivial) (by first | assumption | exact trivial) ) (cwV 0 htsL gL_law_X7_who rfl rfl rfl (by decide +kernel) ⟨Nat.le_of_ble_eq_true rfl, Nat.le_of_ble_eq_true rfl⟩) rfl rfl hl.1 (Nat.le_of_ble_eq_true rfl) ⟨Nat.le_of_ble_eq_true rfl, Nat.le_of_ble_eq_true rfl⟩ dL_law_881 ?_
  refine lv_aload_n hx hb dL_law_884 rfl (lv_at hl 1 rfl) ?_
  refine lq_mi (As := []) (rest := [.int (iZ (0))]) ⟨hx, hb, hml, hown, htsL⟩ hKm hPm (C_who l D C2 h2 a2 mM0  (by first | assumption | exact trivial) ) (cwV 0 htsL gL_law_X8_who rfl rfl rfl (by decide +kernel) ⟨Nat.le_of_ble_eq_true rfl, Nat.le_of_ble_eq_true rfl⟩) rfl rfl hl.1 (Nat.le_of_ble_eq_true rfl) ⟨Nat.le_of_ble_eq_true rfl, Nat.le_of_ble_eq_true rfl⟩ dL_law_885 ?_
  rw [heq]
  refine lv_icmp_eq (tgt := 1022) hx hb dL_law_888 (by decide) (fun _ => ?_) (fun z => absurd rfl z)
  exact p1_end (a := a) l C0 hL hS hl
set_option maxHeartbeats 4000000 in
set_option maxRecDepth 100000 in
theorem p1_case_23 {p : Program} {e : Env} {s : State} {m : MethodId} {below : List Frame} {meth : Method} {c : Code} (l : Launch) {b L : Nat} {xs : Nat → Int32} (C0 : lw_At p s m meth c b L xs) (hL : L = 6) {D : va_G} {C : cC} {C2 : mC} (hKc : va_K D vwCl (cT C) s) (hKm : va_K D vwCl (mT C2) s) {a a2 bb : Nat → Nat} {h2 : Nat} (hNA : cNA D C (fun q : Nat => s.heap.size ≤ q) bb s)
  {H : Heap} {locs : List Loc} (hP : va_P D vwCl (cW C a cV1) H) (hD : va_D (fun q : Nat => s.heap.size ≤ q) (cW C a cV1)) (hPm : va_P D vwCl (mW C2 h2 a2 mM0) H) (hDm : va_D (fun q : Nat => s.heap.size ≤ q) (mW C2 h2 a2 mM0)) (hjk : ∀ k : Nat, ∃ (j : Nat) (e : va_E), (mW C2 h2 a2 mM0)[j]? = some (a2 k, e)) (hdj : ∀ q, cA a q → ¬ mA h2 a2 q) (hS : va_S (fun q : Nat => s.heap.size ≤ q) s.heap H locs) {ls : Array Slot} (hl : lv_has ls 4 [(3, .int (iZ 0)), (2, .ref h2), (1, .ref (a 0)), (0, .ref b)]) : W p l e room_1 s m #[Value.ref b] below meth c H locs 600000 7302250 (lw_Z below #[Value.ref b] s) (F0 m 893 ls []) := by
  obtain ⟨hx, hb, hr, hml, hown, hts, hX, hbl, hlocks, hgv⟩ := id C0
  have hbA : ¬ (fun q : Nat => s.heap.size ≤ q) b := Nat.not_le.mpr hbl
  have htsL : ∀ w ∈ wsL_law, w.before #[Value.ref b] s = true := fun w h => hts w (wsL_law_in w h)
  have f1 : isTo (Int.toNat (cV1 0 3)) := by rw [show cV1 0 3 = 15 by decide +kernel]; unfold isTo; omega
  have f2 : isTo (Int.toNat (cV1 0 4)) := by rw [show cV1 0 4 = 23 by decide +kernel]; unfold isTo; omega
  have f3 : cV1 (Int.toNat (cV1 0 3)) 7 = 0 := by decide +kernel
  have f4 : cV1 (Int.toNat (cV1 0 3)) 8 = 0 := by decide +kernel
  have f5 : 0 ≤ cV1 (Int.toNat (cV1 0 3)) 9 ∧ cV1 (Int.toNat (cV1 0 3)) 9 ≤ 6 := by decide +kernel
  have f5b : cV1 (Int.toNat (cV1 0 3)) 9 = 0 := by decide +kernel
  have g390 : cV1 39 0 = 0 := by decide +kernel
  have g391 : cV1 39 1 = 0 := by decide +kernel
  have g392 : cV1 39 2 = 0 := by decide +kernel
  have g01 : cV1 0 1 = 0 := by decide +kernel
  have g44 : cV1 4 4 = 0 := by decide +kernel
  have g311 : cV1 31 1 = 0 := by decide +kernel
  have g012 : cV1 0 12 = 0 := by decide +kernel
  have f6 : 0 ≤ cV1 39 0 ∧ cV1 39 0 ≤ 999 := by omega
  have f7 : 0 ≤ cV1 39 1 ∧ cV1 39 1 ≤ 5 := by omega
  have f8 : 0 ≤ cV1 39 2 ∧ cV1 39 2 ≤ 8 := by omega
  have f9 : 0 ≤ cV1 0 1 ∧ cV1 0 1 ≤ 120 := by omega
  have f10 : ¬ Int.toNat (cV1 0 4) = 0 := by decide +kernel
  have f11 := paI_0
  have f12 := paI_1
  have f13 := cf_im
  have f14 : ∀ k : Nat, k < 4 → 0 ≤ cV1 40 k ∧ cV1 40 k ≤ 20 := fun k hk => by rw [cf_fe k hk]; decide
  have hI0 := mI_0
  have m10 : mM0 1 0 = 0 := by decide +kernel
  have m20 : mM0 2 0 = 0 := by decide +kernel
  have m50 : mM0 5 0 = 0 := by decide +kernel
  have m90 : mM0 9 0 = 1 := by decide +kernel
  have m190 : mM0 19 0 = 0 := by decide +kernel
  have m191 : mM0 19 1 = 0 := by decide +kernel
  have m1912 : mM0 19 12 = 0 := by decide +kernel
  have m200 : mM0 20 0 = 0 := by decide +kernel
  have m280 : mM0 28 0 = 0 := by decide +kernel
  have m290 : mM0 29 0 = 0 := by decide +kernel
  have heq : ((-9) : Int) = (s_ask mM0) := by rfl
  refine lv_aload_n hx hb dL_law_893 rfl (lv_at hl 2 rfl) ?_
  refine lq_ci (As := []) (rest := []) ⟨hx, hb, hml, hown, htsL⟩ hKc hP hNA hD hS (K_X7_ask_0 l D C a bb cV1  (by first | assumption | exact trivial) (by first | assumption | exact trivial) ) (cwV 0 htsL gL_law_X7_ask rfl rfl rfl (by decide +kernel) ⟨Nat.le_of_ble_eq_true rfl, Nat.le_of_ble_eq_true rfl⟩) rfl rfl hl.1 (Nat.le_of_ble_eq_true rfl) ⟨Nat.le_of_ble_eq_true rfl, Nat.le_of_ble_eq_true rfl⟩ dL_law_894 ?_
  refine lv_aload_n hx hb dL_law_897 rfl (lv_at hl 1 rfl) ?_
  refine lq_mi (As := []) (rest := [.int (iZ (-9))]) ⟨hx, hb, hml, hown, htsL⟩ hKm hPm (C_ask l D C2 h2 a2 mM0  (by first | assumption | exact trivial) ) (cwV 0 htsL gL_law_X8_ask rfl rfl rfl (by decide +kernel) ⟨Nat.le_of_ble_eq_true rfl, Nat.le_of_ble_eq_true rfl⟩) rfl rfl hl.1 (Nat.le_of_ble_eq_true rfl) ⟨Nat.le_of_ble_eq_true rfl, Nat.le_of_ble_eq_true rfl⟩ dL_law_898 ?_
  rw [heq]
  refine lv_icmp_eq (tgt := 1022) hx hb dL_law_901 (by decide) (fun _ => ?_) (fun z => absurd rfl z)
  exact p1_end (a := a) l C0 hL hS hl
set_option maxHeartbeats 4000000 in
set_option maxRecDepth 100000 in
theorem p1_case_24 {p : Program} {e : Env} {s : State} {m : MethodId} {below : List Frame} {meth : Method} {c : Code} (l : Launch) {b L : Nat} {xs : Nat → Int32} (C0 : lw_At p s m meth c b L xs) (hL : L = 6) {D : va_G} {C : cC} {C2 : mC} (hKc : va_K D vwCl (cT C) s) (hKm : va_K D vwCl (mT C2) s) {a a2 bb : Nat → Nat} {h2 : Nat} (hNA : cNA D C (fun q : Nat => s.heap.size ≤ q) bb s)
  {H : Heap} {locs : List Loc} (hP : va_P D vwCl (cW C a cV1) H) (hD : va_D (fun q : Nat => s.heap.size ≤ q) (cW C a cV1)) (hPm : va_P D vwCl (mW C2 h2 a2 mM0) H) (hDm : va_D (fun q : Nat => s.heap.size ≤ q) (mW C2 h2 a2 mM0)) (hjk : ∀ k : Nat, ∃ (j : Nat) (e : va_E), (mW C2 h2 a2 mM0)[j]? = some (a2 k, e)) (hdj : ∀ q, cA a q → ¬ mA h2 a2 q) (hS : va_S (fun q : Nat => s.heap.size ≤ q) s.heap H locs) {ls : Array Slot} (hl : lv_has ls 4 [(3, .int (iZ 0)), (2, .ref h2), (1, .ref (a 0)), (0, .ref b)]) : W p l e room_1 s m #[Value.ref b] below meth c H locs 600000 7302250 (lw_Z below #[Value.ref b] s) (F0 m 906 ls []) := by
  obtain ⟨hx, hb, hr, hml, hown, hts, hX, hbl, hlocks, hgv⟩ := id C0
  have hbA : ¬ (fun q : Nat => s.heap.size ≤ q) b := Nat.not_le.mpr hbl
  have htsL : ∀ w ∈ wsL_law, w.before #[Value.ref b] s = true := fun w h => hts w (wsL_law_in w h)
  obtain ⟨x1, hz1, e1⟩ := iZ_of (xs 1)
  obtain ⟨x2, hz2, e2⟩ := iZ_of (xs 2)
  have f1 : isTo (Int.toNat (cV1 0 3)) := by rw [show cV1 0 3 = 15 by decide +kernel]; unfold isTo; omega
  have f2 : isTo (Int.toNat (cV1 0 4)) := by rw [show cV1 0 4 = 23 by decide +kernel]; unfold isTo; omega
  have f3 : cV1 (Int.toNat (cV1 0 3)) 7 = 0 := by decide +kernel
  have f4 : cV1 (Int.toNat (cV1 0 3)) 8 = 0 := by decide +kernel
  have f5 : 0 ≤ cV1 (Int.toNat (cV1 0 3)) 9 ∧ cV1 (Int.toNat (cV1 0 3)) 9 ≤ 6 := by decide +kernel
  have f5b : cV1 (Int.toNat (cV1 0 3)) 9 = 0 := by decide +kernel
  have g390 : cV1 39 0 = 0 := by decide +kernel
  have g391 : cV1 39 1 = 0 := by decide +kernel
  have g392 : cV1 39 2 = 0 := by decide +kernel
  have g01 : cV1 0 1 = 0 := by decide +kernel
  have g44 : cV1 4 4 = 0 := by decide +kernel
  have g311 : cV1 31 1 = 0 := by decide +kernel
  have g012 : cV1 0 12 = 0 := by decide +kernel
  have f6 : 0 ≤ cV1 39 0 ∧ cV1 39 0 ≤ 999 := by omega
  have f7 : 0 ≤ cV1 39 1 ∧ cV1 39 1 ≤ 5 := by omega
  have f8 : 0 ≤ cV1 39 2 ∧ cV1 39 2 ≤ 8 := by omega
  have f9 : 0 ≤ cV1 0 1 ∧ cV1 0 1 ≤ 120 := by omega
  have f10 : ¬ Int.toNat (cV1 0 4) = 0 := by decide +kernel
  have f11 := paI_0
  have f12 := paI_1
  have f13 := cf_im
  have f14 : ∀ k : Nat, k < 4 → 0 ≤ cV1 40 k ∧ cV1 40 k ≤ 20 := fun k hk => by rw [cf_fe k hk]; decide
  have hI0 := mI_0
  have m10 : mM0 1 0 = 0 := by decide +kernel
  have m20 : mM0 2 0 = 0 := by decide +kernel
  have m50 : mM0 5 0 = 0 := by decide +kernel
  have m90 : mM0 9 0 = 1 := by decide +kernel
  have m190 : mM0 19 0 = 0 := by decide +kernel
  have m191 : mM0 19 1 = 0 := by decide +kernel
  have m1912 : mM0 19 12 = 0 := by decide +kernel
  have m200 : mM0 20 0 = 0 := by decide +kernel
  have m280 : mM0 28 0 = 0 := by decide +kernel
  have m290 : mM0 29 0 = 0 := by decide +kernel
  have heq : ((-1000000) : Int) = (s_mark mM0 x1 x2) := by unfold s_mark; rw [m20, if_pos (by omega)]
  refine lv_aload_n hx hb dL_law_906 rfl (lv_at hl 2 rfl) ?_
  refine lv_aload_n hx hb dL_law_907 rfl (lv_at hl 3 rfl) ?_
  refine lv_iload_n hx hb dL_law_908 rfl (lv_at hl 0 rfl) ?_
  refine lv_iconst (v := iZ 1) hx hb dL_law_909 (by decide) ?_
  refine z_iadd (x := 0) (y := 1) hx hb dL_law_910 ?_
  refine lq_ld hx hb hX hbl hbA hS 1 (by omega) (by omega) e1 (by decide) dL_law_911 ?_
  refine lv_aload_n hx hb dL_law_912 rfl (lv_at hl 3 rfl) ?_
  refine lv_iload_n hx hb dL_law_913 rfl (lv_at hl 0 rfl) ?_
  refine lv_iconst (v := iZ 2) hx hb dL_law_914 (by decide) ?_
  refine z_iadd (x := 0) (y := 2) hx hb dL_law_915 ?_
  refine lq_ld hx hb hX hbl hbA hS 2 (by omega) (by omega) e2 (by decide) dL_law_916 ?_
  refine lq_ci (As := [.int (iZ x1), .int (iZ x2)]) (rest := []) ⟨hx, hb, hml, hown, htsL⟩ hKc hP hNA hD hS (K_X7_mark_0 l D C a bb cV1 x1 x2 (by first | assumption | exact trivial) (by first | assumption | exact trivial) (by first | assumption | exact trivial) ) (cwV 2 htsL gL_law_X7_mark rfl rfl rfl (by decide +kernel) ⟨Nat.le_of_ble_eq_true rfl, Nat.le_of_ble_eq_true rfl⟩) rfl rfl hl.1 (Nat.le_of_ble_eq_true rfl) ⟨Nat.le_of_ble_eq_true rfl, Nat.le_of_ble_eq_true rfl⟩ dL_law_917 ?_
  refine lv_aload_n hx hb dL_law_920 rfl (lv_at hl 1 rfl) ?_
  refine lv_aload_n hx hb dL_law_921 rfl (lv_at hl 3 rfl) ?_
  refine lv_iload_n hx hb dL_law_922 rfl (lv_at hl 0 rfl) ?_
  refine lv_iconst (v := iZ 1) hx hb dL_law_923 (by decide) ?_
  refine z_iadd (x := 0) (y := 1) hx hb dL_law_924 ?_
  refine lq_ld hx hb hX hbl hbA hS 1 (by omega) (by omega) e1 (by decide) dL_law_925 ?_
  refine lv_aload_n hx hb dL_law_926 rfl (lv_at hl 3 rfl) ?_
  refine lv_iload_n hx hb dL_law_927 rfl (lv_at hl 0 rfl) ?_
  refine lv_iconst (v := iZ 2) hx hb dL_law_928 (by decide) ?_
  refine z_iadd (x := 0) (y := 2) hx hb dL_law_929 ?_
  refine lq_ld hx hb hX hbl hbA hS 2 (by omega) (by omega) e2 (by decide) dL_law_930 ?_
  refine lq_mm (As := [.int (iZ x1), .int (iZ x2)]) (rest := [.int (iZ (-1000000))]) ⟨hx, hb, hml, hown, htsL⟩ hKm hPm hDm hS (mA_of hDm hjk) (C_mark l D C2 h2 a2 mM0 x1 x2 (by first | assumption | exact trivial) (by first | assumption | exact trivial) (by first | assumption | exact trivial) (hDm.weaken (fun _ _ _ _ => trivial))) (cwV 2 htsL gL_law_X8_mark rfl rfl rfl (by decide +kernel) ⟨Nat.le_of_ble_eq_true rfl, Nat.le_of_ble_eq_true rfl⟩) rfl rfl hl.1 (Nat.le_of_ble_eq_true rfl) ⟨Nat.le_of_ble_eq_true rfl, Nat.le_of_ble_eq_true rfl⟩ dL_law_931 (fun H locs _ _ hS9 _ => ?_)
  replace hS := hS9
  rw [heq]
  refine lv_icmp_eq (tgt := 1022) hx hb dL_law_934 (by decide) (fun _ => ?_) (fun z => absurd rfl z)
  exact p1_end (a := a) l C0 hL hS hl
set_option maxHeartbeats 4000000 in
set_option maxRecDepth 100000 in
theorem p1_case_25 {p : Program} {e : Env} {s : State} {m : MethodId} {below : List Frame} {meth : Method} {c : Code} (l : Launch) {b L : Nat} {xs : Nat → Int32} (C0 : lw_At p s m meth c b L xs) (hL : L = 6) {D : va_G} {C : cC} {C2 : mC} (hKc : va_K D vwCl (cT C) s) (hKm : va_K D vwCl (mT C2) s) {a a2 bb : Nat → Nat} {h2 : Nat} (hNA : cNA D C (fun q : Nat => s.heap.size ≤ q) bb s)
  {H : Heap} {locs : List Loc} (hP : va_P D vwCl (cW C a cV1) H) (hD : va_D (fun q : Nat => s.heap.size ≤ q) (cW C a cV1)) (hPm : va_P D vwCl (mW C2 h2 a2 mM0) H) (hDm : va_D (fun q : Nat => s.heap.size ≤ q) (mW C2 h2 a2 mM0)) (hjk : ∀ k : Nat, ∃ (j : Nat) (e : va_E), (mW C2 h2 a2 mM0)[j]? = some (a2 k, e)) (hdj : ∀ q, cA a q → ¬ mA h2 a2 q) (hS : va_S (fun q : Nat => s.heap.size ≤ q) s.heap H locs) {ls : Array Slot} (hl : lv_has ls 4 [(3, .int (iZ 0)), (2, .ref h2), (1, .ref (a 0)), (0, .ref b)]) : W p l e room_1 s m #[Value.ref b] below meth c H locs 600000 7302250 (lw_Z below #[Value.ref b] s) (F0 m 939 ls []) := by
  obtain ⟨hx, hb, hr, hml, hown, hts, hX, hbl, hlocks, hgv⟩ := id C0
  have hbA : ¬ (fun q : Nat => s.heap.size ≤ q) b := Nat.not_le.mpr hbl
  have htsL : ∀ w ∈ wsL_law, w.before #[Value.ref b] s = true := fun w h => hts w (wsL_law_in w h)
  obtain ⟨x1, hz1, e1⟩ := iZ_of (xs 1)
  have f1 : isTo (Int.toNat (cV1 0 3)) := by rw [show cV1 0 3 = 15 by decide +kernel]; unfold isTo; omega
  have f2 : isTo (Int.toNat (cV1 0 4)) := by rw [show cV1 0 4 = 23 by decide +kernel]; unfold isTo; omega
  have f3 : cV1 (Int.toNat (cV1 0 3)) 7 = 0 := by decide +kernel
  have f4 : cV1 (Int.toNat (cV1 0 3)) 8 = 0 := by decide +kernel
  have f5 : 0 ≤ cV1 (Int.toNat (cV1 0 3)) 9 ∧ cV1 (Int.toNat (cV1 0 3)) 9 ≤ 6 := by decide +kernel
  have f5b : cV1 (Int.toNat (cV1 0 3)) 9 = 0 := by decide +kernel
  have g390 : cV1 39 0 = 0 := by decide +kernel
  have g391 : cV1 39 1 = 0 := by decide +kernel
  have g392 : cV1 39 2 = 0 := by decide +kernel
  have g01 : cV1 0 1 = 0 := by decide +kernel
  have g44 : cV1 4 4 = 0 := by decide +kernel
  have g311 : cV1 31 1 = 0 := by decide +kernel
  have g012 : cV1 0 12 = 0 := by decide +kernel
  have f6 : 0 ≤ cV1 39 0 ∧ cV1 39 0 ≤ 999 := by omega
  have f7 : 0 ≤ cV1 39 1 ∧ cV1 39 1 ≤ 5 := by omega
  have f8 : 0 ≤ cV1 39 2 ∧ cV1 39 2 ≤ 8 := by omega
  have f9 : 0 ≤ cV1 0 1 ∧ cV1 0 1 ≤ 120 := by omega
  have f10 : ¬ Int.toNat (cV1 0 4) = 0 := by decide +kernel
  have f11 := paI_0
  have f12 := paI_1
  have f13 := cf_im
  have f14 : ∀ k : Nat, k < 4 → 0 ≤ cV1 40 k ∧ cV1 40 k ≤ 20 := fun k hk => by rw [cf_fe k hk]; decide
  have hI0 := mI_0
  have m10 : mM0 1 0 = 0 := by decide +kernel
  have m20 : mM0 2 0 = 0 := by decide +kernel
  have m50 : mM0 5 0 = 0 := by decide +kernel
  have m90 : mM0 9 0 = 1 := by decide +kernel
  have m190 : mM0 19 0 = 0 := by decide +kernel
  have m191 : mM0 19 1 = 0 := by decide +kernel
  have m1912 : mM0 19 12 = 0 := by decide +kernel
  have m200 : mM0 20 0 = 0 := by decide +kernel
  have m280 : mM0 28 0 = 0 := by decide +kernel
  have m290 : mM0 29 0 = 0 := by decide +kernel
  have heq : ((if 0 ≤ x1 ∧ x1 < 2 then cV1 39 0 else -1) : Int) = (s_keep mM0 x1) := by unfold s_keep; rw [g390, m190]; (repeat' split) <;> omega
  refine lv_aload_n hx hb dL_law_939 rfl (lv_at hl 2 rfl) ?_
  refine lv_aload_n hx hb dL_law_940 rfl (lv_at hl 3 rfl) ?_
  refine lv_iload_n hx hb dL_law_941 rfl (lv_at hl 0 rfl) ?_
  refine lv_iconst (v := iZ 1) hx hb dL_law_942 (by decide) ?_
  refine z_iadd (x := 0) (y := 1) hx hb dL_law_943 ?_
  refine lq_ld hx hb hX hbl hbA hS 1 (by omega) (by omega) e1 (by decide) dL_law_944 ?_
  refine lq_cm (As := [.int (iZ x1)]) (rest := []) ⟨hx, hb, hml, hown, htsL⟩ hKc hP hNA hD hS (K_X7_keep l D C a bb cV1 x1 (by first | assumption | exact trivial) (by first | assumption | exact trivial) (by first | assumption | exact trivial) (hD.weaken (fun _ _ _ _ => trivial))) (cwV 1 htsL gL_law_X7_keep rfl rfl rfl (by decide +kernel) ⟨Nat.le_of_ble_eq_true rfl, Nat.le_of_ble_eq_true rfl⟩) rfl rfl hl.1 (Nat.le_of_ble_eq_true rfl) ⟨Nat.le_of_ble_eq_true rfl, Nat.le_of_ble_eq_true rfl⟩ dL_law_945 (fun H locs hP9 hD9 hS9 hk9 => ?_)
  replace hPm : va_P D vwCl (mW C2 h2 a2 mM0) H := hPm.kept (fun k q hq => hk9 q.1 (hPm k q hq).lt (fun z => hdj _ z (mA_mem k q hq)))
  replace hS := hS9
  refine lv_aload_n hx hb dL_law_948 rfl (lv_at hl 1 rfl) ?_
  refine lv_aload_n hx hb dL_law_949 rfl (lv_at hl 3 rfl) ?_
  refine lv_iload_n hx hb dL_law_950 rfl (lv_at hl 0 rfl) ?_
  refine lv_iconst (v := iZ 1) hx hb dL_law_951 (by decide) ?_
  refine z_iadd (x := 0) (y := 1) hx hb dL_law_952 ?_
  refine lq_ld hx hb hX hbl hbA hS 1 (by omega) (by omega) e1 (by decide) dL_law_953 ?_
  refine lq_mm (As := [.int (iZ x1)]) (rest := [.int (iZ (if 0 ≤ x1 ∧ x1 < 2 then cV1 39 0 else -1))]) ⟨hx, hb, hml, hown, htsL⟩ hKm hPm hDm hS (mA_of hDm hjk) (C_keep l D C2 h2 a2 mM0 x1 (by first | assumption | exact trivial) (by first | assumption | exact trivial) (hDm.weaken (fun _ _ _ _ => trivial))) (cwV 1 htsL gL_law_X8_keep rfl rfl rfl (by decide +kernel) ⟨Nat.le_of_ble_eq_true rfl, Nat.le_of_ble_eq_true rfl⟩) rfl rfl hl.1 (Nat.le_of_ble_eq_true rfl) ⟨Nat.le_of_ble_eq_true rfl, Nat.le_of_ble_eq_true rfl⟩ dL_law_954 (fun H locs _ _ hS9 _ => ?_)
  replace hS := hS9
  rw [heq]
  refine lv_icmp_eq (tgt := 1022) hx hb dL_law_957 (by decide) (fun _ => ?_) (fun z => absurd rfl z)
  exact p1_end (a := a) l C0 hL hS hl
set_option maxHeartbeats 4000000 in
set_option maxRecDepth 100000 in
theorem p1_case_26 {p : Program} {e : Env} {s : State} {m : MethodId} {below : List Frame} {meth : Method} {c : Code} (l : Launch) {b L : Nat} {xs : Nat → Int32} (C0 : lw_At p s m meth c b L xs) (hL : L = 6) {D : va_G} {C : cC} {C2 : mC} (hKc : va_K D vwCl (cT C) s) (hKm : va_K D vwCl (mT C2) s) {a a2 bb : Nat → Nat} {h2 : Nat} (hNA : cNA D C (fun q : Nat => s.heap.size ≤ q) bb s)
  {H : Heap} {locs : List Loc} (hP : va_P D vwCl (cW C a cV1) H) (hD : va_D (fun q : Nat => s.heap.size ≤ q) (cW C a cV1)) (hPm : va_P D vwCl (mW C2 h2 a2 mM0) H) (hDm : va_D (fun q : Nat => s.heap.size ≤ q) (mW C2 h2 a2 mM0)) (hjk : ∀ k : Nat, ∃ (j : Nat) (e : va_E), (mW C2 h2 a2 mM0)[j]? = some (a2 k, e)) (hdj : ∀ q, cA a q → ¬ mA h2 a2 q) (hS : va_S (fun q : Nat => s.heap.size ≤ q) s.heap H locs) {ls : Array Slot} (hl : lv_has ls 4 [(3, .int (iZ 0)), (2, .ref h2), (1, .ref (a 0)), (0, .ref b)]) : W p l e room_1 s m #[Value.ref b] below meth c H locs 600000 7302250 (lw_Z below #[Value.ref b] s) (F0 m 962 ls []) := by
  obtain ⟨hx, hb, hr, hml, hown, hts, hX, hbl, hlocks, hgv⟩ := id C0
  have hbA : ¬ (fun q : Nat => s.heap.size ≤ q) b := Nat.not_le.mpr hbl
  have htsL : ∀ w ∈ wsL_law, w.before #[Value.ref b] s = true := fun w h => hts w (wsL_law_in w h)
  obtain ⟨x1, hz1, e1⟩ := iZ_of (xs 1)
  have f1 : isTo (Int.toNat (cV1 0 3)) := by rw [show cV1 0 3 = 15 by decide +kernel]; unfold isTo; omega
  have f2 : isTo (Int.toNat (cV1 0 4)) := by rw [show cV1 0 4 = 23 by decide +kernel]; unfold isTo; omega
  have f3 : cV1 (Int.toNat (cV1 0 3)) 7 = 0 := by decide +kernel
  have f4 : cV1 (Int.toNat (cV1 0 3)) 8 = 0 := by decide +kernel
  have f5 : 0 ≤ cV1 (Int.toNat (cV1 0 3)) 9 ∧ cV1 (Int.toNat (cV1 0 3)) 9 ≤ 6 := by decide +kernel
  have f5b : cV1 (Int.toNat (cV1 0 3)) 9 = 0 := by decide +kernel
  have g390 : cV1 39 0 = 0 := by decide +kernel
  have g391 : cV1 39 1 = 0 := by decide +kernel
  have g392 : cV1 39 2 = 0 := by decide +kernel
  have g01 : cV1 0 1 = 0 := by decide +kernel
  have g44 : cV1 4 4 = 0 := by decide +kernel
  have g311 : cV1 31 1 = 0 := by decide +kernel
  have g012 : cV1 0 12 = 0 := by decide +kernel
  have f6 : 0 ≤ cV1 39 0 ∧ cV1 39 0 ≤ 999 := by omega
  have f7 : 0 ≤ cV1 39 1 ∧ cV1 39 1 ≤ 5 := by omega
  have f8 : 0 ≤ cV1 39 2 ∧ cV1 39 2 ≤ 8 := by omega
  have f9 : 0 ≤ cV1 0 1 ∧ cV1 0 1 ≤ 120 := by omega
  have f10 : ¬ Int.toNat (cV1 0 4) = 0 := by decide +kernel
  have f11 := paI_0
  have f12 := paI_1
  have f13 := cf_im
  have f14 : ∀ k : Nat, k < 4 → 0 ≤ cV1 40 k ∧ cV1 40 k ≤ 20 := fun k hk => by rw [cf_fe k hk]; decide
  have hI0 := mI_0
  have m10 : mM0 1 0 = 0 := by decide +kernel
  have m20 : mM0 2 0 = 0 := by decide +kernel
  have m50 : mM0 5 0 = 0 := by decide +kernel
  have m90 : mM0 9 0 = 1 := by decide +kernel
  have m190 : mM0 19 0 = 0 := by decide +kernel
  have m191 : mM0 19 1 = 0 := by decide +kernel
  have m1912 : mM0 19 12 = 0 := by decide +kernel
  have m200 : mM0 20 0 = 0 := by decide +kernel
  have m280 : mM0 28 0 = 0 := by decide +kernel
  have m290 : mM0 29 0 = 0 := by decide +kernel
  have heq : ((if 0 ≤ x1 ∧ x1 < 2 then -2 else -1) : Int) = (s_back mM0 x1) := by unfold s_back; (repeat' split) <;> first | rfl | omega | (exfalso; omega) | (rename_i z1 z2; exact absurd (by rw [show mM0 23 (Int.toNat x1) = 0 from rfl]) z2)
  refine lv_aload_n hx hb dL_law_962 rfl (lv_at hl 2 rfl) ?_
  refine lv_aload_n hx hb dL_law_963 rfl (lv_at hl 3 rfl) ?_
  refine lv_iload_n hx hb dL_law_964 rfl (lv_at hl 0 rfl) ?_
  refine lv_iconst (v := iZ 1) hx hb dL_law_965 (by decide) ?_
  refine z_iadd (x := 0) (y := 1) hx hb dL_law_966 ?_
  refine lq_ld hx hb hX hbl hbA hS 1 (by omega) (by omega) e1 (by decide) dL_law_967 ?_
  refine lq_ci (As := [.int (iZ x1)]) (rest := []) ⟨hx, hb, hml, hown, htsL⟩ hKc hP hNA hD hS (K_X7_back_0 l D C a bb cV1 x1 (by first | assumption | exact trivial) (by first | assumption | exact trivial) ) (cwV 1 htsL gL_law_X7_back rfl rfl rfl (by decide +kernel) ⟨Nat.le_of_ble_eq_true rfl, Nat.le_of_ble_eq_true rfl⟩) rfl rfl hl.1 (Nat.le_of_ble_eq_true rfl) ⟨Nat.le_of_ble_eq_true rfl, Nat.le_of_ble_eq_true rfl⟩ dL_law_968 ?_
  refine lv_aload_n hx hb dL_law_971 rfl (lv_at hl 1 rfl) ?_
  refine lv_aload_n hx hb dL_law_972 rfl (lv_at hl 3 rfl) ?_
  refine lv_iload_n hx hb dL_law_973 rfl (lv_at hl 0 rfl) ?_
  refine lv_iconst (v := iZ 1) hx hb dL_law_974 (by decide) ?_
  refine z_iadd (x := 0) (y := 1) hx hb dL_law_975 ?_
  refine lq_ld hx hb hX hbl hbA hS 1 (by omega) (by omega) e1 (by decide) dL_law_976 ?_
  refine lq_mm (As := [.int (iZ x1)]) (rest := [.int (iZ (if 0 ≤ x1 ∧ x1 < 2 then -2 else -1))]) ⟨hx, hb, hml, hown, htsL⟩ hKm hPm hDm hS (mA_of hDm hjk) (C_back l D C2 h2 a2 mM0 x1 (by first | assumption | exact trivial) (by first | assumption | exact trivial) (hDm.weaken (fun _ _ _ _ => trivial))) (cwV 1 htsL gL_law_X8_back rfl rfl rfl (by decide +kernel) ⟨Nat.le_of_ble_eq_true rfl, Nat.le_of_ble_eq_true rfl⟩) rfl rfl hl.1 (Nat.le_of_ble_eq_true rfl) ⟨Nat.le_of_ble_eq_true rfl, Nat.le_of_ble_eq_true rfl⟩ dL_law_977 (fun H locs _ _ hS9 _ => ?_)
  replace hS := hS9
  rw [heq]
  refine lv_icmp_eq (tgt := 1022) hx hb dL_law_980 (by decide) (fun _ => ?_) (fun z => absurd rfl z)
  exact p1_end (a := a) l C0 hL hS hl
set_option maxHeartbeats 4000000 in
set_option maxRecDepth 100000 in
theorem p1_case_27 {p : Program} {e : Env} {s : State} {m : MethodId} {below : List Frame} {meth : Method} {c : Code} (l : Launch) {b L : Nat} {xs : Nat → Int32} (C0 : lw_At p s m meth c b L xs) (hL : L = 6) {D : va_G} {C : cC} {C2 : mC} (hKc : va_K D vwCl (cT C) s) (hKm : va_K D vwCl (mT C2) s) {a a2 bb : Nat → Nat} {h2 : Nat} (hNA : cNA D C (fun q : Nat => s.heap.size ≤ q) bb s)
  {H : Heap} {locs : List Loc} (hP : va_P D vwCl (cW C a cV1) H) (hD : va_D (fun q : Nat => s.heap.size ≤ q) (cW C a cV1)) (hPm : va_P D vwCl (mW C2 h2 a2 mM0) H) (hDm : va_D (fun q : Nat => s.heap.size ≤ q) (mW C2 h2 a2 mM0)) (hjk : ∀ k : Nat, ∃ (j : Nat) (e : va_E), (mW C2 h2 a2 mM0)[j]? = some (a2 k, e)) (hdj : ∀ q, cA a q → ¬ mA h2 a2 q) (hS : va_S (fun q : Nat => s.heap.size ≤ q) s.heap H locs) {ls : Array Slot} (hl : lv_has ls 4 [(3, .int (iZ 0)), (2, .ref h2), (1, .ref (a 0)), (0, .ref b)]) : W p l e room_1 s m #[Value.ref b] below meth c H locs 600000 7302250 (lw_Z below #[Value.ref b] s) (F0 m 985 ls []) := by
  obtain ⟨hx, hb, hr, hml, hown, hts, hX, hbl, hlocks, hgv⟩ := id C0
  have hbA : ¬ (fun q : Nat => s.heap.size ≤ q) b := Nat.not_le.mpr hbl
  have htsL : ∀ w ∈ wsL_law, w.before #[Value.ref b] s = true := fun w h => hts w (wsL_law_in w h)
  obtain ⟨x1, hz1, e1⟩ := iZ_of (xs 1)
  have f1 : isTo (Int.toNat (cV1 0 3)) := by rw [show cV1 0 3 = 15 by decide +kernel]; unfold isTo; omega
  have f2 : isTo (Int.toNat (cV1 0 4)) := by rw [show cV1 0 4 = 23 by decide +kernel]; unfold isTo; omega
  have f3 : cV1 (Int.toNat (cV1 0 3)) 7 = 0 := by decide +kernel
  have f4 : cV1 (Int.toNat (cV1 0 3)) 8 = 0 := by decide +kernel
  have f5 : 0 ≤ cV1 (Int.toNat (cV1 0 3)) 9 ∧ cV1 (Int.toNat (cV1 0 3)) 9 ≤ 6 := by decide +kernel
  have f5b : cV1 (Int.toNat (cV1 0 3)) 9 = 0 := by decide +kernel
  have g390 : cV1 39 0 = 0 := by decide +kernel
  have g391 : cV1 39 1 = 0 := by decide +kernel
  have g392 : cV1 39 2 = 0 := by decide +kernel
  have g01 : cV1 0 1 = 0 := by decide +kernel
  have g44 : cV1 4 4 = 0 := by decide +kernel
  have g311 : cV1 31 1 = 0 := by decide +kernel
  have g012 : cV1 0 12 = 0 := by decide +kernel
  have f6 : 0 ≤ cV1 39 0 ∧ cV1 39 0 ≤ 999 := by omega
  have f7 : 0 ≤ cV1 39 1 ∧ cV1 39 1 ≤ 5 := by omega
  have f8 : 0 ≤ cV1 39 2 ∧ cV1 39 2 ≤ 8 := by omega
  have f9 : 0 ≤ cV1 0 1 ∧ cV1 0 1 ≤ 120 := by omega
  have f10 : ¬ Int.toNat (cV1 0 4) = 0 := by decide +kernel
  have f11 := paI_0
  have f12 := paI_1
  have f13 := cf_im
  have f14 : ∀ k : Nat, k < 4 → 0 ≤ cV1 40 k ∧ cV1 40 k ≤ 20 := fun k hk => by rw [cf_fe k hk]; decide
  have hI0 := mI_0
  have m10 : mM0 1 0 = 0 := by decide +kernel
  have m20 : mM0 2 0 = 0 := by decide +kernel
  have m50 : mM0 5 0 = 0 := by decide +kernel
  have m90 : mM0 9 0 = 1 := by decide +kernel
  have m190 : mM0 19 0 = 0 := by decide +kernel
  have m191 : mM0 19 1 = 0 := by decide +kernel
  have m1912 : mM0 19 12 = 0 := by decide +kernel
  have m200 : mM0 20 0 = 0 := by decide +kernel
  have m280 : mM0 28 0 = 0 := by decide +kernel
  have m290 : mM0 29 0 = 0 := by decide +kernel
  have heq : ((if x1 = 0 then cV1 (Int.toNat (cV1 0 3)) 7 else if x1 = 1 then cV1 (Int.toNat (cV1 0 3)) 8 else if x1 = 2 then (if 1 < cV1 (Int.toNat (cV1 0 3)) 9 then cV1 (Int.toNat (cV1 0 3)) 9 else 1) else if x1 = 3 then cV1 4 4 else if x1 = 4 then cV1 31 1 else if x1 = 5 then cV1 0 1 else -1) : Int) = (s_count mM0 x1) := by unfold s_count; rw [m20, m50, m90, m280, m200, m10, g44, g311, g01, f3, f4, if_neg (show ¬ (1 < cV1 (Int.toNat (cV1 0 3)) 9) by omega)]
  refine lv_aload_n hx hb dL_law_985 rfl (lv_at hl 2 rfl) ?_
  refine lv_aload_n hx hb dL_law_986 rfl (lv_at hl 3 rfl) ?_
  refine lv_iload_n hx hb dL_law_987 rfl (lv_at hl 0 rfl) ?_
  refine lv_iconst (v := iZ 1) hx hb dL_law_988 (by decide) ?_
  refine z_iadd (x := 0) (y := 1) hx hb dL_law_989 ?_
  refine lq_ld hx hb hX hbl hbA hS 1 (by omega) (by omega) e1 (by decide) dL_law_990 ?_
  refine lq_ci (As := [.int (iZ x1)]) (rest := []) ⟨hx, hb, hml, hown, htsL⟩ hKc hP hNA hD hS (K_X7_count l D C a bb cV1 x1 (by first | assumption | exact trivial) (by first | assumption | exact trivial) (by first | assumption | exact trivial) ) (cwV 1 htsL gL_law_X7_count rfl rfl rfl (by decide +kernel) ⟨Nat.le_of_ble_eq_true rfl, Nat.le_of_ble_eq_true rfl⟩) rfl rfl hl.1 (Nat.le_of_ble_eq_true rfl) ⟨Nat.le_of_ble_eq_true rfl, Nat.le_of_ble_eq_true rfl⟩ dL_law_991 ?_
  refine lv_aload_n hx hb dL_law_994 rfl (lv_at hl 1 rfl) ?_
  refine lv_aload_n hx hb dL_law_995 rfl (lv_at hl 3 rfl) ?_
  refine lv_iload_n hx hb dL_law_996 rfl (lv_at hl 0 rfl) ?_
  refine lv_iconst (v := iZ 1) hx hb dL_law_997 (by decide) ?_
  refine z_iadd (x := 0) (y := 1) hx hb dL_law_998 ?_
  refine lq_ld hx hb hX hbl hbA hS 1 (by omega) (by omega) e1 (by decide) dL_law_999 ?_
  refine lq_mi (As := [.int (iZ x1)]) (rest := [.int (iZ (if x1 = 0 then cV1 (Int.toNat (cV1 0 3)) 7 else if x1 = 1 then cV1 (Int.toNat (cV1 0 3)) 8 else if x1 = 2 then (if 1 < cV1 (Int.toNat (cV1 0 3)) 9 then cV1 (Int.toNat (cV1 0 3)) 9 else 1) else if x1 = 3 then cV1 4 4 else if x1 = 4 then cV1 31 1 else if x1 = 5 then cV1 0 1 else -1))]) ⟨hx, hb, hml, hown, htsL⟩ hKm hPm (C_count l D C2 h2 a2 mM0 x1 (by first | assumption | exact trivial) (by first | assumption | exact trivial) ) (cwV 1 htsL gL_law_X8_count rfl rfl rfl (by decide +kernel) ⟨Nat.le_of_ble_eq_true rfl, Nat.le_of_ble_eq_true rfl⟩) rfl rfl hl.1 (Nat.le_of_ble_eq_true rfl) ⟨Nat.le_of_ble_eq_true rfl, Nat.le_of_ble_eq_true rfl⟩ dL_law_1000 ?_
  rw [heq]
  refine lv_icmp_eq (tgt := 1022) hx hb dL_law_1003 (by decide) (fun _ => ?_) (fun z => absurd rfl z)
  exact p1_end (a := a) l C0 hL hS hl
set_option maxHeartbeats 4000000 in
set_option maxRecDepth 100000 in
theorem p1_case_28 {p : Program} {e : Env} {s : State} {m : MethodId} {below : List Frame} {meth : Method} {c : Code} (l : Launch) {b L : Nat} {xs : Nat → Int32} (C0 : lw_At p s m meth c b L xs) (hL : L = 6) {D : va_G} {C : cC} {C2 : mC} (hKc : va_K D vwCl (cT C) s) (hKm : va_K D vwCl (mT C2) s) {a a2 bb : Nat → Nat} {h2 : Nat} (hNA : cNA D C (fun q : Nat => s.heap.size ≤ q) bb s)
  {H : Heap} {locs : List Loc} (hP : va_P D vwCl (cW C a cV1) H) (hD : va_D (fun q : Nat => s.heap.size ≤ q) (cW C a cV1)) (hPm : va_P D vwCl (mW C2 h2 a2 mM0) H) (hDm : va_D (fun q : Nat => s.heap.size ≤ q) (mW C2 h2 a2 mM0)) (hjk : ∀ k : Nat, ∃ (j : Nat) (e : va_E), (mW C2 h2 a2 mM0)[j]? = some (a2 k, e)) (hdj : ∀ q, cA a q → ¬ mA h2 a2 q) (hS : va_S (fun q : Nat => s.heap.size ≤ q) s.heap H locs) {ls : Array Slot} (hl : lv_has ls 4 [(3, .int (iZ 0)), (2, .ref h2), (1, .ref (a 0)), (0, .ref b)]) : W p l e room_1 s m #[Value.ref b] below meth c H locs 600000 7302250 (lw_Z below #[Value.ref b] s) (F0 m 1008 ls []) := by
  obtain ⟨hx, hb, hr, hml, hown, hts, hX, hbl, hlocks, hgv⟩ := id C0
  have hbA : ¬ (fun q : Nat => s.heap.size ≤ q) b := Nat.not_le.mpr hbl
  have htsL : ∀ w ∈ wsL_law, w.before #[Value.ref b] s = true := fun w h => hts w (wsL_law_in w h)
  have f1 : isTo (Int.toNat (cV1 0 3)) := by rw [show cV1 0 3 = 15 by decide +kernel]; unfold isTo; omega
  have f2 : isTo (Int.toNat (cV1 0 4)) := by rw [show cV1 0 4 = 23 by decide +kernel]; unfold isTo; omega
  have f3 : cV1 (Int.toNat (cV1 0 3)) 7 = 0 := by decide +kernel
  have f4 : cV1 (Int.toNat (cV1 0 3)) 8 = 0 := by decide +kernel
  have f5 : 0 ≤ cV1 (Int.toNat (cV1 0 3)) 9 ∧ cV1 (Int.toNat (cV1 0 3)) 9 ≤ 6 := by decide +kernel
  have f5b : cV1 (Int.toNat (cV1 0 3)) 9 = 0 := by decide +kernel
  have g390 : cV1 39 0 = 0 := by decide +kernel
  have g391 : cV1 39 1 = 0 := by decide +kernel
  have g392 : cV1 39 2 = 0 := by decide +kernel
  have g01 : cV1 0 1 = 0 := by decide +kernel
  have g44 : cV1 4 4 = 0 := by decide +kernel
  have g311 : cV1 31 1 = 0 := by decide +kernel
  have g012 : cV1 0 12 = 0 := by decide +kernel
  have f6 : 0 ≤ cV1 39 0 ∧ cV1 39 0 ≤ 999 := by omega
  have f7 : 0 ≤ cV1 39 1 ∧ cV1 39 1 ≤ 5 := by omega
  have f8 : 0 ≤ cV1 39 2 ∧ cV1 39 2 ≤ 8 := by omega
  have f9 : 0 ≤ cV1 0 1 ∧ cV1 0 1 ≤ 120 := by omega
  have f10 : ¬ Int.toNat (cV1 0 4) = 0 := by decide +kernel
  have f11 := paI_0
  have f12 := paI_1
  have f13 := cf_im
  have f14 : ∀ k : Nat, k < 4 → 0 ≤ cV1 40 k ∧ cV1 40 k ≤ 20 := fun k hk => by rw [cf_fe k hk]; decide
  have hI0 := mI_0
  have m10 : mM0 1 0 = 0 := by decide +kernel
  have m20 : mM0 2 0 = 0 := by decide +kernel
  have m50 : mM0 5 0 = 0 := by decide +kernel
  have m90 : mM0 9 0 = 1 := by decide +kernel
  have m190 : mM0 19 0 = 0 := by decide +kernel
  have m191 : mM0 19 1 = 0 := by decide +kernel
  have m1912 : mM0 19 12 = 0 := by decide +kernel
  have m200 : mM0 20 0 = 0 := by decide +kernel
  have m280 : mM0 28 0 = 0 := by decide +kernel
  have m290 : mM0 29 0 = 0 := by decide +kernel
  have heq : ((cV1 0 12) : Int) = (mM0 29 0) := by rw [g012, m290]
  refine lv_aload_n hx hb dL_law_1008 rfl (lv_at hl 2 rfl) ?_
  refine lq_cl (As := []) (rest := []) ⟨hx, hb, hml, hown, htsL⟩ hKc hP hNA hD hS (K_X7_trace l D C a bb cV1   ) (cwV 0 htsL gL_law_X7_trace rfl rfl rfl (by decide +kernel) ⟨Nat.le_of_ble_eq_true rfl, Nat.le_of_ble_eq_true rfl⟩) rfl rfl hl.1 (Nat.le_of_ble_eq_true rfl) ⟨Nat.le_of_ble_eq_true rfl, Nat.le_of_ble_eq_true rfl⟩ dL_law_1009 ?_
  refine lv_aload_n hx hb dL_law_1012 rfl (lv_at hl 1 rfl) ?_
  refine lq_ml (As := []) (rest := [.long (iL (cV1 0 12))]) ⟨hx, hb, hml, hown, htsL⟩ hKm hPm (C_trace l D C2 h2 a2 mM0   ) (cwV 0 htsL gL_law_X8_trace rfl rfl rfl (by decide +kernel) ⟨Nat.le_of_ble_eq_true rfl, Nat.le_of_ble_eq_true rfl⟩) rfl rfl hl.1 (Nat.le_of_ble_eq_true rfl) ⟨Nat.le_of_ble_eq_true rfl, Nat.le_of_ble_eq_true rfl⟩ dL_law_1013 ?_
  rw [heq]
  refine W.lcmp hx hb dL_law_1016 ?_
  rw [show lg_cmp (iL (mM0 29 0)) (iL (mM0 29 0)) = 0 from by simp [lg_cmp]]
  refine lv_if_eq (tgt := 1022) hx hb dL_law_1017 (by decide) (fun _ => ?_) (fun z => absurd rfl z)
  exact p1_end (a := a) l C0 hL hS hl
end CASES
