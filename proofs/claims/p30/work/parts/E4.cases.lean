/-! The law's cases, between calls. -/
section CASES
set_option maxHeartbeats 4000000 in
set_option maxRecDepth 100000 in
theorem q_case_0 {p : Program} {e : Env} {s : State} {m : MethodId} {below : List Frame} {meth : Method} {c : Code} (l : Launch) {b L : Nat} {xs : Nat → Int32} (C0 : lw_At p s m meth c b L xs) (hL : L ≤ 384) {D : va_G} {C : cC} {C2 : mC} (hKc : va_K D vwCl (cT C) s) (hKm : va_K D vwCl (mT C2) s) {a a2 bb : Nat → Nat} {h2 : Nat} (hNA : cNA D C (fun q : Nat => s.heap.size ≤ q) bb s) (hD0 : va_D (fun q : Nat => s.heap.size ≤ q) (cW C a cV1)) (hDm0 : va_D (fun q : Nat => s.heap.size ≤ q) (mW C2 h2 a2 mM0)) (hAA : ∀ q, mA h2 a2 q → (fun q : Nat => s.heap.size ≤ q) q) (hdj : ∀ q, cA a q → ¬ mA h2 a2 q) {V M : Nat → Nat → Int} (hR : cR V M) (hI : mI M) {ii : Int} (hii : 0 ≤ ii ∧ ii + 6 ≤ (L : Int)) {H : Heap} {locs : List Loc} (hP : va_P D vwCl (cW C a V) H) (hPm : va_P D vwCl (mW C2 h2 a2 M) H) (hS : va_S (fun q : Nat => s.heap.size ≤ q) s.heap H locs) {ls : Array Slot} (hl : lv_has ls 4 [(3, .int (iZ ii)), (2, .ref h2), (1, .ref (a 0)), (0, .ref b)]) (kk : ∀ (V M : Nat → Nat → Int) (H : Heap) (locs : List Loc), cR V M → mI M → va_P D vwCl (cW C a V) H → va_P D vwCl (mW C2 h2 a2 M) H → va_S (fun q : Nat => s.heap.size ≤ q) s.heap H locs → W p l e room_1 s m #[Value.ref b] below meth c H locs 600000 7302250 (lw_Z below #[Value.ref b] s) (F0 m 1022 ls [])) : W p l e room_1 s m #[Value.ref b] below meth c H locs 600000 7302250 (lw_Z below #[Value.ref b] s) (F0 m 164 ls []) := by
  obtain ⟨hx, hb, hr, hml, hown, hts, hX, hbl, hlocks, hgv⟩ := id C0
  have hbA : ¬ (fun q : Nat => s.heap.size ≤ q) b := Nat.not_le.mpr hbl
  have htsL : ∀ w ∈ wsL_law, w.before #[Value.ref b] s = true := fun w h => hts w (wsL_law_in w h)
  have hD : va_D (fun q : Nat => s.heap.size ≤ q) (cW C a V) := cD_re hD0
  have hDm : va_D (fun q : Nat => s.heap.size ≤ q) (mW C2 h2 a2 M) := mD_re hDm0
  obtain ⟨n, hn⟩ := Int.eq_ofNat_of_zero_le hii.1
  obtain ⟨x1, hz1, e1⟩ := iZ_of (xs (n + 1))
  have hC : cI V := hR.cIb hI
  have f1 : isTo (Int.toNat (V 0 3)) := hC.1
  have f2 : isTo (Int.toNat (V 0 4)) := hC.2.1
  have f5 : 0 ≤ V (Int.toNat (V 0 3)) 9 ∧ V (Int.toNat (V 0 3)) 9 ≤ 6 := hC.2.2.2.2.1.now.2.2
  have f6 : 0 ≤ V 39 0 ∧ V 39 0 ≤ 999 := hC.2.2.2.2.2.1.1
  have f7 : 0 ≤ V 39 1 ∧ V 39 1 ≤ 5 := hC.2.2.2.2.2.1.2.1
  have f8 : 0 ≤ V 39 2 ∧ V 39 2 ≤ 8 := hC.2.2.2.2.2.1.2.2.1
  have f9 : 0 ≤ V 0 1 ∧ V 0 1 ≤ 120 := hC.2.2.2.1
  have f11 : paI V 31 := hC.2.2.2.2.2.2.1
  have f12 : ∀ q : Nat, isIm q → paI V (33 + 2 * (q - 37)) := hC.2.2.2.2.2.2.2.1
  have f14 : ∀ k : Nat, k < 4 → 0 ≤ V 40 k ∧ V 40 k ≤ 20 := hC.2.2.2.2.2.1.2.2.2.1
  obtain ⟨heq, hR2⟩ := R_type hI hR x1
  have hI2 := mI_type hI x1
  refine lv_aload_n hx hb dL_law_164 rfl (lv_at hl 2 rfl) ?_
  refine lv_aload_n hx hb dL_law_165 rfl (lv_at hl 3 rfl) ?_
  refine lv_iload_n hx hb dL_law_166 rfl (lv_at hl 0 rfl) ?_
  refine lv_iconst (v := iZ 1) hx hb dL_law_167 (by decide) ?_
  refine z_iadd (x := ii) (y := 1) hx hb dL_law_168 ?_
  refine lq_ld hx hb hX hbl hbA hS (n + 1) (by omega) (by omega) e1 (by omega) dL_law_169 ?_
  refine lq_cm (As := [.int (iZ x1)]) (rest := []) ⟨hx, hb, hml, hown, htsL⟩ hKc hP hNA hD hS (K_X7_type l D C a bb V x1 (by assumption) (by assumption) (hD.weaken (fun _ _ _ _ => trivial))) (cwV 1 htsL gL_law_X7_type rfl rfl rfl (by decide +kernel) ⟨Nat.le_of_ble_eq_true rfl, Nat.le_of_ble_eq_true rfl⟩) rfl rfl hl.1 (Nat.le_of_ble_eq_true rfl) ⟨Nat.le_of_ble_eq_true rfl, Nat.le_of_ble_eq_true rfl⟩ dL_law_170 (fun H locs hP9 hD9 hS9 hk9 => ?_)
  replace hPm : va_P D vwCl (mW C2 h2 a2 M) H := hPm.kept (fun k q hq => hk9 q.1 (hPm k q hq).lt (fun z => hdj _ z (mA_mem k q hq)))
  replace hP := hP9
  replace hD := hD9
  replace hS := hS9
  clear hk9
  refine lv_pop hx hb dL_law_173 rfl ?_
  refine lv_aload_n hx hb dL_law_174 rfl (lv_at hl 1 rfl) ?_
  refine lv_aload_n hx hb dL_law_175 rfl (lv_at hl 3 rfl) ?_
  refine lv_iload_n hx hb dL_law_176 rfl (lv_at hl 0 rfl) ?_
  refine lv_iconst (v := iZ 1) hx hb dL_law_177 (by decide) ?_
  refine z_iadd (x := ii) (y := 1) hx hb dL_law_178 ?_
  refine lq_ld hx hb hX hbl hbA hS (n + 1) (by omega) (by omega) e1 (by omega) dL_law_179 ?_
  refine lq_mm (As := [.int (iZ x1)]) (rest := []) ⟨hx, hb, hml, hown, htsL⟩ hKm hPm hDm hS hAA (C_type l D C2 h2 a2 M x1 (by assumption) (by assumption) (hDm.weaken (fun _ _ _ _ => trivial))) (cwV 1 htsL gL_law_X8_type rfl rfl rfl (by decide +kernel) ⟨Nat.le_of_ble_eq_true rfl, Nat.le_of_ble_eq_true rfl⟩) rfl rfl hl.1 (Nat.le_of_ble_eq_true rfl) ⟨Nat.le_of_ble_eq_true rfl, Nat.le_of_ble_eq_true rfl⟩ dL_law_180 (fun H locs hP9 hD9 hS9 hk9 => ?_)
  replace hP : va_P D vwCl (cW C a (if (0 ≤ x1 ∧ x1 ≤ 255) ∧ V 0 1 < 120 then mU (mU V 1 (Int.toNat (V 0 1)) x1) 0 1 (V 0 1 + 1) else V)) H := hP.kept (fun k q hq => hk9 q.1 (hP k q hq).lt (fun z => hdj _ (cA_mem k q hq) z))
  replace hPm := hP9
  replace hS := hS9
  clear hk9
  refine lv_pop hx hb dL_law_183 rfl ?_
  refine lv_goto (tgt := 1022) hx hb dL_law_184 (by decide) ?_
  exact kk (if (0 ≤ x1 ∧ x1 ≤ 255) ∧ V 0 1 < 120 then mU (mU V 1 (Int.toNat (V 0 1)) x1) 0 1 (V 0 1 + 1) else V) (f_type M x1) H locs hR2 hI2 hP hPm hS
set_option maxHeartbeats 4000000 in
set_option maxRecDepth 100000 in
theorem q_case_1 {p : Program} {e : Env} {s : State} {m : MethodId} {below : List Frame} {meth : Method} {c : Code} (l : Launch) {b L : Nat} {xs : Nat → Int32} (C0 : lw_At p s m meth c b L xs) (hL : L ≤ 384) {D : va_G} {C : cC} {C2 : mC} (hKc : va_K D vwCl (cT C) s) (hKm : va_K D vwCl (mT C2) s) {a a2 bb : Nat → Nat} {h2 : Nat} (hNA : cNA D C (fun q : Nat => s.heap.size ≤ q) bb s) (hD0 : va_D (fun q : Nat => s.heap.size ≤ q) (cW C a cV1)) (hDm0 : va_D (fun q : Nat => s.heap.size ≤ q) (mW C2 h2 a2 mM0)) (hAA : ∀ q, mA h2 a2 q → (fun q : Nat => s.heap.size ≤ q) q) (hdj : ∀ q, cA a q → ¬ mA h2 a2 q) {V M : Nat → Nat → Int} (hR : cR V M) (hI : mI M) {ii : Int} (hii : 0 ≤ ii ∧ ii + 6 ≤ (L : Int)) {H : Heap} {locs : List Loc} (hP : va_P D vwCl (cW C a V) H) (hPm : va_P D vwCl (mW C2 h2 a2 M) H) (hS : va_S (fun q : Nat => s.heap.size ≤ q) s.heap H locs) {ls : Array Slot} (hl : lv_has ls 4 [(3, .int (iZ ii)), (2, .ref h2), (1, .ref (a 0)), (0, .ref b)]) (kk : ∀ (V M : Nat → Nat → Int) (H : Heap) (locs : List Loc), cR V M → mI M → va_P D vwCl (cW C a V) H → va_P D vwCl (mW C2 h2 a2 M) H → va_S (fun q : Nat => s.heap.size ≤ q) s.heap H locs → W p l e room_1 s m #[Value.ref b] below meth c H locs 600000 7302250 (lw_Z below #[Value.ref b] s) (F0 m 1022 ls [])) : W p l e room_1 s m #[Value.ref b] below meth c H locs 600000 7302250 (lw_Z below #[Value.ref b] s) (F0 m 187 ls []) := by
  obtain ⟨hx, hb, hr, hml, hown, hts, hX, hbl, hlocks, hgv⟩ := id C0
  have hbA : ¬ (fun q : Nat => s.heap.size ≤ q) b := Nat.not_le.mpr hbl
  have htsL : ∀ w ∈ wsL_law, w.before #[Value.ref b] s = true := fun w h => hts w (wsL_law_in w h)
  have hD : va_D (fun q : Nat => s.heap.size ≤ q) (cW C a V) := cD_re hD0
  have hDm : va_D (fun q : Nat => s.heap.size ≤ q) (mW C2 h2 a2 M) := mD_re hDm0
  obtain ⟨n, hn⟩ := Int.eq_ofNat_of_zero_le hii.1
  have hC : cI V := hR.cIb hI
  have f1 : isTo (Int.toNat (V 0 3)) := hC.1
  have f2 : isTo (Int.toNat (V 0 4)) := hC.2.1
  have f5 : 0 ≤ V (Int.toNat (V 0 3)) 9 ∧ V (Int.toNat (V 0 3)) 9 ≤ 6 := hC.2.2.2.2.1.now.2.2
  have f6 : 0 ≤ V 39 0 ∧ V 39 0 ≤ 999 := hC.2.2.2.2.2.1.1
  have f7 : 0 ≤ V 39 1 ∧ V 39 1 ≤ 5 := hC.2.2.2.2.2.1.2.1
  have f8 : 0 ≤ V 39 2 ∧ V 39 2 ≤ 8 := hC.2.2.2.2.2.1.2.2.1
  have f9 : 0 ≤ V 0 1 ∧ V 0 1 ≤ 120 := hC.2.2.2.1
  have f11 : paI V 31 := hC.2.2.2.2.2.2.1
  have f12 : ∀ q : Nat, isIm q → paI V (33 + 2 * (q - 37)) := hC.2.2.2.2.2.2.2.1
  have f14 : ∀ k : Nat, k < 4 → 0 ≤ V 40 k ∧ V 40 k ≤ 20 := hC.2.2.2.2.2.1.2.2.2.1
  obtain ⟨heq, hR2⟩ := R_clear hI hR 
  have hI2 := mI_clear hI 
  refine lv_aload_n hx hb dL_law_187 rfl (lv_at hl 2 rfl) ?_
  refine lq_cm (As := []) (rest := []) ⟨hx, hb, hml, hown, htsL⟩ hKc hP hNA hD hS (K_X7_clear l D C a bb V   (hD.weaken (fun _ _ _ _ => trivial))) (cwV 0 htsL gL_law_X7_clear rfl rfl rfl (by decide +kernel) ⟨Nat.le_of_ble_eq_true rfl, Nat.le_of_ble_eq_true rfl⟩) rfl rfl hl.1 (Nat.le_of_ble_eq_true rfl) ⟨Nat.le_of_ble_eq_true rfl, Nat.le_of_ble_eq_true rfl⟩ dL_law_188 (fun H locs hP9 hD9 hS9 hk9 => ?_)
  replace hPm : va_P D vwCl (mW C2 h2 a2 M) H := hPm.kept (fun k q hq => hk9 q.1 (hPm k q hq).lt (fun z => hdj _ z (mA_mem k q hq)))
  replace hP := hP9
  replace hD := hD9
  replace hS := hS9
  clear hk9
  refine lv_pop hx hb dL_law_191 rfl ?_
  refine lv_aload_n hx hb dL_law_192 rfl (lv_at hl 1 rfl) ?_
  refine lq_mm (As := []) (rest := []) ⟨hx, hb, hml, hown, htsL⟩ hKm hPm hDm hS hAA (C_clear l D C2 h2 a2 M   (hDm.weaken (fun _ _ _ _ => trivial))) (cwV 0 htsL gL_law_X8_clear rfl rfl rfl (by decide +kernel) ⟨Nat.le_of_ble_eq_true rfl, Nat.le_of_ble_eq_true rfl⟩) rfl rfl hl.1 (Nat.le_of_ble_eq_true rfl) ⟨Nat.le_of_ble_eq_true rfl, Nat.le_of_ble_eq_true rfl⟩ dL_law_193 (fun H locs hP9 hD9 hS9 hk9 => ?_)
  replace hP : va_P D vwCl (cW C a (mU V 0 1 0)) H := hP.kept (fun k q hq => hk9 q.1 (hP k q hq).lt (fun z => hdj _ (cA_mem k q hq) z))
  replace hPm := hP9
  replace hS := hS9
  clear hk9
  refine lv_pop hx hb dL_law_196 rfl ?_
  refine lv_goto (tgt := 1022) hx hb dL_law_197 (by decide) ?_
  exact kk (mU V 0 1 0) (mU M 1 0 0) H locs hR2 hI2 hP hPm hS
set_option maxHeartbeats 4000000 in
set_option maxRecDepth 100000 in
theorem q_case_2 {p : Program} {e : Env} {s : State} {m : MethodId} {below : List Frame} {meth : Method} {c : Code} (l : Launch) {b L : Nat} {xs : Nat → Int32} (C0 : lw_At p s m meth c b L xs) (hL : L ≤ 384) {D : va_G} {C : cC} {C2 : mC} (hKc : va_K D vwCl (cT C) s) (hKm : va_K D vwCl (mT C2) s) {a a2 bb : Nat → Nat} {h2 : Nat} (hNA : cNA D C (fun q : Nat => s.heap.size ≤ q) bb s) (hD0 : va_D (fun q : Nat => s.heap.size ≤ q) (cW C a cV1)) (hDm0 : va_D (fun q : Nat => s.heap.size ≤ q) (mW C2 h2 a2 mM0)) (hAA : ∀ q, mA h2 a2 q → (fun q : Nat => s.heap.size ≤ q) q) (hdj : ∀ q, cA a q → ¬ mA h2 a2 q) {V M : Nat → Nat → Int} (hR : cR V M) (hI : mI M) {ii : Int} (hii : 0 ≤ ii ∧ ii + 6 ≤ (L : Int)) {H : Heap} {locs : List Loc} (hP : va_P D vwCl (cW C a V) H) (hPm : va_P D vwCl (mW C2 h2 a2 M) H) (hS : va_S (fun q : Nat => s.heap.size ≤ q) s.heap H locs) {ls : Array Slot} (hl : lv_has ls 4 [(3, .int (iZ ii)), (2, .ref h2), (1, .ref (a 0)), (0, .ref b)]) (kk : ∀ (V M : Nat → Nat → Int) (H : Heap) (locs : List Loc), cR V M → mI M → va_P D vwCl (cW C a V) H → va_P D vwCl (mW C2 h2 a2 M) H → va_S (fun q : Nat => s.heap.size ≤ q) s.heap H locs → W p l e room_1 s m #[Value.ref b] below meth c H locs 600000 7302250 (lw_Z below #[Value.ref b] s) (F0 m 1022 ls [])) : W p l e room_1 s m #[Value.ref b] below meth c H locs 600000 7302250 (lw_Z below #[Value.ref b] s) (F0 m 200 ls []) := by
  obtain ⟨hx, hb, hr, hml, hown, hts, hX, hbl, hlocks, hgv⟩ := id C0
  have hbA : ¬ (fun q : Nat => s.heap.size ≤ q) b := Nat.not_le.mpr hbl
  have htsL : ∀ w ∈ wsL_law, w.before #[Value.ref b] s = true := fun w h => hts w (wsL_law_in w h)
  have hD : va_D (fun q : Nat => s.heap.size ≤ q) (cW C a V) := cD_re hD0
  have hDm : va_D (fun q : Nat => s.heap.size ≤ q) (mW C2 h2 a2 M) := mD_re hDm0
  obtain ⟨n, hn⟩ := Int.eq_ofNat_of_zero_le hii.1
  have hC : cI V := hR.cIb hI
  have f1 : isTo (Int.toNat (V 0 3)) := hC.1
  have f2 : isTo (Int.toNat (V 0 4)) := hC.2.1
  have f5 : 0 ≤ V (Int.toNat (V 0 3)) 9 ∧ V (Int.toNat (V 0 3)) 9 ≤ 6 := hC.2.2.2.2.1.now.2.2
  have f6 : 0 ≤ V 39 0 ∧ V 39 0 ≤ 999 := hC.2.2.2.2.2.1.1
  have f7 : 0 ≤ V 39 1 ∧ V 39 1 ≤ 5 := hC.2.2.2.2.2.1.2.1
  have f8 : 0 ≤ V 39 2 ∧ V 39 2 ≤ 8 := hC.2.2.2.2.2.1.2.2.1
  have f9 : 0 ≤ V 0 1 ∧ V 0 1 ≤ 120 := hC.2.2.2.1
  have f11 : paI V 31 := hC.2.2.2.2.2.2.1
  have f12 : ∀ q : Nat, isIm q → paI V (33 + 2 * (q - 37)) := hC.2.2.2.2.2.2.2.1
  have f14 : ∀ k : Nat, k < 4 → 0 ≤ V 40 k ∧ V 40 k ≤ 20 := hC.2.2.2.2.2.1.2.2.2.1
  obtain ⟨heq, hR2, u3, u4⟩ := R_uplands hI hR
  have u0 : k_by V := hC.2.2.2.2.2.2.2.2.2.2.2
  have u1 := rd_cread f2 f9 u0
  have u1d : dtI (f_cread V (Int.toNat (V 0 4)) (V 0 1)).1 (Int.toNat (V 0 4)) := u1.2
  have u2 : (f_cread V (Int.toNat (V 0 4)) (V 0 1)).1 0 = V 0 := f_cread_o V _ (by have := f2; unfold isTo at this; omega)
  have u5 : ¬ Int.toNat (V 0 4) = 0 := by have := f2; unfold isTo at this; omega
  have w1 : 0 ≤ M 1 0 ∧ M 1 0 ≤ 120 := hI.1
  have wp := (pJ_read w1).1
  have w2 : f_read M 16 0 = 0 ∨ f_read M 16 0 = 1 := wp.2.2.2.2.1
  have w3 : ∀ _ : Unit, f_read M 16 0 = 0 → (0 ≤ f_read M 5 1 ∧ f_read M 5 1 ≤ 6) ∧ ∀ k : Nat, (k : Int) < f_read M 5 1 → 0 ≤ f_read M 8 (6 + k) ∧ f_read M 8 (6 + k) ≤ 30 := fun _ z => ⟨wp.2.2.2.2.2.2.2.1, fun k hk => by have q := ((qI_read w1 z).2.1 k hk).2.2; have q2 := wp.2.2.2.2.2.2.1; omega⟩
  have hI2 := mI_upl hI 
  refine lv_aload_n hx hb dL_law_200 rfl (lv_at hl 2 rfl) ?_
  refine lq_cm (As := []) (rest := []) ⟨hx, hb, hml, hown, htsL⟩ hKc hP hNA hD hS (K_X7_uplands l D C a bb V  (by assumption) (by assumption) (by assumption) (by assumption) (by assumption) (by assumption) (by assumption) (by assumption) (by assumption) (hD.weaken (fun _ _ _ _ => trivial))) (cwV 0 htsL gL_law_X7_uplands rfl rfl rfl (by decide +kernel) ⟨Nat.le_of_ble_eq_true rfl, Nat.le_of_ble_eq_true rfl⟩) rfl rfl hl.1 (Nat.le_of_ble_eq_true rfl) ⟨Nat.le_of_ble_eq_true rfl, Nat.le_of_ble_eq_true rfl⟩ dL_law_201 (fun H locs hP9 hD9 hS9 hk9 => ?_)
  replace hPm : va_P D vwCl (mW C2 h2 a2 M) H := hPm.kept (fun k q hq => hk9 q.1 (hPm k q hq).lt (fun z => hdj _ z (mA_mem k q hq)))
  replace hP := hP9
  replace hD := hD9
  replace hS := hS9
  clear hk9
  refine lv_pop hx hb dL_law_204 rfl ?_
  refine lv_aload_n hx hb dL_law_205 rfl (lv_at hl 1 rfl) ?_
  refine lq_mm (As := []) (rest := []) ⟨hx, hb, hml, hown, htsL⟩ hKm hPm hDm hS hAA (C_uplands l D C2 h2 a2 M  (by assumption) (by assumption) (by assumption) (hDm.weaken (fun _ _ _ _ => trivial))) (cwV 0 htsL gL_law_X8_uplands rfl rfl rfl (by decide +kernel) ⟨Nat.le_of_ble_eq_true rfl, Nat.le_of_ble_eq_true rfl⟩) rfl rfl hl.1 (Nat.le_of_ble_eq_true rfl) ⟨Nat.le_of_ble_eq_true rfl, Nat.le_of_ble_eq_true rfl⟩ dL_law_206 (fun H locs hP9 hD9 hS9 hk9 => ?_)
  replace hP : va_P D vwCl (cW C a (f_cup V)) H := hP.kept (fun k q hq => hk9 q.1 (hP k q hq).lt (fun z => hdj _ (cA_mem k q hq) z))
  replace hPm := hP9
  replace hS := hS9
  clear hk9
  refine lv_pop hx hb dL_law_209 rfl ?_
  refine lv_goto (tgt := 1022) hx hb dL_law_210 (by decide) ?_
  exact kk (f_cup V) (f_upl M) H locs hR2 hI2 hP hPm hS
set_option maxHeartbeats 4000000 in
set_option maxRecDepth 100000 in
theorem q_case_3 {p : Program} {e : Env} {s : State} {m : MethodId} {below : List Frame} {meth : Method} {c : Code} (l : Launch) {b L : Nat} {xs : Nat → Int32} (C0 : lw_At p s m meth c b L xs) (hL : L ≤ 384) {D : va_G} {C : cC} {C2 : mC} (hKc : va_K D vwCl (cT C) s) (hKm : va_K D vwCl (mT C2) s) {a a2 bb : Nat → Nat} {h2 : Nat} (hNA : cNA D C (fun q : Nat => s.heap.size ≤ q) bb s) (hD0 : va_D (fun q : Nat => s.heap.size ≤ q) (cW C a cV1)) (hDm0 : va_D (fun q : Nat => s.heap.size ≤ q) (mW C2 h2 a2 mM0)) (hAA : ∀ q, mA h2 a2 q → (fun q : Nat => s.heap.size ≤ q) q) (hdj : ∀ q, cA a q → ¬ mA h2 a2 q) {V M : Nat → Nat → Int} (hR : cR V M) (hI : mI M) {ii : Int} (hii : 0 ≤ ii ∧ ii + 6 ≤ (L : Int)) {H : Heap} {locs : List Loc} (hP : va_P D vwCl (cW C a V) H) (hPm : va_P D vwCl (mW C2 h2 a2 M) H) (hS : va_S (fun q : Nat => s.heap.size ≤ q) s.heap H locs) {ls : Array Slot} (hl : lv_has ls 4 [(3, .int (iZ ii)), (2, .ref h2), (1, .ref (a 0)), (0, .ref b)]) (kk : ∀ (V M : Nat → Nat → Int) (H : Heap) (locs : List Loc), cR V M → mI M → va_P D vwCl (cW C a V) H → va_P D vwCl (mW C2 h2 a2 M) H → va_S (fun q : Nat => s.heap.size ≤ q) s.heap H locs → W p l e room_1 s m #[Value.ref b] below meth c H locs 600000 7302250 (lw_Z below #[Value.ref b] s) (F0 m 1022 ls [])) : W p l e room_1 s m #[Value.ref b] below meth c H locs 600000 7302250 (lw_Z below #[Value.ref b] s) (F0 m 213 ls []) := by
  obtain ⟨hx, hb, hr, hml, hown, hts, hX, hbl, hlocks, hgv⟩ := id C0
  have hbA : ¬ (fun q : Nat => s.heap.size ≤ q) b := Nat.not_le.mpr hbl
  have htsL : ∀ w ∈ wsL_law, w.before #[Value.ref b] s = true := fun w h => hts w (wsL_law_in w h)
  have hD : va_D (fun q : Nat => s.heap.size ≤ q) (cW C a V) := cD_re hD0
  have hDm : va_D (fun q : Nat => s.heap.size ≤ q) (mW C2 h2 a2 M) := mD_re hDm0
  obtain ⟨n, hn⟩ := Int.eq_ofNat_of_zero_le hii.1
  obtain ⟨x1, hz1, e1⟩ := iZ_of (xs (n + 1))
  obtain ⟨x2, hz2, e2⟩ := iZ_of (xs (n + 2))
  have hC : cI V := hR.cIb hI
  have f1 : isTo (Int.toNat (V 0 3)) := hC.1
  have f2 : isTo (Int.toNat (V 0 4)) := hC.2.1
  have f5 : 0 ≤ V (Int.toNat (V 0 3)) 9 ∧ V (Int.toNat (V 0 3)) 9 ≤ 6 := hC.2.2.2.2.1.now.2.2
  have f6 : 0 ≤ V 39 0 ∧ V 39 0 ≤ 999 := hC.2.2.2.2.2.1.1
  have f7 : 0 ≤ V 39 1 ∧ V 39 1 ≤ 5 := hC.2.2.2.2.2.1.2.1
  have f8 : 0 ≤ V 39 2 ∧ V 39 2 ≤ 8 := hC.2.2.2.2.2.1.2.2.1
  have f9 : 0 ≤ V 0 1 ∧ V 0 1 ≤ 120 := hC.2.2.2.1
  have f11 : paI V 31 := hC.2.2.2.2.2.2.1
  have f12 : ∀ q : Nat, isIm q → paI V (33 + 2 * (q - 37)) := hC.2.2.2.2.2.2.2.1
  have f14 : ∀ k : Nat, k < 4 → 0 ≤ V 40 k ∧ V 40 k ≤ 20 := hC.2.2.2.2.2.1.2.2.2.1
  have hR2 : cR V M := hR
  have hI2 : mI M := hI
  refine lv_aload_n hx hb dL_law_213 rfl (lv_at hl 2 rfl) ?_
  refine lv_aload_n hx hb dL_law_214 rfl (lv_at hl 3 rfl) ?_
  refine lv_iload_n hx hb dL_law_215 rfl (lv_at hl 0 rfl) ?_
  refine lv_iconst (v := iZ 1) hx hb dL_law_216 (by decide) ?_
  refine z_iadd (x := ii) (y := 1) hx hb dL_law_217 ?_
  refine lq_ld hx hb hX hbl hbA hS (n + 1) (by omega) (by omega) e1 (by omega) dL_law_218 ?_
  refine lv_aload_n hx hb dL_law_219 rfl (lv_at hl 3 rfl) ?_
  refine lv_iload_n hx hb dL_law_220 rfl (lv_at hl 0 rfl) ?_
  refine lv_iconst (v := iZ 2) hx hb dL_law_221 (by decide) ?_
  refine z_iadd (x := ii) (y := 2) hx hb dL_law_222 ?_
  refine lq_ld hx hb hX hbl hbA hS (n + 2) (by omega) (by omega) e2 (by omega) dL_law_223 ?_
  refine lq_ci (As := [.int (iZ x1), .int (iZ x2)]) (rest := []) ⟨hx, hb, hml, hown, htsL⟩ hKc hP hNA hD hS (K_X7_one l D C a bb V x1 x2 (by assumption) (by assumption) (by assumption) ) (cwV 2 htsL gL_law_X7_one rfl rfl rfl (by decide +kernel) ⟨Nat.le_of_ble_eq_true rfl, Nat.le_of_ble_eq_true rfl⟩) rfl rfl hl.1 (Nat.le_of_ble_eq_true rfl) ⟨Nat.le_of_ble_eq_true rfl, Nat.le_of_ble_eq_true rfl⟩ dL_law_224 ?_
  refine lv_pop hx hb dL_law_227 rfl ?_
  refine lv_aload_n hx hb dL_law_228 rfl (lv_at hl 1 rfl) ?_
  refine lv_aload_n hx hb dL_law_229 rfl (lv_at hl 3 rfl) ?_
  refine lv_iload_n hx hb dL_law_230 rfl (lv_at hl 0 rfl) ?_
  refine lv_iconst (v := iZ 1) hx hb dL_law_231 (by decide) ?_
  refine z_iadd (x := ii) (y := 1) hx hb dL_law_232 ?_
  refine lq_ld hx hb hX hbl hbA hS (n + 1) (by omega) (by omega) e1 (by omega) dL_law_233 ?_
  refine lv_aload_n hx hb dL_law_234 rfl (lv_at hl 3 rfl) ?_
  refine lv_iload_n hx hb dL_law_235 rfl (lv_at hl 0 rfl) ?_
  refine lv_iconst (v := iZ 2) hx hb dL_law_236 (by decide) ?_
  refine z_iadd (x := ii) (y := 2) hx hb dL_law_237 ?_
  refine lq_ld hx hb hX hbl hbA hS (n + 2) (by omega) (by omega) e2 (by omega) dL_law_238 ?_
  refine lq_mi (As := [.int (iZ x1), .int (iZ x2)]) (rest := []) ⟨hx, hb, hml, hown, htsL⟩ hKm hPm (C_one l D C2 h2 a2 M x1 x2 (by assumption) (by assumption) (by assumption) ) (cwV 2 htsL gL_law_X8_one rfl rfl rfl (by decide +kernel) ⟨Nat.le_of_ble_eq_true rfl, Nat.le_of_ble_eq_true rfl⟩) rfl rfl hl.1 (Nat.le_of_ble_eq_true rfl) ⟨Nat.le_of_ble_eq_true rfl, Nat.le_of_ble_eq_true rfl⟩ dL_law_239 ?_
  refine lv_pop hx hb dL_law_242 rfl ?_
  refine lv_goto (tgt := 1022) hx hb dL_law_243 (by decide) ?_
  exact kk V M H locs hR2 hI2 hP hPm hS
set_option maxHeartbeats 4000000 in
set_option maxRecDepth 100000 in
theorem q_case_4 {p : Program} {e : Env} {s : State} {m : MethodId} {below : List Frame} {meth : Method} {c : Code} (l : Launch) {b L : Nat} {xs : Nat → Int32} (C0 : lw_At p s m meth c b L xs) (hL : L ≤ 384) {D : va_G} {C : cC} {C2 : mC} (hKc : va_K D vwCl (cT C) s) (hKm : va_K D vwCl (mT C2) s) {a a2 bb : Nat → Nat} {h2 : Nat} (hNA : cNA D C (fun q : Nat => s.heap.size ≤ q) bb s) (hD0 : va_D (fun q : Nat => s.heap.size ≤ q) (cW C a cV1)) (hDm0 : va_D (fun q : Nat => s.heap.size ≤ q) (mW C2 h2 a2 mM0)) (hAA : ∀ q, mA h2 a2 q → (fun q : Nat => s.heap.size ≤ q) q) (hdj : ∀ q, cA a q → ¬ mA h2 a2 q) {V M : Nat → Nat → Int} (hR : cR V M) (hI : mI M) {ii : Int} (hii : 0 ≤ ii ∧ ii + 6 ≤ (L : Int)) {H : Heap} {locs : List Loc} (hP : va_P D vwCl (cW C a V) H) (hPm : va_P D vwCl (mW C2 h2 a2 M) H) (hS : va_S (fun q : Nat => s.heap.size ≤ q) s.heap H locs) {ls : Array Slot} (hl : lv_has ls 4 [(3, .int (iZ ii)), (2, .ref h2), (1, .ref (a 0)), (0, .ref b)]) (kk : ∀ (V M : Nat → Nat → Int) (H : Heap) (locs : List Loc), cR V M → mI M → va_P D vwCl (cW C a V) H → va_P D vwCl (mW C2 h2 a2 M) H → va_S (fun q : Nat => s.heap.size ≤ q) s.heap H locs → W p l e room_1 s m #[Value.ref b] below meth c H locs 600000 7302250 (lw_Z below #[Value.ref b] s) (F0 m 1022 ls [])) : W p l e room_1 s m #[Value.ref b] below meth c H locs 600000 7302250 (lw_Z below #[Value.ref b] s) (F0 m 246 ls []) := by
  obtain ⟨hx, hb, hr, hml, hown, hts, hX, hbl, hlocks, hgv⟩ := id C0
  have hbA : ¬ (fun q : Nat => s.heap.size ≤ q) b := Nat.not_le.mpr hbl
  have htsL : ∀ w ∈ wsL_law, w.before #[Value.ref b] s = true := fun w h => hts w (wsL_law_in w h)
  have hD : va_D (fun q : Nat => s.heap.size ≤ q) (cW C a V) := cD_re hD0
  have hDm : va_D (fun q : Nat => s.heap.size ≤ q) (mW C2 h2 a2 M) := mD_re hDm0
  obtain ⟨n, hn⟩ := Int.eq_ofNat_of_zero_le hii.1
  obtain ⟨x1, hz1, e1⟩ := iZ_of (xs (n + 1))
  obtain ⟨x2, hz2, e2⟩ := iZ_of (xs (n + 2))
  have hC : cI V := hR.cIb hI
  have f1 : isTo (Int.toNat (V 0 3)) := hC.1
  have f2 : isTo (Int.toNat (V 0 4)) := hC.2.1
  have f5 : 0 ≤ V (Int.toNat (V 0 3)) 9 ∧ V (Int.toNat (V 0 3)) 9 ≤ 6 := hC.2.2.2.2.1.now.2.2
  have f6 : 0 ≤ V 39 0 ∧ V 39 0 ≤ 999 := hC.2.2.2.2.2.1.1
  have f7 : 0 ≤ V 39 1 ∧ V 39 1 ≤ 5 := hC.2.2.2.2.2.1.2.1
  have f8 : 0 ≤ V 39 2 ∧ V 39 2 ≤ 8 := hC.2.2.2.2.2.1.2.2.1
  have f9 : 0 ≤ V 0 1 ∧ V 0 1 ≤ 120 := hC.2.2.2.1
  have f11 : paI V 31 := hC.2.2.2.2.2.2.1
  have f12 : ∀ q : Nat, isIm q → paI V (33 + 2 * (q - 37)) := hC.2.2.2.2.2.2.2.1
  have f14 : ∀ k : Nat, k < 4 → 0 ≤ V 40 k ∧ V 40 k ≤ 20 := hC.2.2.2.2.2.1.2.2.2.1
  have hR2 : cR V M := hR
  have hI2 : mI M := hI
  refine lv_aload_n hx hb dL_law_246 rfl (lv_at hl 2 rfl) ?_
  refine lv_aload_n hx hb dL_law_247 rfl (lv_at hl 3 rfl) ?_
  refine lv_iload_n hx hb dL_law_248 rfl (lv_at hl 0 rfl) ?_
  refine lv_iconst (v := iZ 1) hx hb dL_law_249 (by decide) ?_
  refine z_iadd (x := ii) (y := 1) hx hb dL_law_250 ?_
  refine lq_ld hx hb hX hbl hbA hS (n + 1) (by omega) (by omega) e1 (by omega) dL_law_251 ?_
  refine lv_aload_n hx hb dL_law_252 rfl (lv_at hl 3 rfl) ?_
  refine lv_iload_n hx hb dL_law_253 rfl (lv_at hl 0 rfl) ?_
  refine lv_iconst (v := iZ 2) hx hb dL_law_254 (by decide) ?_
  refine z_iadd (x := ii) (y := 2) hx hb dL_law_255 ?_
  refine lq_ld hx hb hX hbl hbA hS (n + 2) (by omega) (by omega) e2 (by omega) dL_law_256 ?_
  refine lq_ci (As := [.int (iZ x1), .int (iZ x2)]) (rest := []) ⟨hx, hb, hml, hown, htsL⟩ hKc hP hNA hD hS (K_X7_saying l D C a bb V x1 x2 (by assumption) (by assumption) (by assumption) ) (cwV 2 htsL gL_law_X7_saying rfl rfl rfl (by decide +kernel) ⟨Nat.le_of_ble_eq_true rfl, Nat.le_of_ble_eq_true rfl⟩) rfl rfl hl.1 (Nat.le_of_ble_eq_true rfl) ⟨Nat.le_of_ble_eq_true rfl, Nat.le_of_ble_eq_true rfl⟩ dL_law_257 ?_
  refine lv_pop hx hb dL_law_260 rfl ?_
  refine lv_aload_n hx hb dL_law_261 rfl (lv_at hl 1 rfl) ?_
  refine lv_aload_n hx hb dL_law_262 rfl (lv_at hl 3 rfl) ?_
  refine lv_iload_n hx hb dL_law_263 rfl (lv_at hl 0 rfl) ?_
  refine lv_iconst (v := iZ 1) hx hb dL_law_264 (by decide) ?_
  refine z_iadd (x := ii) (y := 1) hx hb dL_law_265 ?_
  refine lq_ld hx hb hX hbl hbA hS (n + 1) (by omega) (by omega) e1 (by omega) dL_law_266 ?_
  refine lv_aload_n hx hb dL_law_267 rfl (lv_at hl 3 rfl) ?_
  refine lv_iload_n hx hb dL_law_268 rfl (lv_at hl 0 rfl) ?_
  refine lv_iconst (v := iZ 2) hx hb dL_law_269 (by decide) ?_
  refine z_iadd (x := ii) (y := 2) hx hb dL_law_270 ?_
  refine lq_ld hx hb hX hbl hbA hS (n + 2) (by omega) (by omega) e2 (by omega) dL_law_271 ?_
  refine lq_mi (As := [.int (iZ x1), .int (iZ x2)]) (rest := []) ⟨hx, hb, hml, hown, htsL⟩ hKm hPm (C_saying l D C2 h2 a2 M x1 x2 (by assumption) (by assumption) (by assumption) ) (cwV 2 htsL gL_law_X8_saying rfl rfl rfl (by decide +kernel) ⟨Nat.le_of_ble_eq_true rfl, Nat.le_of_ble_eq_true rfl⟩) rfl rfl hl.1 (Nat.le_of_ble_eq_true rfl) ⟨Nat.le_of_ble_eq_true rfl, Nat.le_of_ble_eq_true rfl⟩ dL_law_272 ?_
  refine lv_pop hx hb dL_law_275 rfl ?_
  refine lv_goto (tgt := 1022) hx hb dL_law_276 (by decide) ?_
  exact kk V M H locs hR2 hI2 hP hPm hS
set_option maxHeartbeats 4000000 in
set_option maxRecDepth 100000 in
theorem q_case_5 {p : Program} {e : Env} {s : State} {m : MethodId} {below : List Frame} {meth : Method} {c : Code} (l : Launch) {b L : Nat} {xs : Nat → Int32} (C0 : lw_At p s m meth c b L xs) (hL : L ≤ 384) {D : va_G} {C : cC} {C2 : mC} (hKc : va_K D vwCl (cT C) s) (hKm : va_K D vwCl (mT C2) s) {a a2 bb : Nat → Nat} {h2 : Nat} (hNA : cNA D C (fun q : Nat => s.heap.size ≤ q) bb s) (hD0 : va_D (fun q : Nat => s.heap.size ≤ q) (cW C a cV1)) (hDm0 : va_D (fun q : Nat => s.heap.size ≤ q) (mW C2 h2 a2 mM0)) (hAA : ∀ q, mA h2 a2 q → (fun q : Nat => s.heap.size ≤ q) q) (hdj : ∀ q, cA a q → ¬ mA h2 a2 q) {V M : Nat → Nat → Int} (hR : cR V M) (hI : mI M) {ii : Int} (hii : 0 ≤ ii ∧ ii + 6 ≤ (L : Int)) {H : Heap} {locs : List Loc} (hP : va_P D vwCl (cW C a V) H) (hPm : va_P D vwCl (mW C2 h2 a2 M) H) (hS : va_S (fun q : Nat => s.heap.size ≤ q) s.heap H locs) {ls : Array Slot} (hl : lv_has ls 4 [(3, .int (iZ ii)), (2, .ref h2), (1, .ref (a 0)), (0, .ref b)]) (kk : ∀ (V M : Nat → Nat → Int) (H : Heap) (locs : List Loc), cR V M → mI M → va_P D vwCl (cW C a V) H → va_P D vwCl (mW C2 h2 a2 M) H → va_S (fun q : Nat => s.heap.size ≤ q) s.heap H locs → W p l e room_1 s m #[Value.ref b] below meth c H locs 600000 7302250 (lw_Z below #[Value.ref b] s) (F0 m 1022 ls [])) : W p l e room_1 s m #[Value.ref b] below meth c H locs 600000 7302250 (lw_Z below #[Value.ref b] s) (F0 m 279 ls []) := by
  obtain ⟨hx, hb, hr, hml, hown, hts, hX, hbl, hlocks, hgv⟩ := id C0
  have hbA : ¬ (fun q : Nat => s.heap.size ≤ q) b := Nat.not_le.mpr hbl
  have htsL : ∀ w ∈ wsL_law, w.before #[Value.ref b] s = true := fun w h => hts w (wsL_law_in w h)
  have hD : va_D (fun q : Nat => s.heap.size ≤ q) (cW C a V) := cD_re hD0
  have hDm : va_D (fun q : Nat => s.heap.size ≤ q) (mW C2 h2 a2 M) := mD_re hDm0
  obtain ⟨n, hn⟩ := Int.eq_ofNat_of_zero_le hii.1
  obtain ⟨x1, hz1, e1⟩ := iZ_of (xs (n + 1))
  have hC : cI V := hR.cIb hI
  have f1 : isTo (Int.toNat (V 0 3)) := hC.1
  have f2 : isTo (Int.toNat (V 0 4)) := hC.2.1
  have f5 : 0 ≤ V (Int.toNat (V 0 3)) 9 ∧ V (Int.toNat (V 0 3)) 9 ≤ 6 := hC.2.2.2.2.1.now.2.2
  have f6 : 0 ≤ V 39 0 ∧ V 39 0 ≤ 999 := hC.2.2.2.2.2.1.1
  have f7 : 0 ≤ V 39 1 ∧ V 39 1 ≤ 5 := hC.2.2.2.2.2.1.2.1
  have f8 : 0 ≤ V 39 2 ∧ V 39 2 ≤ 8 := hC.2.2.2.2.2.1.2.2.1
  have f9 : 0 ≤ V 0 1 ∧ V 0 1 ≤ 120 := hC.2.2.2.1
  have f11 : paI V 31 := hC.2.2.2.2.2.2.1
  have f12 : ∀ q : Nat, isIm q → paI V (33 + 2 * (q - 37)) := hC.2.2.2.2.2.2.2.1
  have f14 : ∀ k : Nat, k < 4 → 0 ≤ V 40 k ∧ V 40 k ≤ 20 := hC.2.2.2.2.2.1.2.2.2.1
  have hR2 : cR V M := hR
  have hI2 : mI M := hI
  refine lv_aload_n hx hb dL_law_279 rfl (lv_at hl 2 rfl) ?_
  refine lv_aload_n hx hb dL_law_280 rfl (lv_at hl 3 rfl) ?_
  refine lv_iload_n hx hb dL_law_281 rfl (lv_at hl 0 rfl) ?_
  refine lv_iconst (v := iZ 1) hx hb dL_law_282 (by decide) ?_
  refine z_iadd (x := ii) (y := 1) hx hb dL_law_283 ?_
  refine lq_ld hx hb hX hbl hbA hS (n + 1) (by omega) (by omega) e1 (by omega) dL_law_284 ?_
  refine lq_ci (As := [.int (iZ x1)]) (rest := []) ⟨hx, hb, hml, hown, htsL⟩ hKc hP hNA hD hS (K_X7_wind l D C a bb V x1 (by assumption) (by assumption) (by assumption) (by assumption) ) (cwV 1 htsL gL_law_X7_wind rfl rfl rfl (by decide +kernel) ⟨Nat.le_of_ble_eq_true rfl, Nat.le_of_ble_eq_true rfl⟩) rfl rfl hl.1 (Nat.le_of_ble_eq_true rfl) ⟨Nat.le_of_ble_eq_true rfl, Nat.le_of_ble_eq_true rfl⟩ dL_law_285 ?_
  refine lv_pop hx hb dL_law_288 rfl ?_
  refine lv_aload_n hx hb dL_law_289 rfl (lv_at hl 1 rfl) ?_
  refine lv_aload_n hx hb dL_law_290 rfl (lv_at hl 3 rfl) ?_
  refine lv_iload_n hx hb dL_law_291 rfl (lv_at hl 0 rfl) ?_
  refine lv_iconst (v := iZ 1) hx hb dL_law_292 (by decide) ?_
  refine z_iadd (x := ii) (y := 1) hx hb dL_law_293 ?_
  refine lq_ld hx hb hX hbl hbA hS (n + 1) (by omega) (by omega) e1 (by omega) dL_law_294 ?_
  refine lq_mi (As := [.int (iZ x1)]) (rest := []) ⟨hx, hb, hml, hown, htsL⟩ hKm hPm (C_wind l D C2 h2 a2 M x1 (by assumption) (by assumption) ) (cwV 1 htsL gL_law_X8_wind rfl rfl rfl (by decide +kernel) ⟨Nat.le_of_ble_eq_true rfl, Nat.le_of_ble_eq_true rfl⟩) rfl rfl hl.1 (Nat.le_of_ble_eq_true rfl) ⟨Nat.le_of_ble_eq_true rfl, Nat.le_of_ble_eq_true rfl⟩ dL_law_295 ?_
  refine lv_pop hx hb dL_law_298 rfl ?_
  refine lv_goto (tgt := 1022) hx hb dL_law_299 (by decide) ?_
  exact kk V M H locs hR2 hI2 hP hPm hS
set_option maxHeartbeats 4000000 in
set_option maxRecDepth 100000 in
theorem q_case_6 {p : Program} {e : Env} {s : State} {m : MethodId} {below : List Frame} {meth : Method} {c : Code} (l : Launch) {b L : Nat} {xs : Nat → Int32} (C0 : lw_At p s m meth c b L xs) (hL : L ≤ 384) {D : va_G} {C : cC} {C2 : mC} (hKc : va_K D vwCl (cT C) s) (hKm : va_K D vwCl (mT C2) s) {a a2 bb : Nat → Nat} {h2 : Nat} (hNA : cNA D C (fun q : Nat => s.heap.size ≤ q) bb s) (hD0 : va_D (fun q : Nat => s.heap.size ≤ q) (cW C a cV1)) (hDm0 : va_D (fun q : Nat => s.heap.size ≤ q) (mW C2 h2 a2 mM0)) (hAA : ∀ q, mA h2 a2 q → (fun q : Nat => s.heap.size ≤ q) q) (hdj : ∀ q, cA a q → ¬ mA h2 a2 q) {V M : Nat → Nat → Int} (hR : cR V M) (hI : mI M) {ii : Int} (hii : 0 ≤ ii ∧ ii + 6 ≤ (L : Int)) {H : Heap} {locs : List Loc} (hP : va_P D vwCl (cW C a V) H) (hPm : va_P D vwCl (mW C2 h2 a2 M) H) (hS : va_S (fun q : Nat => s.heap.size ≤ q) s.heap H locs) {ls : Array Slot} (hl : lv_has ls 4 [(3, .int (iZ ii)), (2, .ref h2), (1, .ref (a 0)), (0, .ref b)]) (kk : ∀ (V M : Nat → Nat → Int) (H : Heap) (locs : List Loc), cR V M → mI M → va_P D vwCl (cW C a V) H → va_P D vwCl (mW C2 h2 a2 M) H → va_S (fun q : Nat => s.heap.size ≤ q) s.heap H locs → W p l e room_1 s m #[Value.ref b] below meth c H locs 600000 7302250 (lw_Z below #[Value.ref b] s) (F0 m 1022 ls [])) : W p l e room_1 s m #[Value.ref b] below meth c H locs 600000 7302250 (lw_Z below #[Value.ref b] s) (F0 m 302 ls []) := by
  obtain ⟨hx, hb, hr, hml, hown, hts, hX, hbl, hlocks, hgv⟩ := id C0
  have hbA : ¬ (fun q : Nat => s.heap.size ≤ q) b := Nat.not_le.mpr hbl
  have htsL : ∀ w ∈ wsL_law, w.before #[Value.ref b] s = true := fun w h => hts w (wsL_law_in w h)
  have hD : va_D (fun q : Nat => s.heap.size ≤ q) (cW C a V) := cD_re hD0
  have hDm : va_D (fun q : Nat => s.heap.size ≤ q) (mW C2 h2 a2 M) := mD_re hDm0
  obtain ⟨n, hn⟩ := Int.eq_ofNat_of_zero_le hii.1
  obtain ⟨x1, hz1, e1⟩ := iZ_of (xs (n + 1))
  obtain ⟨x2, hz2, e2⟩ := iZ_of (xs (n + 2))
  have hC : cI V := hR.cIb hI
  have f1 : isTo (Int.toNat (V 0 3)) := hC.1
  have f2 : isTo (Int.toNat (V 0 4)) := hC.2.1
  have f5 : 0 ≤ V (Int.toNat (V 0 3)) 9 ∧ V (Int.toNat (V 0 3)) 9 ≤ 6 := hC.2.2.2.2.1.now.2.2
  have f6 : 0 ≤ V 39 0 ∧ V 39 0 ≤ 999 := hC.2.2.2.2.2.1.1
  have f7 : 0 ≤ V 39 1 ∧ V 39 1 ≤ 5 := hC.2.2.2.2.2.1.2.1
  have f8 : 0 ≤ V 39 2 ∧ V 39 2 ≤ 8 := hC.2.2.2.2.2.1.2.2.1
  have f9 : 0 ≤ V 0 1 ∧ V 0 1 ≤ 120 := hC.2.2.2.1
  have f11 : paI V 31 := hC.2.2.2.2.2.2.1
  have f12 : ∀ q : Nat, isIm q → paI V (33 + 2 * (q - 37)) := hC.2.2.2.2.2.2.2.1
  have f14 : ∀ k : Nat, k < 4 → 0 ≤ V 40 k ∧ V 40 k ≤ 20 := hC.2.2.2.2.2.1.2.2.2.1
  have hR2 : cR V M := hR
  have hI2 : mI M := hI
  refine lv_aload_n hx hb dL_law_302 rfl (lv_at hl 2 rfl) ?_
  refine lv_aload_n hx hb dL_law_303 rfl (lv_at hl 3 rfl) ?_
  refine lv_iload_n hx hb dL_law_304 rfl (lv_at hl 0 rfl) ?_
  refine lv_iconst (v := iZ 1) hx hb dL_law_305 (by decide) ?_
  refine z_iadd (x := ii) (y := 1) hx hb dL_law_306 ?_
  refine lq_ld hx hb hX hbl hbA hS (n + 1) (by omega) (by omega) e1 (by omega) dL_law_307 ?_
  refine lv_aload_n hx hb dL_law_308 rfl (lv_at hl 3 rfl) ?_
  refine lv_iload_n hx hb dL_law_309 rfl (lv_at hl 0 rfl) ?_
  refine lv_iconst (v := iZ 2) hx hb dL_law_310 (by decide) ?_
  refine z_iadd (x := ii) (y := 2) hx hb dL_law_311 ?_
  refine lq_ld hx hb hX hbl hbA hS (n + 2) (by omega) (by omega) e2 (by omega) dL_law_312 ?_
  refine lq_ci (As := [.int (iZ x1), .int (iZ x2)]) (rest := []) ⟨hx, hb, hml, hown, htsL⟩ hKc hP hNA hD hS (K_X7_stray l D C a bb V x1 x2 (by assumption) (by assumption) (by assumption) ) (cwV 2 htsL gL_law_X7_stray rfl rfl rfl (by decide +kernel) ⟨Nat.le_of_ble_eq_true rfl, Nat.le_of_ble_eq_true rfl⟩) rfl rfl hl.1 (Nat.le_of_ble_eq_true rfl) ⟨Nat.le_of_ble_eq_true rfl, Nat.le_of_ble_eq_true rfl⟩ dL_law_313 ?_
  refine lv_pop hx hb dL_law_316 rfl ?_
  refine lv_aload_n hx hb dL_law_317 rfl (lv_at hl 1 rfl) ?_
  refine lv_aload_n hx hb dL_law_318 rfl (lv_at hl 3 rfl) ?_
  refine lv_iload_n hx hb dL_law_319 rfl (lv_at hl 0 rfl) ?_
  refine lv_iconst (v := iZ 1) hx hb dL_law_320 (by decide) ?_
  refine z_iadd (x := ii) (y := 1) hx hb dL_law_321 ?_
  refine lq_ld hx hb hX hbl hbA hS (n + 1) (by omega) (by omega) e1 (by omega) dL_law_322 ?_
  refine lv_aload_n hx hb dL_law_323 rfl (lv_at hl 3 rfl) ?_
  refine lv_iload_n hx hb dL_law_324 rfl (lv_at hl 0 rfl) ?_
  refine lv_iconst (v := iZ 2) hx hb dL_law_325 (by decide) ?_
  refine z_iadd (x := ii) (y := 2) hx hb dL_law_326 ?_
  refine lq_ld hx hb hX hbl hbA hS (n + 2) (by omega) (by omega) e2 (by omega) dL_law_327 ?_
  refine lq_mi (As := [.int (iZ x1), .int (iZ x2)]) (rest := []) ⟨hx, hb, hml, hown, htsL⟩ hKm hPm (C_stray l D C2 h2 a2 M x1 x2 (by assumption) (by assumption) (by assumption) ) (cwV 2 htsL gL_law_X8_stray rfl rfl rfl (by decide +kernel) ⟨Nat.le_of_ble_eq_true rfl, Nat.le_of_ble_eq_true rfl⟩) rfl rfl hl.1 (Nat.le_of_ble_eq_true rfl) ⟨Nat.le_of_ble_eq_true rfl, Nat.le_of_ble_eq_true rfl⟩ dL_law_328 ?_
  refine lv_pop hx hb dL_law_331 rfl ?_
  refine lv_goto (tgt := 1022) hx hb dL_law_332 (by decide) ?_
  exact kk V M H locs hR2 hI2 hP hPm hS
set_option maxHeartbeats 4000000 in
set_option maxRecDepth 100000 in
theorem q_case_7 {p : Program} {e : Env} {s : State} {m : MethodId} {below : List Frame} {meth : Method} {c : Code} (l : Launch) {b L : Nat} {xs : Nat → Int32} (C0 : lw_At p s m meth c b L xs) (hL : L ≤ 384) {D : va_G} {C : cC} {C2 : mC} (hKc : va_K D vwCl (cT C) s) (hKm : va_K D vwCl (mT C2) s) {a a2 bb : Nat → Nat} {h2 : Nat} (hNA : cNA D C (fun q : Nat => s.heap.size ≤ q) bb s) (hD0 : va_D (fun q : Nat => s.heap.size ≤ q) (cW C a cV1)) (hDm0 : va_D (fun q : Nat => s.heap.size ≤ q) (mW C2 h2 a2 mM0)) (hAA : ∀ q, mA h2 a2 q → (fun q : Nat => s.heap.size ≤ q) q) (hdj : ∀ q, cA a q → ¬ mA h2 a2 q) {V M : Nat → Nat → Int} (hR : cR V M) (hI : mI M) {ii : Int} (hii : 0 ≤ ii ∧ ii + 6 ≤ (L : Int)) {H : Heap} {locs : List Loc} (hP : va_P D vwCl (cW C a V) H) (hPm : va_P D vwCl (mW C2 h2 a2 M) H) (hS : va_S (fun q : Nat => s.heap.size ≤ q) s.heap H locs) {ls : Array Slot} (hl : lv_has ls 4 [(3, .int (iZ ii)), (2, .ref h2), (1, .ref (a 0)), (0, .ref b)]) (kk : ∀ (V M : Nat → Nat → Int) (H : Heap) (locs : List Loc), cR V M → mI M → va_P D vwCl (cW C a V) H → va_P D vwCl (mW C2 h2 a2 M) H → va_S (fun q : Nat => s.heap.size ≤ q) s.heap H locs → W p l e room_1 s m #[Value.ref b] below meth c H locs 600000 7302250 (lw_Z below #[Value.ref b] s) (F0 m 1022 ls [])) : W p l e room_1 s m #[Value.ref b] below meth c H locs 600000 7302250 (lw_Z below #[Value.ref b] s) (F0 m 335 ls []) := by
  obtain ⟨hx, hb, hr, hml, hown, hts, hX, hbl, hlocks, hgv⟩ := id C0
  have hbA : ¬ (fun q : Nat => s.heap.size ≤ q) b := Nat.not_le.mpr hbl
  have htsL : ∀ w ∈ wsL_law, w.before #[Value.ref b] s = true := fun w h => hts w (wsL_law_in w h)
  have hD : va_D (fun q : Nat => s.heap.size ≤ q) (cW C a V) := cD_re hD0
  have hDm : va_D (fun q : Nat => s.heap.size ≤ q) (mW C2 h2 a2 M) := mD_re hDm0
  obtain ⟨n, hn⟩ := Int.eq_ofNat_of_zero_le hii.1
  obtain ⟨x1, hz1, e1⟩ := iZ_of (xs (n + 1))
  obtain ⟨x2, hz2, e2⟩ := iZ_of (xs (n + 2))
  obtain ⟨x3, hz3, e3⟩ := iZ_of (xs (n + 3))
  obtain ⟨x4, hz4, e4⟩ := iZ_of (xs (n + 4))
  obtain ⟨x5, hz5, e5⟩ := iZ_of (xs (n + 5))
  have hC : cI V := hR.cIb hI
  have f1 : isTo (Int.toNat (V 0 3)) := hC.1
  have f2 : isTo (Int.toNat (V 0 4)) := hC.2.1
  have f5 : 0 ≤ V (Int.toNat (V 0 3)) 9 ∧ V (Int.toNat (V 0 3)) 9 ≤ 6 := hC.2.2.2.2.1.now.2.2
  have f6 : 0 ≤ V 39 0 ∧ V 39 0 ≤ 999 := hC.2.2.2.2.2.1.1
  have f7 : 0 ≤ V 39 1 ∧ V 39 1 ≤ 5 := hC.2.2.2.2.2.1.2.1
  have f8 : 0 ≤ V 39 2 ∧ V 39 2 ≤ 8 := hC.2.2.2.2.2.1.2.2.1
  have f9 : 0 ≤ V 0 1 ∧ V 0 1 ≤ 120 := hC.2.2.2.1
  have f11 : paI V 31 := hC.2.2.2.2.2.2.1
  have f12 : ∀ q : Nat, isIm q → paI V (33 + 2 * (q - 37)) := hC.2.2.2.2.2.2.2.1
  have f14 : ∀ k : Nat, k < 4 → 0 ≤ V 40 k ∧ V 40 k ≤ 20 := hC.2.2.2.2.2.1.2.2.2.1
  obtain ⟨heq, hR2⟩ := R_lets hI hR x1 x2 x3 x4 x5
  have hI2 := mI_lets hI x1 x2 x3 x4 x5
  refine lv_aload_n hx hb dL_law_335 rfl (lv_at hl 2 rfl) ?_
  refine lv_aload_n hx hb dL_law_336 rfl (lv_at hl 3 rfl) ?_
  refine lv_iload_n hx hb dL_law_337 rfl (lv_at hl 0 rfl) ?_
  refine lv_iconst (v := iZ 1) hx hb dL_law_338 (by decide) ?_
  refine z_iadd (x := ii) (y := 1) hx hb dL_law_339 ?_
  refine lq_ld hx hb hX hbl hbA hS (n + 1) (by omega) (by omega) e1 (by omega) dL_law_340 ?_
  refine lv_aload_n hx hb dL_law_341 rfl (lv_at hl 3 rfl) ?_
  refine lv_iload_n hx hb dL_law_342 rfl (lv_at hl 0 rfl) ?_
  refine lv_iconst (v := iZ 2) hx hb dL_law_343 (by decide) ?_
  refine z_iadd (x := ii) (y := 2) hx hb dL_law_344 ?_
  refine lq_ld hx hb hX hbl hbA hS (n + 2) (by omega) (by omega) e2 (by omega) dL_law_345 ?_
  refine lv_aload_n hx hb dL_law_346 rfl (lv_at hl 3 rfl) ?_
  refine lv_iload_n hx hb dL_law_347 rfl (lv_at hl 0 rfl) ?_
  refine lv_iconst (v := iZ 3) hx hb dL_law_348 (by decide) ?_
  refine z_iadd (x := ii) (y := 3) hx hb dL_law_349 ?_
  refine lq_ld hx hb hX hbl hbA hS (n + 3) (by omega) (by omega) e3 (by omega) dL_law_350 ?_
  refine lv_aload_n hx hb dL_law_351 rfl (lv_at hl 3 rfl) ?_
  refine lv_iload_n hx hb dL_law_352 rfl (lv_at hl 0 rfl) ?_
  refine lv_iconst (v := iZ 4) hx hb dL_law_353 (by decide) ?_
  refine z_iadd (x := ii) (y := 4) hx hb dL_law_354 ?_
  refine lq_ld hx hb hX hbl hbA hS (n + 4) (by omega) (by omega) e4 (by omega) dL_law_355 ?_
  refine lv_aload_n hx hb dL_law_356 rfl (lv_at hl 3 rfl) ?_
  refine lv_iload_n hx hb dL_law_357 rfl (lv_at hl 0 rfl) ?_
  refine lv_iconst (v := iZ 5) hx hb dL_law_358 (by decide) ?_
  refine z_iadd (x := ii) (y := 5) hx hb dL_law_359 ?_
  refine lq_ld hx hb hX hbl hbA hS (n + 5) (by omega) (by omega) e5 (by omega) dL_law_360 ?_
  refine lq_cm (As := [.int (iZ x1), .int (iZ x2), .int (iZ x3), .int (iZ x4), .int (iZ x5)]) (rest := []) ⟨hx, hb, hml, hown, htsL⟩ hKc hP hNA hD hS (K_X7_lets l D C a bb V x1 x2 x3 x4 x5 (by assumption) (by assumption) (by assumption) (by assumption) (by assumption) (by assumption) (hD.weaken (fun _ _ _ _ => trivial))) (cwV 5 htsL gL_law_X7_lets rfl rfl rfl (by decide +kernel) ⟨Nat.le_of_ble_eq_true rfl, Nat.le_of_ble_eq_true rfl⟩) rfl rfl hl.1 (Nat.le_of_ble_eq_true rfl) ⟨Nat.le_of_ble_eq_true rfl, Nat.le_of_ble_eq_true rfl⟩ dL_law_361 (fun H locs hP9 hD9 hS9 hk9 => ?_)
  replace hPm : va_P D vwCl (mW C2 h2 a2 M) H := hPm.kept (fun k q hq => hk9 q.1 (hPm k q hq).lt (fun z => hdj _ z (mA_mem k q hq)))
  replace hP := hP9
  replace hD := hD9
  replace hS := hS9
  clear hk9
  refine lv_pop hx hb dL_law_364 rfl ?_
  refine lv_aload_n hx hb dL_law_365 rfl (lv_at hl 1 rfl) ?_
  refine lv_aload_n hx hb dL_law_366 rfl (lv_at hl 3 rfl) ?_
  refine lv_iload_n hx hb dL_law_367 rfl (lv_at hl 0 rfl) ?_
  refine lv_iconst (v := iZ 1) hx hb dL_law_368 (by decide) ?_
  refine z_iadd (x := ii) (y := 1) hx hb dL_law_369 ?_
  refine lq_ld hx hb hX hbl hbA hS (n + 1) (by omega) (by omega) e1 (by omega) dL_law_370 ?_
  refine lv_aload_n hx hb dL_law_371 rfl (lv_at hl 3 rfl) ?_
  refine lv_iload_n hx hb dL_law_372 rfl (lv_at hl 0 rfl) ?_
  refine lv_iconst (v := iZ 2) hx hb dL_law_373 (by decide) ?_
  refine z_iadd (x := ii) (y := 2) hx hb dL_law_374 ?_
  refine lq_ld hx hb hX hbl hbA hS (n + 2) (by omega) (by omega) e2 (by omega) dL_law_375 ?_
  refine lv_aload_n hx hb dL_law_376 rfl (lv_at hl 3 rfl) ?_
  refine lv_iload_n hx hb dL_law_377 rfl (lv_at hl 0 rfl) ?_
  refine lv_iconst (v := iZ 3) hx hb dL_law_378 (by decide) ?_
  refine z_iadd (x := ii) (y := 3) hx hb dL_law_379 ?_
  refine lq_ld hx hb hX hbl hbA hS (n + 3) (by omega) (by omega) e3 (by omega) dL_law_380 ?_
  refine lv_aload_n hx hb dL_law_381 rfl (lv_at hl 3 rfl) ?_
  refine lv_iload_n hx hb dL_law_382 rfl (lv_at hl 0 rfl) ?_
  refine lv_iconst (v := iZ 4) hx hb dL_law_383 (by decide) ?_
  refine z_iadd (x := ii) (y := 4) hx hb dL_law_384 ?_
  refine lq_ld hx hb hX hbl hbA hS (n + 4) (by omega) (by omega) e4 (by omega) dL_law_385 ?_
  refine lv_aload_n hx hb dL_law_386 rfl (lv_at hl 3 rfl) ?_
  refine lv_iload_n hx hb dL_law_387 rfl (lv_at hl 0 rfl) ?_
  refine lv_iconst (v := iZ 5) hx hb dL_law_388 (by decide) ?_
  refine z_iadd (x := ii) (y := 5) hx hb dL_law_389 ?_
  refine lq_ld hx hb hX hbl hbA hS (n + 5) (by omega) (by omega) e5 (by omega) dL_law_390 ?_
  refine lq_mm (As := [.int (iZ x1), .int (iZ x2), .int (iZ x3), .int (iZ x4), .int (iZ x5)]) (rest := []) ⟨hx, hb, hml, hown, htsL⟩ hKm hPm hDm hS hAA (C_lets l D C2 h2 a2 M x1 x2 x3 x4 x5 (by assumption) (by assumption) (by assumption) (by assumption) (by assumption) (by assumption) (hDm.weaken (fun _ _ _ _ => trivial))) (cwV 5 htsL gL_law_X8_lets rfl rfl rfl (by decide +kernel) ⟨Nat.le_of_ble_eq_true rfl, Nat.le_of_ble_eq_true rfl⟩) rfl rfl hl.1 (Nat.le_of_ble_eq_true rfl) ⟨Nat.le_of_ble_eq_true rfl, Nat.le_of_ble_eq_true rfl⟩ dL_law_391 (fun H locs hP9 hD9 hS9 hk9 => ?_)
  replace hP : va_P D vwCl (cW C a (c_letS V x1 x2 x3 x4 x5)) H := hP.kept (fun k q hq => hk9 q.1 (hP k q hq).lt (fun z => hdj _ (cA_mem k q hq) z))
  replace hPm := hP9
  replace hS := hS9
  clear hk9
  refine lv_pop hx hb dL_law_394 rfl ?_
  refine lv_goto (tgt := 1022) hx hb dL_law_395 (by decide) ?_
  exact kk (c_letS V x1 x2 x3 x4 x5) (f_lets M x1 x2 x3 x4 x5) H locs hR2 hI2 hP hPm hS
set_option maxHeartbeats 4000000 in
set_option maxRecDepth 100000 in
theorem q_case_8 {p : Program} {e : Env} {s : State} {m : MethodId} {below : List Frame} {meth : Method} {c : Code} (l : Launch) {b L : Nat} {xs : Nat → Int32} (C0 : lw_At p s m meth c b L xs) (hL : L ≤ 384) {D : va_G} {C : cC} {C2 : mC} (hKc : va_K D vwCl (cT C) s) (hKm : va_K D vwCl (mT C2) s) {a a2 bb : Nat → Nat} {h2 : Nat} (hNA : cNA D C (fun q : Nat => s.heap.size ≤ q) bb s) (hD0 : va_D (fun q : Nat => s.heap.size ≤ q) (cW C a cV1)) (hDm0 : va_D (fun q : Nat => s.heap.size ≤ q) (mW C2 h2 a2 mM0)) (hAA : ∀ q, mA h2 a2 q → (fun q : Nat => s.heap.size ≤ q) q) (hdj : ∀ q, cA a q → ¬ mA h2 a2 q) {V M : Nat → Nat → Int} (hR : cR V M) (hI : mI M) {ii : Int} (hii : 0 ≤ ii ∧ ii + 6 ≤ (L : Int)) {H : Heap} {locs : List Loc} (hP : va_P D vwCl (cW C a V) H) (hPm : va_P D vwCl (mW C2 h2 a2 M) H) (hS : va_S (fun q : Nat => s.heap.size ≤ q) s.heap H locs) {ls : Array Slot} (hl : lv_has ls 4 [(3, .int (iZ ii)), (2, .ref h2), (1, .ref (a 0)), (0, .ref b)]) (kk : ∀ (V M : Nat → Nat → Int) (H : Heap) (locs : List Loc), cR V M → mI M → va_P D vwCl (cW C a V) H → va_P D vwCl (mW C2 h2 a2 M) H → va_S (fun q : Nat => s.heap.size ≤ q) s.heap H locs → W p l e room_1 s m #[Value.ref b] below meth c H locs 600000 7302250 (lw_Z below #[Value.ref b] s) (F0 m 1022 ls [])) : W p l e room_1 s m #[Value.ref b] below meth c H locs 600000 7302250 (lw_Z below #[Value.ref b] s) (F0 m 398 ls []) := by
  obtain ⟨hx, hb, hr, hml, hown, hts, hX, hbl, hlocks, hgv⟩ := id C0
  have hbA : ¬ (fun q : Nat => s.heap.size ≤ q) b := Nat.not_le.mpr hbl
  have htsL : ∀ w ∈ wsL_law, w.before #[Value.ref b] s = true := fun w h => hts w (wsL_law_in w h)
  have hD : va_D (fun q : Nat => s.heap.size ≤ q) (cW C a V) := cD_re hD0
  have hDm : va_D (fun q : Nat => s.heap.size ≤ q) (mW C2 h2 a2 M) := mD_re hDm0
  obtain ⟨n, hn⟩ := Int.eq_ofNat_of_zero_le hii.1
  obtain ⟨x1, hz1, e1⟩ := iZ_of (xs (n + 1))
  have hC : cI V := hR.cIb hI
  have f1 : isTo (Int.toNat (V 0 3)) := hC.1
  have f2 : isTo (Int.toNat (V 0 4)) := hC.2.1
  have f5 : 0 ≤ V (Int.toNat (V 0 3)) 9 ∧ V (Int.toNat (V 0 3)) 9 ≤ 6 := hC.2.2.2.2.1.now.2.2
  have f6 : 0 ≤ V 39 0 ∧ V 39 0 ≤ 999 := hC.2.2.2.2.2.1.1
  have f7 : 0 ≤ V 39 1 ∧ V 39 1 ≤ 5 := hC.2.2.2.2.2.1.2.1
  have f8 : 0 ≤ V 39 2 ∧ V 39 2 ≤ 8 := hC.2.2.2.2.2.1.2.2.1
  have f9 : 0 ≤ V 0 1 ∧ V 0 1 ≤ 120 := hC.2.2.2.1
  have f11 : paI V 31 := hC.2.2.2.2.2.2.1
  have f12 : ∀ q : Nat, isIm q → paI V (33 + 2 * (q - 37)) := hC.2.2.2.2.2.2.2.1
  have f14 : ∀ k : Nat, k < 4 → 0 ≤ V 40 k ∧ V 40 k ≤ 20 := hC.2.2.2.2.2.1.2.2.2.1
  obtain ⟨heq, hR2⟩ := R_picks hI hR x1
  have hI2 := mI_picks hI x1
  refine lv_aload_n hx hb dL_law_398 rfl (lv_at hl 2 rfl) ?_
  refine lv_aload_n hx hb dL_law_399 rfl (lv_at hl 3 rfl) ?_
  refine lv_iload_n hx hb dL_law_400 rfl (lv_at hl 0 rfl) ?_
  refine lv_iconst (v := iZ 1) hx hb dL_law_401 (by decide) ?_
  refine z_iadd (x := ii) (y := 1) hx hb dL_law_402 ?_
  refine lq_ld hx hb hX hbl hbA hS (n + 1) (by omega) (by omega) e1 (by omega) dL_law_403 ?_
  refine lq_cm (As := [.int (iZ x1)]) (rest := []) ⟨hx, hb, hml, hown, htsL⟩ hKc hP hNA hD hS (K_X7_picks l D C a bb V x1 (by assumption) (by assumption) (hD.weaken (fun _ _ _ _ => trivial))) (cwV 1 htsL gL_law_X7_picks rfl rfl rfl (by decide +kernel) ⟨Nat.le_of_ble_eq_true rfl, Nat.le_of_ble_eq_true rfl⟩) rfl rfl hl.1 (Nat.le_of_ble_eq_true rfl) ⟨Nat.le_of_ble_eq_true rfl, Nat.le_of_ble_eq_true rfl⟩ dL_law_404 (fun H locs hP9 hD9 hS9 hk9 => ?_)
  replace hPm : va_P D vwCl (mW C2 h2 a2 M) H := hPm.kept (fun k q hq => hk9 q.1 (hPm k q hq).lt (fun z => hdj _ z (mA_mem k q hq)))
  replace hP := hP9
  replace hD := hD9
  replace hS := hS9
  clear hk9
  refine lv_pop hx hb dL_law_407 rfl ?_
  refine lv_aload_n hx hb dL_law_408 rfl (lv_at hl 1 rfl) ?_
  refine lv_aload_n hx hb dL_law_409 rfl (lv_at hl 3 rfl) ?_
  refine lv_iload_n hx hb dL_law_410 rfl (lv_at hl 0 rfl) ?_
  refine lv_iconst (v := iZ 1) hx hb dL_law_411 (by decide) ?_
  refine z_iadd (x := ii) (y := 1) hx hb dL_law_412 ?_
  refine lq_ld hx hb hX hbl hbA hS (n + 1) (by omega) (by omega) e1 (by omega) dL_law_413 ?_
  refine lq_mm (As := [.int (iZ x1)]) (rest := []) ⟨hx, hb, hml, hown, htsL⟩ hKm hPm hDm hS hAA (C_picks l D C2 h2 a2 M x1 (by assumption) (by assumption) (hDm.weaken (fun _ _ _ _ => trivial))) (cwV 1 htsL gL_law_X8_picks rfl rfl rfl (by decide +kernel) ⟨Nat.le_of_ble_eq_true rfl, Nat.le_of_ble_eq_true rfl⟩) rfl rfl hl.1 (Nat.le_of_ble_eq_true rfl) ⟨Nat.le_of_ble_eq_true rfl, Nat.le_of_ble_eq_true rfl⟩ dL_law_414 (fun H locs hP9 hD9 hS9 hk9 => ?_)
  replace hP : va_P D vwCl (cW C a (c_pkS V x1)) H := hP.kept (fun k q hq => hk9 q.1 (hP k q hq).lt (fun z => hdj _ (cA_mem k q hq) z))
  replace hPm := hP9
  replace hS := hS9
  clear hk9
  refine lv_pop hx hb dL_law_417 rfl ?_
  refine lv_goto (tgt := 1022) hx hb dL_law_418 (by decide) ?_
  exact kk (c_pkS V x1) (f_picks M x1) H locs hR2 hI2 hP hPm hS
set_option maxHeartbeats 4000000 in
set_option maxRecDepth 100000 in
theorem q_case_9 {p : Program} {e : Env} {s : State} {m : MethodId} {below : List Frame} {meth : Method} {c : Code} (l : Launch) {b L : Nat} {xs : Nat → Int32} (C0 : lw_At p s m meth c b L xs) (hL : L ≤ 384) {D : va_G} {C : cC} {C2 : mC} (hKc : va_K D vwCl (cT C) s) (hKm : va_K D vwCl (mT C2) s) {a a2 bb : Nat → Nat} {h2 : Nat} (hNA : cNA D C (fun q : Nat => s.heap.size ≤ q) bb s) (hD0 : va_D (fun q : Nat => s.heap.size ≤ q) (cW C a cV1)) (hDm0 : va_D (fun q : Nat => s.heap.size ≤ q) (mW C2 h2 a2 mM0)) (hAA : ∀ q, mA h2 a2 q → (fun q : Nat => s.heap.size ≤ q) q) (hdj : ∀ q, cA a q → ¬ mA h2 a2 q) {V M : Nat → Nat → Int} (hR : cR V M) (hI : mI M) {ii : Int} (hii : 0 ≤ ii ∧ ii + 6 ≤ (L : Int)) {H : Heap} {locs : List Loc} (hP : va_P D vwCl (cW C a V) H) (hPm : va_P D vwCl (mW C2 h2 a2 M) H) (hS : va_S (fun q : Nat => s.heap.size ≤ q) s.heap H locs) {ls : Array Slot} (hl : lv_has ls 4 [(3, .int (iZ ii)), (2, .ref h2), (1, .ref (a 0)), (0, .ref b)]) (kk : ∀ (V M : Nat → Nat → Int) (H : Heap) (locs : List Loc), cR V M → mI M → va_P D vwCl (cW C a V) H → va_P D vwCl (mW C2 h2 a2 M) H → va_S (fun q : Nat => s.heap.size ≤ q) s.heap H locs → W p l e room_1 s m #[Value.ref b] below meth c H locs 600000 7302250 (lw_Z below #[Value.ref b] s) (F0 m 1022 ls [])) : W p l e room_1 s m #[Value.ref b] below meth c H locs 600000 7302250 (lw_Z below #[Value.ref b] s) (F0 m 421 ls []) := by
  obtain ⟨hx, hb, hr, hml, hown, hts, hX, hbl, hlocks, hgv⟩ := id C0
  have hbA : ¬ (fun q : Nat => s.heap.size ≤ q) b := Nat.not_le.mpr hbl
  have htsL : ∀ w ∈ wsL_law, w.before #[Value.ref b] s = true := fun w h => hts w (wsL_law_in w h)
  have hD : va_D (fun q : Nat => s.heap.size ≤ q) (cW C a V) := cD_re hD0
  have hDm : va_D (fun q : Nat => s.heap.size ≤ q) (mW C2 h2 a2 M) := mD_re hDm0
  obtain ⟨n, hn⟩ := Int.eq_ofNat_of_zero_le hii.1
  obtain ⟨x1, hz1, e1⟩ := iZ_of (xs (n + 1))
  have hC : cI V := hR.cIb hI
  have f1 : isTo (Int.toNat (V 0 3)) := hC.1
  have f2 : isTo (Int.toNat (V 0 4)) := hC.2.1
  have f5 : 0 ≤ V (Int.toNat (V 0 3)) 9 ∧ V (Int.toNat (V 0 3)) 9 ≤ 6 := hC.2.2.2.2.1.now.2.2
  have f6 : 0 ≤ V 39 0 ∧ V 39 0 ≤ 999 := hC.2.2.2.2.2.1.1
  have f7 : 0 ≤ V 39 1 ∧ V 39 1 ≤ 5 := hC.2.2.2.2.2.1.2.1
  have f8 : 0 ≤ V 39 2 ∧ V 39 2 ≤ 8 := hC.2.2.2.2.2.1.2.2.1
  have f9 : 0 ≤ V 0 1 ∧ V 0 1 ≤ 120 := hC.2.2.2.1
  have f11 : paI V 31 := hC.2.2.2.2.2.2.1
  have f12 : ∀ q : Nat, isIm q → paI V (33 + 2 * (q - 37)) := hC.2.2.2.2.2.2.2.1
  have f14 : ∀ k : Nat, k < 4 → 0 ≤ V 40 k ∧ V 40 k ≤ 20 := hC.2.2.2.2.2.1.2.2.2.1
  obtain ⟨heq, hR2⟩ := R_hours hI hR x1
  have hI2 := mI_hours hI x1
  refine lv_aload_n hx hb dL_law_421 rfl (lv_at hl 2 rfl) ?_
  refine lv_aload_n hx hb dL_law_422 rfl (lv_at hl 3 rfl) ?_
  refine lv_iload_n hx hb dL_law_423 rfl (lv_at hl 0 rfl) ?_
  refine lv_iconst (v := iZ 1) hx hb dL_law_424 (by decide) ?_
  refine z_iadd (x := ii) (y := 1) hx hb dL_law_425 ?_
  refine lq_ld hx hb hX hbl hbA hS (n + 1) (by omega) (by omega) e1 (by omega) dL_law_426 ?_
  refine lq_cm (As := [.int (iZ x1)]) (rest := []) ⟨hx, hb, hml, hown, htsL⟩ hKc hP hNA hD hS (K_X7_hours l D C a bb V x1 (by assumption) (by assumption) (by assumption) (hD.weaken (fun _ _ _ _ => trivial))) (cwV 1 htsL gL_law_X7_hours rfl rfl rfl (by decide +kernel) ⟨Nat.le_of_ble_eq_true rfl, Nat.le_of_ble_eq_true rfl⟩) rfl rfl hl.1 (Nat.le_of_ble_eq_true rfl) ⟨Nat.le_of_ble_eq_true rfl, Nat.le_of_ble_eq_true rfl⟩ dL_law_427 (fun H locs hP9 hD9 hS9 hk9 => ?_)
  replace hPm : va_P D vwCl (mW C2 h2 a2 M) H := hPm.kept (fun k q hq => hk9 q.1 (hPm k q hq).lt (fun z => hdj _ z (mA_mem k q hq)))
  replace hP := hP9
  replace hD := hD9
  replace hS := hS9
  clear hk9
  refine lv_pop hx hb dL_law_430 rfl ?_
  refine lv_aload_n hx hb dL_law_431 rfl (lv_at hl 1 rfl) ?_
  refine lv_aload_n hx hb dL_law_432 rfl (lv_at hl 3 rfl) ?_
  refine lv_iload_n hx hb dL_law_433 rfl (lv_at hl 0 rfl) ?_
  refine lv_iconst (v := iZ 1) hx hb dL_law_434 (by decide) ?_
  refine z_iadd (x := ii) (y := 1) hx hb dL_law_435 ?_
  refine lq_ld hx hb hX hbl hbA hS (n + 1) (by omega) (by omega) e1 (by omega) dL_law_436 ?_
  refine lq_mm (As := [.int (iZ x1)]) (rest := []) ⟨hx, hb, hml, hown, htsL⟩ hKm hPm hDm hS hAA (C_hours l D C2 h2 a2 M x1 (by assumption) (by assumption) (hDm.weaken (fun _ _ _ _ => trivial))) (cwV 1 htsL gL_law_X8_hours rfl rfl rfl (by decide +kernel) ⟨Nat.le_of_ble_eq_true rfl, Nat.le_of_ble_eq_true rfl⟩) rfl rfl hl.1 (Nat.le_of_ble_eq_true rfl) ⟨Nat.le_of_ble_eq_true rfl, Nat.le_of_ble_eq_true rfl⟩ dL_law_437 (fun H locs hP9 hD9 hS9 hk9 => ?_)
  replace hP : va_P D vwCl (cW C a (if (1 ≤ x1 ∧ x1 ≤ 9) ∧ V 39 0 + x1 ≤ 999 then mU (f_rem V 31 39) 39 0 (f_rem V 31 39 39 0 + x1) else V)) H := hP.kept (fun k q hq => hk9 q.1 (hP k q hq).lt (fun z => hdj _ (cA_mem k q hq) z))
  replace hPm := hP9
  replace hS := hS9
  clear hk9
  refine lv_pop hx hb dL_law_440 rfl ?_
  refine lv_goto (tgt := 1022) hx hb dL_law_441 (by decide) ?_
  exact kk (if (1 ≤ x1 ∧ x1 ≤ 9) ∧ V 39 0 + x1 ≤ 999 then mU (f_rem V 31 39) 39 0 (f_rem V 31 39 39 0 + x1) else V) (f_hours M x1) H locs hR2 hI2 hP hPm hS
set_option maxHeartbeats 4000000 in
set_option maxRecDepth 100000 in
theorem q_case_10 {p : Program} {e : Env} {s : State} {m : MethodId} {below : List Frame} {meth : Method} {c : Code} (l : Launch) {b L : Nat} {xs : Nat → Int32} (C0 : lw_At p s m meth c b L xs) (hL : L ≤ 384) {D : va_G} {C : cC} {C2 : mC} (hKc : va_K D vwCl (cT C) s) (hKm : va_K D vwCl (mT C2) s) {a a2 bb : Nat → Nat} {h2 : Nat} (hNA : cNA D C (fun q : Nat => s.heap.size ≤ q) bb s) (hD0 : va_D (fun q : Nat => s.heap.size ≤ q) (cW C a cV1)) (hDm0 : va_D (fun q : Nat => s.heap.size ≤ q) (mW C2 h2 a2 mM0)) (hAA : ∀ q, mA h2 a2 q → (fun q : Nat => s.heap.size ≤ q) q) (hdj : ∀ q, cA a q → ¬ mA h2 a2 q) {V M : Nat → Nat → Int} (hR : cR V M) (hI : mI M) {ii : Int} (hii : 0 ≤ ii ∧ ii + 6 ≤ (L : Int)) {H : Heap} {locs : List Loc} (hP : va_P D vwCl (cW C a V) H) (hPm : va_P D vwCl (mW C2 h2 a2 M) H) (hS : va_S (fun q : Nat => s.heap.size ≤ q) s.heap H locs) {ls : Array Slot} (hl : lv_has ls 4 [(3, .int (iZ ii)), (2, .ref h2), (1, .ref (a 0)), (0, .ref b)]) (kk : ∀ (V M : Nat → Nat → Int) (H : Heap) (locs : List Loc), cR V M → mI M → va_P D vwCl (cW C a V) H → va_P D vwCl (mW C2 h2 a2 M) H → va_S (fun q : Nat => s.heap.size ≤ q) s.heap H locs → W p l e room_1 s m #[Value.ref b] below meth c H locs 600000 7302250 (lw_Z below #[Value.ref b] s) (F0 m 1022 ls [])) : W p l e room_1 s m #[Value.ref b] below meth c H locs 600000 7302250 (lw_Z below #[Value.ref b] s) (F0 m 444 ls []) := by
  obtain ⟨hx, hb, hr, hml, hown, hts, hX, hbl, hlocks, hgv⟩ := id C0
  have hbA : ¬ (fun q : Nat => s.heap.size ≤ q) b := Nat.not_le.mpr hbl
  have htsL : ∀ w ∈ wsL_law, w.before #[Value.ref b] s = true := fun w h => hts w (wsL_law_in w h)
  have hD : va_D (fun q : Nat => s.heap.size ≤ q) (cW C a V) := cD_re hD0
  have hDm : va_D (fun q : Nat => s.heap.size ≤ q) (mW C2 h2 a2 M) := mD_re hDm0
  obtain ⟨n, hn⟩ := Int.eq_ofNat_of_zero_le hii.1
  obtain ⟨x1, hz1, e1⟩ := iZ_of (xs (n + 1))
  have hC : cI V := hR.cIb hI
  have f1 : isTo (Int.toNat (V 0 3)) := hC.1
  have f2 : isTo (Int.toNat (V 0 4)) := hC.2.1
  have f5 : 0 ≤ V (Int.toNat (V 0 3)) 9 ∧ V (Int.toNat (V 0 3)) 9 ≤ 6 := hC.2.2.2.2.1.now.2.2
  have f6 : 0 ≤ V 39 0 ∧ V 39 0 ≤ 999 := hC.2.2.2.2.2.1.1
  have f7 : 0 ≤ V 39 1 ∧ V 39 1 ≤ 5 := hC.2.2.2.2.2.1.2.1
  have f8 : 0 ≤ V 39 2 ∧ V 39 2 ≤ 8 := hC.2.2.2.2.2.1.2.2.1
  have f9 : 0 ≤ V 0 1 ∧ V 0 1 ≤ 120 := hC.2.2.2.1
  have f11 : paI V 31 := hC.2.2.2.2.2.2.1
  have f12 : ∀ q : Nat, isIm q → paI V (33 + 2 * (q - 37)) := hC.2.2.2.2.2.2.2.1
  have f14 : ∀ k : Nat, k < 4 → 0 ≤ V 40 k ∧ V 40 k ≤ 20 := hC.2.2.2.2.2.1.2.2.2.1
  obtain ⟨heq, hR2⟩ := R_damps hI hR x1
  have hI2 := mI_damps hI x1
  refine lv_aload_n hx hb dL_law_444 rfl (lv_at hl 2 rfl) ?_
  refine lv_aload_n hx hb dL_law_445 rfl (lv_at hl 3 rfl) ?_
  refine lv_iload_n hx hb dL_law_446 rfl (lv_at hl 0 rfl) ?_
  refine lv_iconst (v := iZ 1) hx hb dL_law_447 (by decide) ?_
  refine z_iadd (x := ii) (y := 1) hx hb dL_law_448 ?_
  refine lq_ld hx hb hX hbl hbA hS (n + 1) (by omega) (by omega) e1 (by omega) dL_law_449 ?_
  refine lq_cm (As := [.int (iZ x1)]) (rest := []) ⟨hx, hb, hml, hown, htsL⟩ hKc hP hNA hD hS (K_X7_damps l D C a bb V x1 (by assumption) (by assumption) (by assumption) (hD.weaken (fun _ _ _ _ => trivial))) (cwV 1 htsL gL_law_X7_damps rfl rfl rfl (by decide +kernel) ⟨Nat.le_of_ble_eq_true rfl, Nat.le_of_ble_eq_true rfl⟩) rfl rfl hl.1 (Nat.le_of_ble_eq_true rfl) ⟨Nat.le_of_ble_eq_true rfl, Nat.le_of_ble_eq_true rfl⟩ dL_law_450 (fun H locs hP9 hD9 hS9 hk9 => ?_)
  replace hPm : va_P D vwCl (mW C2 h2 a2 M) H := hPm.kept (fun k q hq => hk9 q.1 (hPm k q hq).lt (fun z => hdj _ z (mA_mem k q hq)))
  replace hP := hP9
  replace hD := hD9
  replace hS := hS9
  clear hk9
  refine lv_pop hx hb dL_law_453 rfl ?_
  refine lv_aload_n hx hb dL_law_454 rfl (lv_at hl 1 rfl) ?_
  refine lv_aload_n hx hb dL_law_455 rfl (lv_at hl 3 rfl) ?_
  refine lv_iload_n hx hb dL_law_456 rfl (lv_at hl 0 rfl) ?_
  refine lv_iconst (v := iZ 1) hx hb dL_law_457 (by decide) ?_
  refine z_iadd (x := ii) (y := 1) hx hb dL_law_458 ?_
  refine lq_ld hx hb hX hbl hbA hS (n + 1) (by omega) (by omega) e1 (by omega) dL_law_459 ?_
  refine lq_mm (As := [.int (iZ x1)]) (rest := []) ⟨hx, hb, hml, hown, htsL⟩ hKm hPm hDm hS hAA (C_damps l D C2 h2 a2 M x1 (by assumption) (by assumption) (hDm.weaken (fun _ _ _ _ => trivial))) (cwV 1 htsL gL_law_X8_damps rfl rfl rfl (by decide +kernel) ⟨Nat.le_of_ble_eq_true rfl, Nat.le_of_ble_eq_true rfl⟩) rfl rfl hl.1 (Nat.le_of_ble_eq_true rfl) ⟨Nat.le_of_ble_eq_true rfl, Nat.le_of_ble_eq_true rfl⟩ dL_law_460 (fun H locs hP9 hD9 hS9 hk9 => ?_)
  replace hP : va_P D vwCl (cW C a (if (0 ≤ x1 ∧ x1 ≤ 5) ∧ ¬ x1 = V 39 1 then mU (f_rem V 31 39) 39 1 x1 else V)) H := hP.kept (fun k q hq => hk9 q.1 (hP k q hq).lt (fun z => hdj _ (cA_mem k q hq) z))
  replace hPm := hP9
  replace hS := hS9
  clear hk9
  refine lv_pop hx hb dL_law_463 rfl ?_
  refine lv_goto (tgt := 1022) hx hb dL_law_464 (by decide) ?_
  exact kk (if (0 ≤ x1 ∧ x1 ≤ 5) ∧ ¬ x1 = V 39 1 then mU (f_rem V 31 39) 39 1 x1 else V) (f_damps M x1) H locs hR2 hI2 hP hPm hS
set_option maxHeartbeats 4000000 in
set_option maxRecDepth 100000 in
theorem q_case_11 {p : Program} {e : Env} {s : State} {m : MethodId} {below : List Frame} {meth : Method} {c : Code} (l : Launch) {b L : Nat} {xs : Nat → Int32} (C0 : lw_At p s m meth c b L xs) (hL : L ≤ 384) {D : va_G} {C : cC} {C2 : mC} (hKc : va_K D vwCl (cT C) s) (hKm : va_K D vwCl (mT C2) s) {a a2 bb : Nat → Nat} {h2 : Nat} (hNA : cNA D C (fun q : Nat => s.heap.size ≤ q) bb s) (hD0 : va_D (fun q : Nat => s.heap.size ≤ q) (cW C a cV1)) (hDm0 : va_D (fun q : Nat => s.heap.size ≤ q) (mW C2 h2 a2 mM0)) (hAA : ∀ q, mA h2 a2 q → (fun q : Nat => s.heap.size ≤ q) q) (hdj : ∀ q, cA a q → ¬ mA h2 a2 q) {V M : Nat → Nat → Int} (hR : cR V M) (hI : mI M) {ii : Int} (hii : 0 ≤ ii ∧ ii + 6 ≤ (L : Int)) {H : Heap} {locs : List Loc} (hP : va_P D vwCl (cW C a V) H) (hPm : va_P D vwCl (mW C2 h2 a2 M) H) (hS : va_S (fun q : Nat => s.heap.size ≤ q) s.heap H locs) {ls : Array Slot} (hl : lv_has ls 4 [(3, .int (iZ ii)), (2, .ref h2), (1, .ref (a 0)), (0, .ref b)]) (kk : ∀ (V M : Nat → Nat → Int) (H : Heap) (locs : List Loc), cR V M → mI M → va_P D vwCl (cW C a V) H → va_P D vwCl (mW C2 h2 a2 M) H → va_S (fun q : Nat => s.heap.size ≤ q) s.heap H locs → W p l e room_1 s m #[Value.ref b] below meth c H locs 600000 7302250 (lw_Z below #[Value.ref b] s) (F0 m 1022 ls [])) : W p l e room_1 s m #[Value.ref b] below meth c H locs 600000 7302250 (lw_Z below #[Value.ref b] s) (F0 m 467 ls []) := by
  obtain ⟨hx, hb, hr, hml, hown, hts, hX, hbl, hlocks, hgv⟩ := id C0
  have hbA : ¬ (fun q : Nat => s.heap.size ≤ q) b := Nat.not_le.mpr hbl
  have htsL : ∀ w ∈ wsL_law, w.before #[Value.ref b] s = true := fun w h => hts w (wsL_law_in w h)
  have hD : va_D (fun q : Nat => s.heap.size ≤ q) (cW C a V) := cD_re hD0
  have hDm : va_D (fun q : Nat => s.heap.size ≤ q) (mW C2 h2 a2 M) := mD_re hDm0
  obtain ⟨n, hn⟩ := Int.eq_ofNat_of_zero_le hii.1
  obtain ⟨x1, hz1, e1⟩ := iZ_of (xs (n + 1))
  obtain ⟨x2, hz2, e2⟩ := iZ_of (xs (n + 2))
  have hC : cI V := hR.cIb hI
  have f1 : isTo (Int.toNat (V 0 3)) := hC.1
  have f2 : isTo (Int.toNat (V 0 4)) := hC.2.1
  have f5 : 0 ≤ V (Int.toNat (V 0 3)) 9 ∧ V (Int.toNat (V 0 3)) 9 ≤ 6 := hC.2.2.2.2.1.now.2.2
  have f6 : 0 ≤ V 39 0 ∧ V 39 0 ≤ 999 := hC.2.2.2.2.2.1.1
  have f7 : 0 ≤ V 39 1 ∧ V 39 1 ≤ 5 := hC.2.2.2.2.2.1.2.1
  have f8 : 0 ≤ V 39 2 ∧ V 39 2 ≤ 8 := hC.2.2.2.2.2.1.2.2.1
  have f9 : 0 ≤ V 0 1 ∧ V 0 1 ≤ 120 := hC.2.2.2.1
  have f11 : paI V 31 := hC.2.2.2.2.2.2.1
  have f12 : ∀ q : Nat, isIm q → paI V (33 + 2 * (q - 37)) := hC.2.2.2.2.2.2.2.1
  have f14 : ∀ k : Nat, k < 4 → 0 ≤ V 40 k ∧ V 40 k ≤ 20 := hC.2.2.2.2.2.1.2.2.2.1
  obtain ⟨heq, hR2⟩ := R_plucks hI hR x1 x2
  have hI2 := mI_plucks hI x1 x2
  refine lv_aload_n hx hb dL_law_467 rfl (lv_at hl 2 rfl) ?_
  refine lv_aload_n hx hb dL_law_468 rfl (lv_at hl 3 rfl) ?_
  refine lv_iload_n hx hb dL_law_469 rfl (lv_at hl 0 rfl) ?_
  refine lv_iconst (v := iZ 1) hx hb dL_law_470 (by decide) ?_
  refine z_iadd (x := ii) (y := 1) hx hb dL_law_471 ?_
  refine lq_ld hx hb hX hbl hbA hS (n + 1) (by omega) (by omega) e1 (by omega) dL_law_472 ?_
  refine lv_aload_n hx hb dL_law_473 rfl (lv_at hl 3 rfl) ?_
  refine lv_iload_n hx hb dL_law_474 rfl (lv_at hl 0 rfl) ?_
  refine lv_iconst (v := iZ 2) hx hb dL_law_475 (by decide) ?_
  refine z_iadd (x := ii) (y := 2) hx hb dL_law_476 ?_
  refine lq_ld hx hb hX hbl hbA hS (n + 2) (by omega) (by omega) e2 (by omega) dL_law_477 ?_
  refine lq_cm (As := [.int (iZ x1), .int (iZ x2)]) (rest := []) ⟨hx, hb, hml, hown, htsL⟩ hKc hP hNA hD hS (K_X7_plucks l D C a bb V x1 x2 (by assumption) (by assumption) (by assumption) (by assumption) (hD.weaken (fun _ _ _ _ => trivial))) (cwV 2 htsL gL_law_X7_plucks rfl rfl rfl (by decide +kernel) ⟨Nat.le_of_ble_eq_true rfl, Nat.le_of_ble_eq_true rfl⟩) rfl rfl hl.1 (Nat.le_of_ble_eq_true rfl) ⟨Nat.le_of_ble_eq_true rfl, Nat.le_of_ble_eq_true rfl⟩ dL_law_478 (fun H locs hP9 hD9 hS9 hk9 => ?_)
  replace hPm : va_P D vwCl (mW C2 h2 a2 M) H := hPm.kept (fun k q hq => hk9 q.1 (hPm k q hq).lt (fun z => hdj _ z (mA_mem k q hq)))
  replace hP := hP9
  replace hD := hD9
  replace hS := hS9
  clear hk9
  refine lv_pop hx hb dL_law_481 rfl ?_
  refine lv_aload_n hx hb dL_law_482 rfl (lv_at hl 1 rfl) ?_
  refine lv_aload_n hx hb dL_law_483 rfl (lv_at hl 3 rfl) ?_
  refine lv_iload_n hx hb dL_law_484 rfl (lv_at hl 0 rfl) ?_
  refine lv_iconst (v := iZ 1) hx hb dL_law_485 (by decide) ?_
  refine z_iadd (x := ii) (y := 1) hx hb dL_law_486 ?_
  refine lq_ld hx hb hX hbl hbA hS (n + 1) (by omega) (by omega) e1 (by omega) dL_law_487 ?_
  refine lv_aload_n hx hb dL_law_488 rfl (lv_at hl 3 rfl) ?_
  refine lv_iload_n hx hb dL_law_489 rfl (lv_at hl 0 rfl) ?_
  refine lv_iconst (v := iZ 2) hx hb dL_law_490 (by decide) ?_
  refine z_iadd (x := ii) (y := 2) hx hb dL_law_491 ?_
  refine lq_ld hx hb hX hbl hbA hS (n + 2) (by omega) (by omega) e2 (by omega) dL_law_492 ?_
  refine lq_mm (As := [.int (iZ x1), .int (iZ x2)]) (rest := []) ⟨hx, hb, hml, hown, htsL⟩ hKm hPm hDm hS hAA (C_plucks l D C2 h2 a2 M x1 x2 (by assumption) (by assumption) (by assumption) (hDm.weaken (fun _ _ _ _ => trivial))) (cwV 2 htsL gL_law_X8_plucks rfl rfl rfl (by decide +kernel) ⟨Nat.le_of_ble_eq_true rfl, Nat.le_of_ble_eq_true rfl⟩) rfl rfl hl.1 (Nat.le_of_ble_eq_true rfl) ⟨Nat.le_of_ble_eq_true rfl, Nat.le_of_ble_eq_true rfl⟩ dL_law_493 (fun H locs hP9 hD9 hS9 hk9 => ?_)
  replace hP : va_P D vwCl (cW C a (if ((0 ≤ x1 ∧ x1 < 4) ∧ 1 ≤ x2 ∧ x2 ≤ 9) ∧ V 40 (Int.toNat x1) < 20 then mU (f_rem V 31 39) 40 (Int.toNat x1) (if f_rem V 31 39 40 (Int.toNat x1) + x2 < 20 then f_rem V 31 39 40 (Int.toNat x1) + x2 else 20) else V)) H := hP.kept (fun k q hq => hk9 q.1 (hP k q hq).lt (fun z => hdj _ (cA_mem k q hq) z))
  replace hPm := hP9
  replace hS := hS9
  clear hk9
  refine lv_pop hx hb dL_law_496 rfl ?_
  refine lv_goto (tgt := 1022) hx hb dL_law_497 (by decide) ?_
  exact kk (if ((0 ≤ x1 ∧ x1 < 4) ∧ 1 ≤ x2 ∧ x2 ≤ 9) ∧ V 40 (Int.toNat x1) < 20 then mU (f_rem V 31 39) 40 (Int.toNat x1) (if f_rem V 31 39 40 (Int.toNat x1) + x2 < 20 then f_rem V 31 39 40 (Int.toNat x1) + x2 else 20) else V) (f_plucks M x1 x2) H locs hR2 hI2 hP hPm hS
set_option maxHeartbeats 4000000 in
set_option maxRecDepth 100000 in
theorem q_case_12 {p : Program} {e : Env} {s : State} {m : MethodId} {below : List Frame} {meth : Method} {c : Code} (l : Launch) {b L : Nat} {xs : Nat → Int32} (C0 : lw_At p s m meth c b L xs) (hL : L ≤ 384) {D : va_G} {C : cC} {C2 : mC} (hKc : va_K D vwCl (cT C) s) (hKm : va_K D vwCl (mT C2) s) {a a2 bb : Nat → Nat} {h2 : Nat} (hNA : cNA D C (fun q : Nat => s.heap.size ≤ q) bb s) (hD0 : va_D (fun q : Nat => s.heap.size ≤ q) (cW C a cV1)) (hDm0 : va_D (fun q : Nat => s.heap.size ≤ q) (mW C2 h2 a2 mM0)) (hAA : ∀ q, mA h2 a2 q → (fun q : Nat => s.heap.size ≤ q) q) (hdj : ∀ q, cA a q → ¬ mA h2 a2 q) {V M : Nat → Nat → Int} (hR : cR V M) (hI : mI M) {ii : Int} (hii : 0 ≤ ii ∧ ii + 6 ≤ (L : Int)) {H : Heap} {locs : List Loc} (hP : va_P D vwCl (cW C a V) H) (hPm : va_P D vwCl (mW C2 h2 a2 M) H) (hS : va_S (fun q : Nat => s.heap.size ≤ q) s.heap H locs) {ls : Array Slot} (hl : lv_has ls 4 [(3, .int (iZ ii)), (2, .ref h2), (1, .ref (a 0)), (0, .ref b)]) (kk : ∀ (V M : Nat → Nat → Int) (H : Heap) (locs : List Loc), cR V M → mI M → va_P D vwCl (cW C a V) H → va_P D vwCl (mW C2 h2 a2 M) H → va_S (fun q : Nat => s.heap.size ≤ q) s.heap H locs → W p l e room_1 s m #[Value.ref b] below meth c H locs 600000 7302250 (lw_Z below #[Value.ref b] s) (F0 m 1022 ls [])) : W p l e room_1 s m #[Value.ref b] below meth c H locs 600000 7302250 (lw_Z below #[Value.ref b] s) (F0 m 500 ls []) := by
  obtain ⟨hx, hb, hr, hml, hown, hts, hX, hbl, hlocks, hgv⟩ := id C0
  have hbA : ¬ (fun q : Nat => s.heap.size ≤ q) b := Nat.not_le.mpr hbl
  have htsL : ∀ w ∈ wsL_law, w.before #[Value.ref b] s = true := fun w h => hts w (wsL_law_in w h)
  have hD : va_D (fun q : Nat => s.heap.size ≤ q) (cW C a V) := cD_re hD0
  have hDm : va_D (fun q : Nat => s.heap.size ≤ q) (mW C2 h2 a2 M) := mD_re hDm0
  obtain ⟨n, hn⟩ := Int.eq_ofNat_of_zero_le hii.1
  have hC : cI V := hR.cIb hI
  have f1 : isTo (Int.toNat (V 0 3)) := hC.1
  have f2 : isTo (Int.toNat (V 0 4)) := hC.2.1
  have f5 : 0 ≤ V (Int.toNat (V 0 3)) 9 ∧ V (Int.toNat (V 0 3)) 9 ≤ 6 := hC.2.2.2.2.1.now.2.2
  have f6 : 0 ≤ V 39 0 ∧ V 39 0 ≤ 999 := hC.2.2.2.2.2.1.1
  have f7 : 0 ≤ V 39 1 ∧ V 39 1 ≤ 5 := hC.2.2.2.2.2.1.2.1
  have f8 : 0 ≤ V 39 2 ∧ V 39 2 ≤ 8 := hC.2.2.2.2.2.1.2.2.1
  have f9 : 0 ≤ V 0 1 ∧ V 0 1 ≤ 120 := hC.2.2.2.1
  have f11 : paI V 31 := hC.2.2.2.2.2.2.1
  have f12 : ∀ q : Nat, isIm q → paI V (33 + 2 * (q - 37)) := hC.2.2.2.2.2.2.2.1
  have f14 : ∀ k : Nat, k < 4 → 0 ≤ V 40 k ∧ V 40 k ≤ 20 := hC.2.2.2.2.2.1.2.2.2.1
  obtain ⟨heq, hR2⟩ := R_undo hI hR 
  have hI2 := mI_undo hI 
  refine lv_aload_n hx hb dL_law_500 rfl (lv_at hl 2 rfl) ?_
  refine lq_cm (As := []) (rest := []) ⟨hx, hb, hml, hown, htsL⟩ hKc hP hNA hD hS (K_X7_undo l D C a bb V  (by assumption) (hD.weaken (fun _ _ _ _ => trivial))) (cwV 0 htsL gL_law_X7_undo rfl rfl rfl (by decide +kernel) ⟨Nat.le_of_ble_eq_true rfl, Nat.le_of_ble_eq_true rfl⟩) rfl rfl hl.1 (Nat.le_of_ble_eq_true rfl) ⟨Nat.le_of_ble_eq_true rfl, Nat.le_of_ble_eq_true rfl⟩ dL_law_501 (fun H locs hP9 hD9 hS9 hk9 => ?_)
  replace hPm : va_P D vwCl (mW C2 h2 a2 M) H := hPm.kept (fun k q hq => hk9 q.1 (hPm k q hq).lt (fun z => hdj _ z (mA_mem k q hq)))
  replace hP := hP9
  replace hD := hD9
  replace hS := hS9
  clear hk9
  refine lv_pop hx hb dL_law_504 rfl ?_
  refine lv_aload_n hx hb dL_law_505 rfl (lv_at hl 1 rfl) ?_
  refine lq_mm (As := []) (rest := []) ⟨hx, hb, hml, hown, htsL⟩ hKm hPm hDm hS hAA (C_undo l D C2 h2 a2 M  (by assumption) (hDm.weaken (fun _ _ _ _ => trivial))) (cwV 0 htsL gL_law_X8_undo rfl rfl rfl (by decide +kernel) ⟨Nat.le_of_ble_eq_true rfl, Nat.le_of_ble_eq_true rfl⟩) rfl rfl hl.1 (Nat.le_of_ble_eq_true rfl) ⟨Nat.le_of_ble_eq_true rfl, Nat.le_of_ble_eq_true rfl⟩ dL_law_506 (fun H locs hP9 hD9 hS9 hk9 => ?_)
  replace hP : va_P D vwCl (cW C a (if 1 ≤ V 31 1 then f_brg V 31 39 else V)) H := hP.kept (fun k q hq => hk9 q.1 (hP k q hq).lt (fun z => hdj _ (cA_mem k q hq) z))
  replace hPm := hP9
  replace hS := hS9
  clear hk9
  refine lv_pop hx hb dL_law_509 rfl ?_
  refine lv_goto (tgt := 1022) hx hb dL_law_510 (by decide) ?_
  exact kk (if 1 ≤ V 31 1 then f_brg V 31 39 else V) (f_undo M) H locs hR2 hI2 hP hPm hS
set_option maxHeartbeats 4000000 in
set_option maxRecDepth 100000 in
theorem q_case_13 {p : Program} {e : Env} {s : State} {m : MethodId} {below : List Frame} {meth : Method} {c : Code} (l : Launch) {b L : Nat} {xs : Nat → Int32} (C0 : lw_At p s m meth c b L xs) (hL : L ≤ 384) {D : va_G} {C : cC} {C2 : mC} (hKc : va_K D vwCl (cT C) s) (hKm : va_K D vwCl (mT C2) s) {a a2 bb : Nat → Nat} {h2 : Nat} (hNA : cNA D C (fun q : Nat => s.heap.size ≤ q) bb s) (hD0 : va_D (fun q : Nat => s.heap.size ≤ q) (cW C a cV1)) (hDm0 : va_D (fun q : Nat => s.heap.size ≤ q) (mW C2 h2 a2 mM0)) (hAA : ∀ q, mA h2 a2 q → (fun q : Nat => s.heap.size ≤ q) q) (hdj : ∀ q, cA a q → ¬ mA h2 a2 q) {V M : Nat → Nat → Int} (hR : cR V M) (hI : mI M) {ii : Int} (hii : 0 ≤ ii ∧ ii + 6 ≤ (L : Int)) {H : Heap} {locs : List Loc} (hP : va_P D vwCl (cW C a V) H) (hPm : va_P D vwCl (mW C2 h2 a2 M) H) (hS : va_S (fun q : Nat => s.heap.size ≤ q) s.heap H locs) {ls : Array Slot} (hl : lv_has ls 4 [(3, .int (iZ ii)), (2, .ref h2), (1, .ref (a 0)), (0, .ref b)]) (kk : ∀ (V M : Nat → Nat → Int) (H : Heap) (locs : List Loc), cR V M → mI M → va_P D vwCl (cW C a V) H → va_P D vwCl (mW C2 h2 a2 M) H → va_S (fun q : Nat => s.heap.size ≤ q) s.heap H locs → W p l e room_1 s m #[Value.ref b] below meth c H locs 600000 7302250 (lw_Z below #[Value.ref b] s) (F0 m 1022 ls [])) : W p l e room_1 s m #[Value.ref b] below meth c H locs 600000 7302250 (lw_Z below #[Value.ref b] s) (F0 m 513 ls []) := by
  obtain ⟨hx, hb, hr, hml, hown, hts, hX, hbl, hlocks, hgv⟩ := id C0
  have hbA : ¬ (fun q : Nat => s.heap.size ≤ q) b := Nat.not_le.mpr hbl
  have htsL : ∀ w ∈ wsL_law, w.before #[Value.ref b] s = true := fun w h => hts w (wsL_law_in w h)
  have hD : va_D (fun q : Nat => s.heap.size ≤ q) (cW C a V) := cD_re hD0
  have hDm : va_D (fun q : Nat => s.heap.size ≤ q) (mW C2 h2 a2 M) := mD_re hDm0
  obtain ⟨n, hn⟩ := Int.eq_ofNat_of_zero_le hii.1
  obtain ⟨x1, hz1, e1⟩ := iZ_of (xs (n + 1))
  have hC : cI V := hR.cIb hI
  have f1 : isTo (Int.toNat (V 0 3)) := hC.1
  have f2 : isTo (Int.toNat (V 0 4)) := hC.2.1
  have f5 : 0 ≤ V (Int.toNat (V 0 3)) 9 ∧ V (Int.toNat (V 0 3)) 9 ≤ 6 := hC.2.2.2.2.1.now.2.2
  have f6 : 0 ≤ V 39 0 ∧ V 39 0 ≤ 999 := hC.2.2.2.2.2.1.1
  have f7 : 0 ≤ V 39 1 ∧ V 39 1 ≤ 5 := hC.2.2.2.2.2.1.2.1
  have f8 : 0 ≤ V 39 2 ∧ V 39 2 ≤ 8 := hC.2.2.2.2.2.1.2.2.1
  have f9 : 0 ≤ V 0 1 ∧ V 0 1 ≤ 120 := hC.2.2.2.1
  have f11 : paI V 31 := hC.2.2.2.2.2.2.1
  have f12 : ∀ q : Nat, isIm q → paI V (33 + 2 * (q - 37)) := hC.2.2.2.2.2.2.2.1
  have f14 : ∀ k : Nat, k < 4 → 0 ≤ V 40 k ∧ V 40 k ≤ 20 := hC.2.2.2.2.2.1.2.2.2.1
  have hR2 : cR V M := hR
  have hI2 : mI M := hI
  refine lv_aload_n hx hb dL_law_513 rfl (lv_at hl 2 rfl) ?_
  refine lv_aload_n hx hb dL_law_514 rfl (lv_at hl 3 rfl) ?_
  refine lv_iload_n hx hb dL_law_515 rfl (lv_at hl 0 rfl) ?_
  refine lv_iconst (v := iZ 1) hx hb dL_law_516 (by decide) ?_
  refine z_iadd (x := ii) (y := 1) hx hb dL_law_517 ?_
  refine lq_ld hx hb hX hbl hbA hS (n + 1) (by omega) (by omega) e1 (by omega) dL_law_518 ?_
  refine lq_ci (As := [.int (iZ x1)]) (rest := []) ⟨hx, hb, hml, hown, htsL⟩ hKc hP hNA hD hS (K_X7_now l D C a bb V x1 (by assumption) ) (cwV 1 htsL gL_law_X7_now rfl rfl rfl (by decide +kernel) ⟨Nat.le_of_ble_eq_true rfl, Nat.le_of_ble_eq_true rfl⟩) rfl rfl hl.1 (Nat.le_of_ble_eq_true rfl) ⟨Nat.le_of_ble_eq_true rfl, Nat.le_of_ble_eq_true rfl⟩ dL_law_519 ?_
  refine lv_pop hx hb dL_law_522 rfl ?_
  refine lv_aload_n hx hb dL_law_523 rfl (lv_at hl 1 rfl) ?_
  refine lv_aload_n hx hb dL_law_524 rfl (lv_at hl 3 rfl) ?_
  refine lv_iload_n hx hb dL_law_525 rfl (lv_at hl 0 rfl) ?_
  refine lv_iconst (v := iZ 1) hx hb dL_law_526 (by decide) ?_
  refine z_iadd (x := ii) (y := 1) hx hb dL_law_527 ?_
  refine lq_ld hx hb hX hbl hbA hS (n + 1) (by omega) (by omega) e1 (by omega) dL_law_528 ?_
  refine lq_mi (As := [.int (iZ x1)]) (rest := []) ⟨hx, hb, hml, hown, htsL⟩ hKm hPm (C_now l D C2 h2 a2 M x1 (by assumption) (by assumption) ) (cwV 1 htsL gL_law_X8_now rfl rfl rfl (by decide +kernel) ⟨Nat.le_of_ble_eq_true rfl, Nat.le_of_ble_eq_true rfl⟩) rfl rfl hl.1 (Nat.le_of_ble_eq_true rfl) ⟨Nat.le_of_ble_eq_true rfl, Nat.le_of_ble_eq_true rfl⟩ dL_law_529 ?_
  refine lv_pop hx hb dL_law_532 rfl ?_
  refine lv_goto (tgt := 1022) hx hb dL_law_533 (by decide) ?_
  exact kk V M H locs hR2 hI2 hP hPm hS
set_option maxHeartbeats 4000000 in
set_option maxRecDepth 100000 in
theorem q_case_14 {p : Program} {e : Env} {s : State} {m : MethodId} {below : List Frame} {meth : Method} {c : Code} (l : Launch) {b L : Nat} {xs : Nat → Int32} (C0 : lw_At p s m meth c b L xs) (hL : L ≤ 384) {D : va_G} {C : cC} {C2 : mC} (hKc : va_K D vwCl (cT C) s) (hKm : va_K D vwCl (mT C2) s) {a a2 bb : Nat → Nat} {h2 : Nat} (hNA : cNA D C (fun q : Nat => s.heap.size ≤ q) bb s) (hD0 : va_D (fun q : Nat => s.heap.size ≤ q) (cW C a cV1)) (hDm0 : va_D (fun q : Nat => s.heap.size ≤ q) (mW C2 h2 a2 mM0)) (hAA : ∀ q, mA h2 a2 q → (fun q : Nat => s.heap.size ≤ q) q) (hdj : ∀ q, cA a q → ¬ mA h2 a2 q) {V M : Nat → Nat → Int} (hR : cR V M) (hI : mI M) {ii : Int} (hii : 0 ≤ ii ∧ ii + 6 ≤ (L : Int)) {H : Heap} {locs : List Loc} (hP : va_P D vwCl (cW C a V) H) (hPm : va_P D vwCl (mW C2 h2 a2 M) H) (hS : va_S (fun q : Nat => s.heap.size ≤ q) s.heap H locs) {ls : Array Slot} (hl : lv_has ls 4 [(3, .int (iZ ii)), (2, .ref h2), (1, .ref (a 0)), (0, .ref b)]) (kk : ∀ (V M : Nat → Nat → Int) (H : Heap) (locs : List Loc), cR V M → mI M → va_P D vwCl (cW C a V) H → va_P D vwCl (mW C2 h2 a2 M) H → va_S (fun q : Nat => s.heap.size ≤ q) s.heap H locs → W p l e room_1 s m #[Value.ref b] below meth c H locs 600000 7302250 (lw_Z below #[Value.ref b] s) (F0 m 1022 ls [])) : W p l e room_1 s m #[Value.ref b] below meth c H locs 600000 7302250 (lw_Z below #[Value.ref b] s) (F0 m 536 ls []) := by
  obtain ⟨hx, hb, hr, hml, hown, hts, hX, hbl, hlocks, hgv⟩ := id C0
  have hbA : ¬ (fun q : Nat => s.heap.size ≤ q) b := Nat.not_le.mpr hbl
  have htsL : ∀ w ∈ wsL_law, w.before #[Value.ref b] s = true := fun w h => hts w (wsL_law_in w h)
  have hD : va_D (fun q : Nat => s.heap.size ≤ q) (cW C a V) := cD_re hD0
  have hDm : va_D (fun q : Nat => s.heap.size ≤ q) (mW C2 h2 a2 M) := mD_re hDm0
  obtain ⟨n, hn⟩ := Int.eq_ofNat_of_zero_le hii.1
  obtain ⟨x1, hz1, e1⟩ := iZ_of (xs (n + 1))
  obtain ⟨x2, hz2, e2⟩ := iZ_of (xs (n + 2))
  obtain ⟨x3, hz3, e3⟩ := iZ_of (xs (n + 3))
  obtain ⟨x4, hz4, e4⟩ := iZ_of (xs (n + 4))
  obtain ⟨x5, hz5, e5⟩ := iZ_of (xs (n + 5))
  have hC : cI V := hR.cIb hI
  have f1 : isTo (Int.toNat (V 0 3)) := hC.1
  have f2 : isTo (Int.toNat (V 0 4)) := hC.2.1
  have f5 : 0 ≤ V (Int.toNat (V 0 3)) 9 ∧ V (Int.toNat (V 0 3)) 9 ≤ 6 := hC.2.2.2.2.1.now.2.2
  have f6 : 0 ≤ V 39 0 ∧ V 39 0 ≤ 999 := hC.2.2.2.2.2.1.1
  have f7 : 0 ≤ V 39 1 ∧ V 39 1 ≤ 5 := hC.2.2.2.2.2.1.2.1
  have f8 : 0 ≤ V 39 2 ∧ V 39 2 ≤ 8 := hC.2.2.2.2.2.1.2.2.1
  have f9 : 0 ≤ V 0 1 ∧ V 0 1 ≤ 120 := hC.2.2.2.1
  have f11 : paI V 31 := hC.2.2.2.2.2.2.1
  have f12 : ∀ q : Nat, isIm q → paI V (33 + 2 * (q - 37)) := hC.2.2.2.2.2.2.2.1
  have f14 : ∀ k : Nat, k < 4 → 0 ≤ V 40 k ∧ V 40 k ≤ 20 := hC.2.2.2.2.2.1.2.2.2.1
  have hR2 : cR V M := hR
  have hI2 : mI M := hI
  refine lv_aload_n hx hb dL_law_536 rfl (lv_at hl 2 rfl) ?_
  refine lv_aload_n hx hb dL_law_537 rfl (lv_at hl 3 rfl) ?_
  refine lv_iload_n hx hb dL_law_538 rfl (lv_at hl 0 rfl) ?_
  refine lv_iconst (v := iZ 1) hx hb dL_law_539 (by decide) ?_
  refine z_iadd (x := ii) (y := 1) hx hb dL_law_540 ?_
  refine lq_ld hx hb hX hbl hbA hS (n + 1) (by omega) (by omega) e1 (by omega) dL_law_541 ?_
  refine lv_aload_n hx hb dL_law_542 rfl (lv_at hl 3 rfl) ?_
  refine lv_iload_n hx hb dL_law_543 rfl (lv_at hl 0 rfl) ?_
  refine lv_iconst (v := iZ 2) hx hb dL_law_544 (by decide) ?_
  refine z_iadd (x := ii) (y := 2) hx hb dL_law_545 ?_
  refine lq_ld hx hb hX hbl hbA hS (n + 2) (by omega) (by omega) e2 (by omega) dL_law_546 ?_
  refine lv_aload_n hx hb dL_law_547 rfl (lv_at hl 3 rfl) ?_
  refine lv_iload_n hx hb dL_law_548 rfl (lv_at hl 0 rfl) ?_
  refine lv_iconst (v := iZ 3) hx hb dL_law_549 (by decide) ?_
  refine z_iadd (x := ii) (y := 3) hx hb dL_law_550 ?_
  refine lq_ld hx hb hX hbl hbA hS (n + 3) (by omega) (by omega) e3 (by omega) dL_law_551 ?_
  refine lv_aload_n hx hb dL_law_552 rfl (lv_at hl 3 rfl) ?_
  refine lv_iload_n hx hb dL_law_553 rfl (lv_at hl 0 rfl) ?_
  refine lv_iconst (v := iZ 4) hx hb dL_law_554 (by decide) ?_
  refine z_iadd (x := ii) (y := 4) hx hb dL_law_555 ?_
  refine lq_ld hx hb hX hbl hbA hS (n + 4) (by omega) (by omega) e4 (by omega) dL_law_556 ?_
  refine lv_aload_n hx hb dL_law_557 rfl (lv_at hl 3 rfl) ?_
  refine lv_iload_n hx hb dL_law_558 rfl (lv_at hl 0 rfl) ?_
  refine lv_iconst (v := iZ 5) hx hb dL_law_559 (by decide) ?_
  refine z_iadd (x := ii) (y := 5) hx hb dL_law_560 ?_
  refine lq_ld hx hb hX hbl hbA hS (n + 5) (by omega) (by omega) e5 (by omega) dL_law_561 ?_
  refine lq_ci (As := [.int (iZ x1), .int (iZ x2), .int (iZ x3), .int (iZ x4), .int (iZ x5)]) (rest := []) ⟨hx, hb, hml, hown, htsL⟩ hKc hP hNA hD hS (K_X7_lands l D C a bb V x1 x2 x3 x4 x5 (by assumption) (by assumption) (by assumption) (by assumption) (by assumption) (by assumption) ) (cwV 5 htsL gL_law_X7_lands rfl rfl rfl (by decide +kernel) ⟨Nat.le_of_ble_eq_true rfl, Nat.le_of_ble_eq_true rfl⟩) rfl rfl hl.1 (Nat.le_of_ble_eq_true rfl) ⟨Nat.le_of_ble_eq_true rfl, Nat.le_of_ble_eq_true rfl⟩ dL_law_562 ?_
  refine lv_pop hx hb dL_law_565 rfl ?_
  refine lv_aload_n hx hb dL_law_566 rfl (lv_at hl 1 rfl) ?_
  refine lv_aload_n hx hb dL_law_567 rfl (lv_at hl 3 rfl) ?_
  refine lv_iload_n hx hb dL_law_568 rfl (lv_at hl 0 rfl) ?_
  refine lv_iconst (v := iZ 1) hx hb dL_law_569 (by decide) ?_
  refine z_iadd (x := ii) (y := 1) hx hb dL_law_570 ?_
  refine lq_ld hx hb hX hbl hbA hS (n + 1) (by omega) (by omega) e1 (by omega) dL_law_571 ?_
  refine lv_aload_n hx hb dL_law_572 rfl (lv_at hl 3 rfl) ?_
  refine lv_iload_n hx hb dL_law_573 rfl (lv_at hl 0 rfl) ?_
  refine lv_iconst (v := iZ 2) hx hb dL_law_574 (by decide) ?_
  refine z_iadd (x := ii) (y := 2) hx hb dL_law_575 ?_
  refine lq_ld hx hb hX hbl hbA hS (n + 2) (by omega) (by omega) e2 (by omega) dL_law_576 ?_
  refine lv_aload_n hx hb dL_law_577 rfl (lv_at hl 3 rfl) ?_
  refine lv_iload_n hx hb dL_law_578 rfl (lv_at hl 0 rfl) ?_
  refine lv_iconst (v := iZ 3) hx hb dL_law_579 (by decide) ?_
  refine z_iadd (x := ii) (y := 3) hx hb dL_law_580 ?_
  refine lq_ld hx hb hX hbl hbA hS (n + 3) (by omega) (by omega) e3 (by omega) dL_law_581 ?_
  refine lv_aload_n hx hb dL_law_582 rfl (lv_at hl 3 rfl) ?_
  refine lv_iload_n hx hb dL_law_583 rfl (lv_at hl 0 rfl) ?_
  refine lv_iconst (v := iZ 4) hx hb dL_law_584 (by decide) ?_
  refine z_iadd (x := ii) (y := 4) hx hb dL_law_585 ?_
  refine lq_ld hx hb hX hbl hbA hS (n + 4) (by omega) (by omega) e4 (by omega) dL_law_586 ?_
  refine lv_aload_n hx hb dL_law_587 rfl (lv_at hl 3 rfl) ?_
  refine lv_iload_n hx hb dL_law_588 rfl (lv_at hl 0 rfl) ?_
  refine lv_iconst (v := iZ 5) hx hb dL_law_589 (by decide) ?_
  refine z_iadd (x := ii) (y := 5) hx hb dL_law_590 ?_
  refine lq_ld hx hb hX hbl hbA hS (n + 5) (by omega) (by omega) e5 (by omega) dL_law_591 ?_
  refine lq_mi (As := [.int (iZ x1), .int (iZ x2), .int (iZ x3), .int (iZ x4), .int (iZ x5)]) (rest := []) ⟨hx, hb, hml, hown, htsL⟩ hKm hPm (C_lands l D C2 h2 a2 M x1 x2 x3 x4 x5 (by assumption) (by assumption) (by assumption) (by assumption) (by assumption) (by assumption) ) (cwV 5 htsL gL_law_X8_lands rfl rfl rfl (by decide +kernel) ⟨Nat.le_of_ble_eq_true rfl, Nat.le_of_ble_eq_true rfl⟩) rfl rfl hl.1 (Nat.le_of_ble_eq_true rfl) ⟨Nat.le_of_ble_eq_true rfl, Nat.le_of_ble_eq_true rfl⟩ dL_law_592 ?_
  refine lv_pop hx hb dL_law_595 rfl ?_
  refine lv_goto (tgt := 1022) hx hb dL_law_596 (by decide) ?_
  exact kk V M H locs hR2 hI2 hP hPm hS
set_option maxHeartbeats 4000000 in
set_option maxRecDepth 100000 in
theorem q_case_15 {p : Program} {e : Env} {s : State} {m : MethodId} {below : List Frame} {meth : Method} {c : Code} (l : Launch) {b L : Nat} {xs : Nat → Int32} (C0 : lw_At p s m meth c b L xs) (hL : L ≤ 384) {D : va_G} {C : cC} {C2 : mC} (hKc : va_K D vwCl (cT C) s) (hKm : va_K D vwCl (mT C2) s) {a a2 bb : Nat → Nat} {h2 : Nat} (hNA : cNA D C (fun q : Nat => s.heap.size ≤ q) bb s) (hD0 : va_D (fun q : Nat => s.heap.size ≤ q) (cW C a cV1)) (hDm0 : va_D (fun q : Nat => s.heap.size ≤ q) (mW C2 h2 a2 mM0)) (hAA : ∀ q, mA h2 a2 q → (fun q : Nat => s.heap.size ≤ q) q) (hdj : ∀ q, cA a q → ¬ mA h2 a2 q) {V M : Nat → Nat → Int} (hR : cR V M) (hI : mI M) {ii : Int} (hii : 0 ≤ ii ∧ ii + 6 ≤ (L : Int)) {H : Heap} {locs : List Loc} (hP : va_P D vwCl (cW C a V) H) (hPm : va_P D vwCl (mW C2 h2 a2 M) H) (hS : va_S (fun q : Nat => s.heap.size ≤ q) s.heap H locs) {ls : Array Slot} (hl : lv_has ls 4 [(3, .int (iZ ii)), (2, .ref h2), (1, .ref (a 0)), (0, .ref b)]) (kk : ∀ (V M : Nat → Nat → Int) (H : Heap) (locs : List Loc), cR V M → mI M → va_P D vwCl (cW C a V) H → va_P D vwCl (mW C2 h2 a2 M) H → va_S (fun q : Nat => s.heap.size ≤ q) s.heap H locs → W p l e room_1 s m #[Value.ref b] below meth c H locs 600000 7302250 (lw_Z below #[Value.ref b] s) (F0 m 1022 ls [])) : W p l e room_1 s m #[Value.ref b] below meth c H locs 600000 7302250 (lw_Z below #[Value.ref b] s) (F0 m 599 ls []) := by
  obtain ⟨hx, hb, hr, hml, hown, hts, hX, hbl, hlocks, hgv⟩ := id C0
  have hbA : ¬ (fun q : Nat => s.heap.size ≤ q) b := Nat.not_le.mpr hbl
  have htsL : ∀ w ∈ wsL_law, w.before #[Value.ref b] s = true := fun w h => hts w (wsL_law_in w h)
  have hD : va_D (fun q : Nat => s.heap.size ≤ q) (cW C a V) := cD_re hD0
  have hDm : va_D (fun q : Nat => s.heap.size ≤ q) (mW C2 h2 a2 M) := mD_re hDm0
  obtain ⟨n, hn⟩ := Int.eq_ofNat_of_zero_le hii.1
  obtain ⟨x1, hz1, e1⟩ := iZ_of (xs (n + 1))
  obtain ⟨x2, hz2, e2⟩ := iZ_of (xs (n + 2))
  obtain ⟨x3, hz3, e3⟩ := iZ_of (xs (n + 3))
  have hC : cI V := hR.cIb hI
  have f1 : isTo (Int.toNat (V 0 3)) := hC.1
  have f2 : isTo (Int.toNat (V 0 4)) := hC.2.1
  have f5 : 0 ≤ V (Int.toNat (V 0 3)) 9 ∧ V (Int.toNat (V 0 3)) 9 ≤ 6 := hC.2.2.2.2.1.now.2.2
  have f6 : 0 ≤ V 39 0 ∧ V 39 0 ≤ 999 := hC.2.2.2.2.2.1.1
  have f7 : 0 ≤ V 39 1 ∧ V 39 1 ≤ 5 := hC.2.2.2.2.2.1.2.1
  have f8 : 0 ≤ V 39 2 ∧ V 39 2 ≤ 8 := hC.2.2.2.2.2.1.2.2.1
  have f9 : 0 ≤ V 0 1 ∧ V 0 1 ≤ 120 := hC.2.2.2.1
  have f11 : paI V 31 := hC.2.2.2.2.2.2.1
  have f12 : ∀ q : Nat, isIm q → paI V (33 + 2 * (q - 37)) := hC.2.2.2.2.2.2.2.1
  have f14 : ∀ k : Nat, k < 4 → 0 ≤ V 40 k ∧ V 40 k ≤ 20 := hC.2.2.2.2.2.1.2.2.2.1
  have hR2 : cR V M := hR
  have hI2 : mI M := hI
  refine lv_aload_n hx hb dL_law_599 rfl (lv_at hl 2 rfl) ?_
  refine lv_aload_n hx hb dL_law_600 rfl (lv_at hl 3 rfl) ?_
  refine lv_iload_n hx hb dL_law_601 rfl (lv_at hl 0 rfl) ?_
  refine lv_iconst (v := iZ 1) hx hb dL_law_602 (by decide) ?_
  refine z_iadd (x := ii) (y := 1) hx hb dL_law_603 ?_
  refine lq_ld hx hb hX hbl hbA hS (n + 1) (by omega) (by omega) e1 (by omega) dL_law_604 ?_
  refine lv_aload_n hx hb dL_law_605 rfl (lv_at hl 3 rfl) ?_
  refine lv_iload_n hx hb dL_law_606 rfl (lv_at hl 0 rfl) ?_
  refine lv_iconst (v := iZ 2) hx hb dL_law_607 (by decide) ?_
  refine z_iadd (x := ii) (y := 2) hx hb dL_law_608 ?_
  refine lq_ld hx hb hX hbl hbA hS (n + 2) (by omega) (by omega) e2 (by omega) dL_law_609 ?_
  refine lv_aload_n hx hb dL_law_610 rfl (lv_at hl 3 rfl) ?_
  refine lv_iload_n hx hb dL_law_611 rfl (lv_at hl 0 rfl) ?_
  refine lv_iconst (v := iZ 3) hx hb dL_law_612 (by decide) ?_
  refine z_iadd (x := ii) (y := 3) hx hb dL_law_613 ?_
  refine lq_ld hx hb hX hbl hbA hS (n + 3) (by omega) (by omega) e3 (by omega) dL_law_614 ?_
  refine lq_ci (As := [.int (iZ x1), .int (iZ x2), .int (iZ x3)]) (rest := []) ⟨hx, hb, hml, hown, htsL⟩ hKc hP hNA hD hS (K_X7_call l D C a bb V x1 x2 x3 (by assumption) (by assumption) (by assumption) (by assumption) ) (cwV 3 htsL gL_law_X7_call rfl rfl rfl (by decide +kernel) ⟨Nat.le_of_ble_eq_true rfl, Nat.le_of_ble_eq_true rfl⟩) rfl rfl hl.1 (Nat.le_of_ble_eq_true rfl) ⟨Nat.le_of_ble_eq_true rfl, Nat.le_of_ble_eq_true rfl⟩ dL_law_615 ?_
  refine lv_pop hx hb dL_law_618 rfl ?_
  refine lv_aload_n hx hb dL_law_619 rfl (lv_at hl 1 rfl) ?_
  refine lv_aload_n hx hb dL_law_620 rfl (lv_at hl 3 rfl) ?_
  refine lv_iload_n hx hb dL_law_621 rfl (lv_at hl 0 rfl) ?_
  refine lv_iconst (v := iZ 1) hx hb dL_law_622 (by decide) ?_
  refine z_iadd (x := ii) (y := 1) hx hb dL_law_623 ?_
  refine lq_ld hx hb hX hbl hbA hS (n + 1) (by omega) (by omega) e1 (by omega) dL_law_624 ?_
  refine lv_aload_n hx hb dL_law_625 rfl (lv_at hl 3 rfl) ?_
  refine lv_iload_n hx hb dL_law_626 rfl (lv_at hl 0 rfl) ?_
  refine lv_iconst (v := iZ 2) hx hb dL_law_627 (by decide) ?_
  refine z_iadd (x := ii) (y := 2) hx hb dL_law_628 ?_
  refine lq_ld hx hb hX hbl hbA hS (n + 2) (by omega) (by omega) e2 (by omega) dL_law_629 ?_
  refine lv_aload_n hx hb dL_law_630 rfl (lv_at hl 3 rfl) ?_
  refine lv_iload_n hx hb dL_law_631 rfl (lv_at hl 0 rfl) ?_
  refine lv_iconst (v := iZ 3) hx hb dL_law_632 (by decide) ?_
  refine z_iadd (x := ii) (y := 3) hx hb dL_law_633 ?_
  refine lq_ld hx hb hX hbl hbA hS (n + 3) (by omega) (by omega) e3 (by omega) dL_law_634 ?_
  refine lq_mi (As := [.int (iZ x1), .int (iZ x2), .int (iZ x3)]) (rest := []) ⟨hx, hb, hml, hown, htsL⟩ hKm hPm (C_call l D C2 h2 a2 M x1 x2 x3 (by assumption) (by assumption) (by assumption) (by assumption) ) (cwV 3 htsL gL_law_X8_call rfl rfl rfl (by decide +kernel) ⟨Nat.le_of_ble_eq_true rfl, Nat.le_of_ble_eq_true rfl⟩) rfl rfl hl.1 (Nat.le_of_ble_eq_true rfl) ⟨Nat.le_of_ble_eq_true rfl, Nat.le_of_ble_eq_true rfl⟩ dL_law_635 ?_
  refine lv_pop hx hb dL_law_638 rfl ?_
  refine lv_goto (tgt := 1022) hx hb dL_law_639 (by decide) ?_
  exact kk V M H locs hR2 hI2 hP hPm hS
set_option maxHeartbeats 4000000 in
set_option maxRecDepth 100000 in
theorem q_case_16 {p : Program} {e : Env} {s : State} {m : MethodId} {below : List Frame} {meth : Method} {c : Code} (l : Launch) {b L : Nat} {xs : Nat → Int32} (C0 : lw_At p s m meth c b L xs) (hL : L ≤ 384) {D : va_G} {C : cC} {C2 : mC} (hKc : va_K D vwCl (cT C) s) (hKm : va_K D vwCl (mT C2) s) {a a2 bb : Nat → Nat} {h2 : Nat} (hNA : cNA D C (fun q : Nat => s.heap.size ≤ q) bb s) (hD0 : va_D (fun q : Nat => s.heap.size ≤ q) (cW C a cV1)) (hDm0 : va_D (fun q : Nat => s.heap.size ≤ q) (mW C2 h2 a2 mM0)) (hAA : ∀ q, mA h2 a2 q → (fun q : Nat => s.heap.size ≤ q) q) (hdj : ∀ q, cA a q → ¬ mA h2 a2 q) {V M : Nat → Nat → Int} (hR : cR V M) (hI : mI M) {ii : Int} (hii : 0 ≤ ii ∧ ii + 6 ≤ (L : Int)) {H : Heap} {locs : List Loc} (hP : va_P D vwCl (cW C a V) H) (hPm : va_P D vwCl (mW C2 h2 a2 M) H) (hS : va_S (fun q : Nat => s.heap.size ≤ q) s.heap H locs) {ls : Array Slot} (hl : lv_has ls 4 [(3, .int (iZ ii)), (2, .ref h2), (1, .ref (a 0)), (0, .ref b)]) (kk : ∀ (V M : Nat → Nat → Int) (H : Heap) (locs : List Loc), cR V M → mI M → va_P D vwCl (cW C a V) H → va_P D vwCl (mW C2 h2 a2 M) H → va_S (fun q : Nat => s.heap.size ≤ q) s.heap H locs → W p l e room_1 s m #[Value.ref b] below meth c H locs 600000 7302250 (lw_Z below #[Value.ref b] s) (F0 m 1022 ls [])) : W p l e room_1 s m #[Value.ref b] below meth c H locs 600000 7302250 (lw_Z below #[Value.ref b] s) (F0 m 642 ls []) := by
  obtain ⟨hx, hb, hr, hml, hown, hts, hX, hbl, hlocks, hgv⟩ := id C0
  have hbA : ¬ (fun q : Nat => s.heap.size ≤ q) b := Nat.not_le.mpr hbl
  have htsL : ∀ w ∈ wsL_law, w.before #[Value.ref b] s = true := fun w h => hts w (wsL_law_in w h)
  have hD : va_D (fun q : Nat => s.heap.size ≤ q) (cW C a V) := cD_re hD0
  have hDm : va_D (fun q : Nat => s.heap.size ≤ q) (mW C2 h2 a2 M) := mD_re hDm0
  obtain ⟨n, hn⟩ := Int.eq_ofNat_of_zero_le hii.1
  obtain ⟨x1, hz1, e1⟩ := iZ_of (xs (n + 1))
  obtain ⟨x2, hz2, e2⟩ := iZ_of (xs (n + 2))
  obtain ⟨x3, hz3, e3⟩ := iZ_of (xs (n + 3))
  obtain ⟨x4, hz4, e4⟩ := iZ_of (xs (n + 4))
  have hC : cI V := hR.cIb hI
  have f1 : isTo (Int.toNat (V 0 3)) := hC.1
  have f2 : isTo (Int.toNat (V 0 4)) := hC.2.1
  have f5 : 0 ≤ V (Int.toNat (V 0 3)) 9 ∧ V (Int.toNat (V 0 3)) 9 ≤ 6 := hC.2.2.2.2.1.now.2.2
  have f6 : 0 ≤ V 39 0 ∧ V 39 0 ≤ 999 := hC.2.2.2.2.2.1.1
  have f7 : 0 ≤ V 39 1 ∧ V 39 1 ≤ 5 := hC.2.2.2.2.2.1.2.1
  have f8 : 0 ≤ V 39 2 ∧ V 39 2 ≤ 8 := hC.2.2.2.2.2.1.2.2.1
  have f9 : 0 ≤ V 0 1 ∧ V 0 1 ≤ 120 := hC.2.2.2.1
  have f11 : paI V 31 := hC.2.2.2.2.2.2.1
  have f12 : ∀ q : Nat, isIm q → paI V (33 + 2 * (q - 37)) := hC.2.2.2.2.2.2.2.1
  have f14 : ∀ k : Nat, k < 4 → 0 ≤ V 40 k ∧ V 40 k ≤ 20 := hC.2.2.2.2.2.1.2.2.2.1
  have hR2 : cR V M := hR
  have hI2 : mI M := hI
  refine lv_aload_n hx hb dL_law_642 rfl (lv_at hl 2 rfl) ?_
  refine lv_aload_n hx hb dL_law_643 rfl (lv_at hl 3 rfl) ?_
  refine lv_iload_n hx hb dL_law_644 rfl (lv_at hl 0 rfl) ?_
  refine lv_iconst (v := iZ 1) hx hb dL_law_645 (by decide) ?_
  refine z_iadd (x := ii) (y := 1) hx hb dL_law_646 ?_
  refine lq_ld hx hb hX hbl hbA hS (n + 1) (by omega) (by omega) e1 (by omega) dL_law_647 ?_
  refine lv_aload_n hx hb dL_law_648 rfl (lv_at hl 3 rfl) ?_
  refine lv_iload_n hx hb dL_law_649 rfl (lv_at hl 0 rfl) ?_
  refine lv_iconst (v := iZ 2) hx hb dL_law_650 (by decide) ?_
  refine z_iadd (x := ii) (y := 2) hx hb dL_law_651 ?_
  refine lq_ld hx hb hX hbl hbA hS (n + 2) (by omega) (by omega) e2 (by omega) dL_law_652 ?_
  refine lv_aload_n hx hb dL_law_653 rfl (lv_at hl 3 rfl) ?_
  refine lv_iload_n hx hb dL_law_654 rfl (lv_at hl 0 rfl) ?_
  refine lv_iconst (v := iZ 3) hx hb dL_law_655 (by decide) ?_
  refine z_iadd (x := ii) (y := 3) hx hb dL_law_656 ?_
  refine lq_ld hx hb hX hbl hbA hS (n + 3) (by omega) (by omega) e3 (by omega) dL_law_657 ?_
  refine lv_aload_n hx hb dL_law_658 rfl (lv_at hl 3 rfl) ?_
  refine lv_iload_n hx hb dL_law_659 rfl (lv_at hl 0 rfl) ?_
  refine lv_iconst (v := iZ 4) hx hb dL_law_660 (by decide) ?_
  refine z_iadd (x := ii) (y := 4) hx hb dL_law_661 ?_
  refine lq_ld hx hb hX hbl hbA hS (n + 4) (by omega) (by omega) e4 (by omega) dL_law_662 ?_
  refine lq_ci (As := [.int (iZ x1), .int (iZ x2), .int (iZ x3), .int (iZ x4)]) (rest := []) ⟨hx, hb, hml, hown, htsL⟩ hKc hP hNA hD hS (K_X7_waits l D C a bb V x1 x2 x3 x4 (by assumption) (by assumption) (by assumption) (by assumption) (by assumption) ) (cwV 4 htsL gL_law_X7_waits rfl rfl rfl (by decide +kernel) ⟨Nat.le_of_ble_eq_true rfl, Nat.le_of_ble_eq_true rfl⟩) rfl rfl hl.1 (Nat.le_of_ble_eq_true rfl) ⟨Nat.le_of_ble_eq_true rfl, Nat.le_of_ble_eq_true rfl⟩ dL_law_663 ?_
  refine lv_pop hx hb dL_law_666 rfl ?_
  refine lv_aload_n hx hb dL_law_667 rfl (lv_at hl 1 rfl) ?_
  refine lv_aload_n hx hb dL_law_668 rfl (lv_at hl 3 rfl) ?_
  refine lv_iload_n hx hb dL_law_669 rfl (lv_at hl 0 rfl) ?_
  refine lv_iconst (v := iZ 1) hx hb dL_law_670 (by decide) ?_
  refine z_iadd (x := ii) (y := 1) hx hb dL_law_671 ?_
  refine lq_ld hx hb hX hbl hbA hS (n + 1) (by omega) (by omega) e1 (by omega) dL_law_672 ?_
  refine lv_aload_n hx hb dL_law_673 rfl (lv_at hl 3 rfl) ?_
  refine lv_iload_n hx hb dL_law_674 rfl (lv_at hl 0 rfl) ?_
  refine lv_iconst (v := iZ 2) hx hb dL_law_675 (by decide) ?_
  refine z_iadd (x := ii) (y := 2) hx hb dL_law_676 ?_
  refine lq_ld hx hb hX hbl hbA hS (n + 2) (by omega) (by omega) e2 (by omega) dL_law_677 ?_
  refine lv_aload_n hx hb dL_law_678 rfl (lv_at hl 3 rfl) ?_
  refine lv_iload_n hx hb dL_law_679 rfl (lv_at hl 0 rfl) ?_
  refine lv_iconst (v := iZ 3) hx hb dL_law_680 (by decide) ?_
  refine z_iadd (x := ii) (y := 3) hx hb dL_law_681 ?_
  refine lq_ld hx hb hX hbl hbA hS (n + 3) (by omega) (by omega) e3 (by omega) dL_law_682 ?_
  refine lv_aload_n hx hb dL_law_683 rfl (lv_at hl 3 rfl) ?_
  refine lv_iload_n hx hb dL_law_684 rfl (lv_at hl 0 rfl) ?_
  refine lv_iconst (v := iZ 4) hx hb dL_law_685 (by decide) ?_
  refine z_iadd (x := ii) (y := 4) hx hb dL_law_686 ?_
  refine lq_ld hx hb hX hbl hbA hS (n + 4) (by omega) (by omega) e4 (by omega) dL_law_687 ?_
  refine lq_mi (As := [.int (iZ x1), .int (iZ x2), .int (iZ x3), .int (iZ x4)]) (rest := []) ⟨hx, hb, hml, hown, htsL⟩ hKm hPm (C_waits l D C2 h2 a2 M x1 x2 x3 x4 (by assumption) (by assumption) (by assumption) (by assumption) (by assumption) ) (cwV 4 htsL gL_law_X8_waits rfl rfl rfl (by decide +kernel) ⟨Nat.le_of_ble_eq_true rfl, Nat.le_of_ble_eq_true rfl⟩) rfl rfl hl.1 (Nat.le_of_ble_eq_true rfl) ⟨Nat.le_of_ble_eq_true rfl, Nat.le_of_ble_eq_true rfl⟩ dL_law_688 ?_
  refine lv_pop hx hb dL_law_691 rfl ?_
  refine lv_goto (tgt := 1022) hx hb dL_law_692 (by decide) ?_
  exact kk V M H locs hR2 hI2 hP hPm hS
set_option maxHeartbeats 4000000 in
set_option maxRecDepth 100000 in
theorem q_case_17 {p : Program} {e : Env} {s : State} {m : MethodId} {below : List Frame} {meth : Method} {c : Code} (l : Launch) {b L : Nat} {xs : Nat → Int32} (C0 : lw_At p s m meth c b L xs) (hL : L ≤ 384) {D : va_G} {C : cC} {C2 : mC} (hKc : va_K D vwCl (cT C) s) (hKm : va_K D vwCl (mT C2) s) {a a2 bb : Nat → Nat} {h2 : Nat} (hNA : cNA D C (fun q : Nat => s.heap.size ≤ q) bb s) (hD0 : va_D (fun q : Nat => s.heap.size ≤ q) (cW C a cV1)) (hDm0 : va_D (fun q : Nat => s.heap.size ≤ q) (mW C2 h2 a2 mM0)) (hAA : ∀ q, mA h2 a2 q → (fun q : Nat => s.heap.size ≤ q) q) (hdj : ∀ q, cA a q → ¬ mA h2 a2 q) {V M : Nat → Nat → Int} (hR : cR V M) (hI : mI M) {ii : Int} (hii : 0 ≤ ii ∧ ii + 6 ≤ (L : Int)) {H : Heap} {locs : List Loc} (hP : va_P D vwCl (cW C a V) H) (hPm : va_P D vwCl (mW C2 h2 a2 M) H) (hS : va_S (fun q : Nat => s.heap.size ≤ q) s.heap H locs) {ls : Array Slot} (hl : lv_has ls 4 [(3, .int (iZ ii)), (2, .ref h2), (1, .ref (a 0)), (0, .ref b)]) (kk : ∀ (V M : Nat → Nat → Int) (H : Heap) (locs : List Loc), cR V M → mI M → va_P D vwCl (cW C a V) H → va_P D vwCl (mW C2 h2 a2 M) H → va_S (fun q : Nat => s.heap.size ≤ q) s.heap H locs → W p l e room_1 s m #[Value.ref b] below meth c H locs 600000 7302250 (lw_Z below #[Value.ref b] s) (F0 m 1022 ls [])) : W p l e room_1 s m #[Value.ref b] below meth c H locs 600000 7302250 (lw_Z below #[Value.ref b] s) (F0 m 695 ls []) := by
  obtain ⟨hx, hb, hr, hml, hown, hts, hX, hbl, hlocks, hgv⟩ := id C0
  have hbA : ¬ (fun q : Nat => s.heap.size ≤ q) b := Nat.not_le.mpr hbl
  have htsL : ∀ w ∈ wsL_law, w.before #[Value.ref b] s = true := fun w h => hts w (wsL_law_in w h)
  have hD : va_D (fun q : Nat => s.heap.size ≤ q) (cW C a V) := cD_re hD0
  have hDm : va_D (fun q : Nat => s.heap.size ≤ q) (mW C2 h2 a2 M) := mD_re hDm0
  obtain ⟨n, hn⟩ := Int.eq_ofNat_of_zero_le hii.1
  obtain ⟨x1, hz1, e1⟩ := iZ_of (xs (n + 1))
  obtain ⟨x2, hz2, e2⟩ := iZ_of (xs (n + 2))
  obtain ⟨x3, hz3, e3⟩ := iZ_of (xs (n + 3))
  have hC : cI V := hR.cIb hI
  have f1 : isTo (Int.toNat (V 0 3)) := hC.1
  have f2 : isTo (Int.toNat (V 0 4)) := hC.2.1
  have f5 : 0 ≤ V (Int.toNat (V 0 3)) 9 ∧ V (Int.toNat (V 0 3)) 9 ≤ 6 := hC.2.2.2.2.1.now.2.2
  have f6 : 0 ≤ V 39 0 ∧ V 39 0 ≤ 999 := hC.2.2.2.2.2.1.1
  have f7 : 0 ≤ V 39 1 ∧ V 39 1 ≤ 5 := hC.2.2.2.2.2.1.2.1
  have f8 : 0 ≤ V 39 2 ∧ V 39 2 ≤ 8 := hC.2.2.2.2.2.1.2.2.1
  have f9 : 0 ≤ V 0 1 ∧ V 0 1 ≤ 120 := hC.2.2.2.1
  have f11 : paI V 31 := hC.2.2.2.2.2.2.1
  have f12 : ∀ q : Nat, isIm q → paI V (33 + 2 * (q - 37)) := hC.2.2.2.2.2.2.2.1
  have f14 : ∀ k : Nat, k < 4 → 0 ≤ V 40 k ∧ V 40 k ≤ 20 := hC.2.2.2.2.2.1.2.2.2.1
  have hR2 := R_relayS hI hR x1 x2 x3
  have hI2 := mI_relay hI x1 x2 x3
  refine lv_aload_n hx hb dL_law_695 rfl (lv_at hl 2 rfl) ?_
  refine lv_aload_n hx hb dL_law_696 rfl (lv_at hl 3 rfl) ?_
  refine lv_iload_n hx hb dL_law_697 rfl (lv_at hl 0 rfl) ?_
  refine lv_iconst (v := iZ 1) hx hb dL_law_698 (by decide) ?_
  refine z_iadd (x := ii) (y := 1) hx hb dL_law_699 ?_
  refine lq_ld hx hb hX hbl hbA hS (n + 1) (by omega) (by omega) e1 (by omega) dL_law_700 ?_
  refine lv_aload_n hx hb dL_law_701 rfl (lv_at hl 3 rfl) ?_
  refine lv_iload_n hx hb dL_law_702 rfl (lv_at hl 0 rfl) ?_
  refine lv_iconst (v := iZ 2) hx hb dL_law_703 (by decide) ?_
  refine z_iadd (x := ii) (y := 2) hx hb dL_law_704 ?_
  refine lq_ld hx hb hX hbl hbA hS (n + 2) (by omega) (by omega) e2 (by omega) dL_law_705 ?_
  refine lv_aload_n hx hb dL_law_706 rfl (lv_at hl 3 rfl) ?_
  refine lv_iload_n hx hb dL_law_707 rfl (lv_at hl 0 rfl) ?_
  refine lv_iconst (v := iZ 3) hx hb dL_law_708 (by decide) ?_
  refine z_iadd (x := ii) (y := 3) hx hb dL_law_709 ?_
  refine lq_ld hx hb hX hbl hbA hS (n + 3) (by omega) (by omega) e3 (by omega) dL_law_710 ?_
  refine lq_cm (As := [.int (iZ x1), .int (iZ x2), .int (iZ x3)]) (rest := []) ⟨hx, hb, hml, hown, htsL⟩ hKc hP hNA hD hS (K_X7_relay l D C a bb V x1 x2 x3 (by assumption) (by assumption) (by assumption) (by assumption) (hD.weaken (fun _ _ _ _ => trivial))) (cwV 3 htsL gL_law_X7_relay rfl rfl rfl (by decide +kernel) ⟨Nat.le_of_ble_eq_true rfl, Nat.le_of_ble_eq_true rfl⟩) rfl rfl hl.1 (Nat.le_of_ble_eq_true rfl) ⟨Nat.le_of_ble_eq_true rfl, Nat.le_of_ble_eq_true rfl⟩ dL_law_711 (fun H locs hP9 hD9 hS9 hk9 => ?_)
  replace hPm : va_P D vwCl (mW C2 h2 a2 M) H := hPm.kept (fun k q hq => hk9 q.1 (hPm k q hq).lt (fun z => hdj _ z (mA_mem k q hq)))
  replace hP := hP9
  replace hD := hD9
  replace hS := hS9
  clear hk9
  refine lv_pop hx hb dL_law_714 rfl ?_
  refine lv_aload_n hx hb dL_law_715 rfl (lv_at hl 1 rfl) ?_
  refine lv_aload_n hx hb dL_law_716 rfl (lv_at hl 3 rfl) ?_
  refine lv_iload_n hx hb dL_law_717 rfl (lv_at hl 0 rfl) ?_
  refine lv_iconst (v := iZ 1) hx hb dL_law_718 (by decide) ?_
  refine z_iadd (x := ii) (y := 1) hx hb dL_law_719 ?_
  refine lq_ld hx hb hX hbl hbA hS (n + 1) (by omega) (by omega) e1 (by omega) dL_law_720 ?_
  refine lv_aload_n hx hb dL_law_721 rfl (lv_at hl 3 rfl) ?_
  refine lv_iload_n hx hb dL_law_722 rfl (lv_at hl 0 rfl) ?_
  refine lv_iconst (v := iZ 2) hx hb dL_law_723 (by decide) ?_
  refine z_iadd (x := ii) (y := 2) hx hb dL_law_724 ?_
  refine lq_ld hx hb hX hbl hbA hS (n + 2) (by omega) (by omega) e2 (by omega) dL_law_725 ?_
  refine lv_aload_n hx hb dL_law_726 rfl (lv_at hl 3 rfl) ?_
  refine lv_iload_n hx hb dL_law_727 rfl (lv_at hl 0 rfl) ?_
  refine lv_iconst (v := iZ 3) hx hb dL_law_728 (by decide) ?_
  refine z_iadd (x := ii) (y := 3) hx hb dL_law_729 ?_
  refine lq_ld hx hb hX hbl hbA hS (n + 3) (by omega) (by omega) e3 (by omega) dL_law_730 ?_
  refine lq_mm (As := [.int (iZ x1), .int (iZ x2), .int (iZ x3)]) (rest := []) ⟨hx, hb, hml, hown, htsL⟩ hKm hPm hDm hS hAA (C_relay l D C2 h2 a2 M x1 x2 x3 (by assumption) (by assumption) (by assumption) (by assumption) (hDm.weaken (fun _ _ _ _ => trivial))) (cwV 3 htsL gL_law_X8_relay rfl rfl rfl (by decide +kernel) ⟨Nat.le_of_ble_eq_true rfl, Nat.le_of_ble_eq_true rfl⟩) rfl rfl hl.1 (Nat.le_of_ble_eq_true rfl) ⟨Nat.le_of_ble_eq_true rfl, Nat.le_of_ble_eq_true rfl⟩ dL_law_731 (fun H locs hP9 hD9 hS9 hk9 => ?_)
  replace hP : va_P D vwCl (cW C a (if c_rok V x1 x2 x3 then f_cs V x1 x2 else V)) H := hP.kept (fun k q hq => hk9 q.1 (hP k q hq).lt (fun z => hdj _ (cA_mem k q hq) z))
  replace hPm := hP9
  replace hS := hS9
  clear hk9
  refine lv_pop hx hb dL_law_734 rfl ?_
  refine lv_goto (tgt := 1022) hx hb dL_law_735 (by decide) ?_
  exact kk (if c_rok V x1 x2 x3 then f_cs V x1 x2 else V) (f_relay M x1 x2 x3) H locs hR2 hI2 hP hPm hS
set_option maxHeartbeats 4000000 in
set_option maxRecDepth 100000 in
theorem q_case_18 {p : Program} {e : Env} {s : State} {m : MethodId} {below : List Frame} {meth : Method} {c : Code} (l : Launch) {b L : Nat} {xs : Nat → Int32} (C0 : lw_At p s m meth c b L xs) (hL : L ≤ 384) {D : va_G} {C : cC} {C2 : mC} (hKc : va_K D vwCl (cT C) s) (hKm : va_K D vwCl (mT C2) s) {a a2 bb : Nat → Nat} {h2 : Nat} (hNA : cNA D C (fun q : Nat => s.heap.size ≤ q) bb s) (hD0 : va_D (fun q : Nat => s.heap.size ≤ q) (cW C a cV1)) (hDm0 : va_D (fun q : Nat => s.heap.size ≤ q) (mW C2 h2 a2 mM0)) (hAA : ∀ q, mA h2 a2 q → (fun q : Nat => s.heap.size ≤ q) q) (hdj : ∀ q, cA a q → ¬ mA h2 a2 q) {V M : Nat → Nat → Int} (hR : cR V M) (hI : mI M) {ii : Int} (hii : 0 ≤ ii ∧ ii + 6 ≤ (L : Int)) {H : Heap} {locs : List Loc} (hP : va_P D vwCl (cW C a V) H) (hPm : va_P D vwCl (mW C2 h2 a2 M) H) (hS : va_S (fun q : Nat => s.heap.size ≤ q) s.heap H locs) {ls : Array Slot} (hl : lv_has ls 4 [(3, .int (iZ ii)), (2, .ref h2), (1, .ref (a 0)), (0, .ref b)]) (kk : ∀ (V M : Nat → Nat → Int) (H : Heap) (locs : List Loc), cR V M → mI M → va_P D vwCl (cW C a V) H → va_P D vwCl (mW C2 h2 a2 M) H → va_S (fun q : Nat => s.heap.size ≤ q) s.heap H locs → W p l e room_1 s m #[Value.ref b] below meth c H locs 600000 7302250 (lw_Z below #[Value.ref b] s) (F0 m 1022 ls [])) : W p l e room_1 s m #[Value.ref b] below meth c H locs 600000 7302250 (lw_Z below #[Value.ref b] s) (F0 m 738 ls []) := by
  obtain ⟨hx, hb, hr, hml, hown, hts, hX, hbl, hlocks, hgv⟩ := id C0
  have hbA : ¬ (fun q : Nat => s.heap.size ≤ q) b := Nat.not_le.mpr hbl
  have htsL : ∀ w ∈ wsL_law, w.before #[Value.ref b] s = true := fun w h => hts w (wsL_law_in w h)
  have hD : va_D (fun q : Nat => s.heap.size ≤ q) (cW C a V) := cD_re hD0
  have hDm : va_D (fun q : Nat => s.heap.size ≤ q) (mW C2 h2 a2 M) := mD_re hDm0
  obtain ⟨n, hn⟩ := Int.eq_ofNat_of_zero_le hii.1
  obtain ⟨x1, hz1, e1⟩ := iZ_of (xs (n + 1))
  obtain ⟨x2, hz2, e2⟩ := iZ_of (xs (n + 2))
  have hC : cI V := hR.cIb hI
  have f1 : isTo (Int.toNat (V 0 3)) := hC.1
  have f2 : isTo (Int.toNat (V 0 4)) := hC.2.1
  have f5 : 0 ≤ V (Int.toNat (V 0 3)) 9 ∧ V (Int.toNat (V 0 3)) 9 ≤ 6 := hC.2.2.2.2.1.now.2.2
  have f6 : 0 ≤ V 39 0 ∧ V 39 0 ≤ 999 := hC.2.2.2.2.2.1.1
  have f7 : 0 ≤ V 39 1 ∧ V 39 1 ≤ 5 := hC.2.2.2.2.2.1.2.1
  have f8 : 0 ≤ V 39 2 ∧ V 39 2 ≤ 8 := hC.2.2.2.2.2.1.2.2.1
  have f9 : 0 ≤ V 0 1 ∧ V 0 1 ≤ 120 := hC.2.2.2.1
  have f11 : paI V 31 := hC.2.2.2.2.2.2.1
  have f12 : ∀ q : Nat, isIm q → paI V (33 + 2 * (q - 37)) := hC.2.2.2.2.2.2.2.1
  have f14 : ∀ k : Nat, k < 4 → 0 ≤ V 40 k ∧ V 40 k ≤ 20 := hC.2.2.2.2.2.1.2.2.2.1
  have hR2 := R_allotS hI hR x1 x2
  have hI2 := mI_allot hI x1 x2
  refine lv_aload_n hx hb dL_law_738 rfl (lv_at hl 2 rfl) ?_
  refine lv_aload_n hx hb dL_law_739 rfl (lv_at hl 3 rfl) ?_
  refine lv_iload_n hx hb dL_law_740 rfl (lv_at hl 0 rfl) ?_
  refine lv_iconst (v := iZ 1) hx hb dL_law_741 (by decide) ?_
  refine z_iadd (x := ii) (y := 1) hx hb dL_law_742 ?_
  refine lq_ld hx hb hX hbl hbA hS (n + 1) (by omega) (by omega) e1 (by omega) dL_law_743 ?_
  refine lv_aload_n hx hb dL_law_744 rfl (lv_at hl 3 rfl) ?_
  refine lv_iload_n hx hb dL_law_745 rfl (lv_at hl 0 rfl) ?_
  refine lv_iconst (v := iZ 2) hx hb dL_law_746 (by decide) ?_
  refine z_iadd (x := ii) (y := 2) hx hb dL_law_747 ?_
  refine lq_ld hx hb hX hbl hbA hS (n + 2) (by omega) (by omega) e2 (by omega) dL_law_748 ?_
  refine lq_cm (As := [.int (iZ x1), .int (iZ x2)]) (rest := []) ⟨hx, hb, hml, hown, htsL⟩ hKc hP hNA hD hS (K_X7_allot l D C a bb V x1 x2 (by assumption) (by assumption) (by assumption) (hD.weaken (fun _ _ _ _ => trivial))) (cwV 2 htsL gL_law_X7_allot rfl rfl rfl (by decide +kernel) ⟨Nat.le_of_ble_eq_true rfl, Nat.le_of_ble_eq_true rfl⟩) rfl rfl hl.1 (Nat.le_of_ble_eq_true rfl) ⟨Nat.le_of_ble_eq_true rfl, Nat.le_of_ble_eq_true rfl⟩ dL_law_749 (fun H locs hP9 hD9 hS9 hk9 => ?_)
  replace hPm : va_P D vwCl (mW C2 h2 a2 M) H := hPm.kept (fun k q hq => hk9 q.1 (hPm k q hq).lt (fun z => hdj _ z (mA_mem k q hq)))
  replace hP := hP9
  replace hD := hD9
  replace hS := hS9
  clear hk9
  refine lv_pop hx hb dL_law_752 rfl ?_
  refine lv_aload_n hx hb dL_law_753 rfl (lv_at hl 1 rfl) ?_
  refine lv_aload_n hx hb dL_law_754 rfl (lv_at hl 3 rfl) ?_
  refine lv_iload_n hx hb dL_law_755 rfl (lv_at hl 0 rfl) ?_
  refine lv_iconst (v := iZ 1) hx hb dL_law_756 (by decide) ?_
  refine z_iadd (x := ii) (y := 1) hx hb dL_law_757 ?_
  refine lq_ld hx hb hX hbl hbA hS (n + 1) (by omega) (by omega) e1 (by omega) dL_law_758 ?_
  refine lv_aload_n hx hb dL_law_759 rfl (lv_at hl 3 rfl) ?_
  refine lv_iload_n hx hb dL_law_760 rfl (lv_at hl 0 rfl) ?_
  refine lv_iconst (v := iZ 2) hx hb dL_law_761 (by decide) ?_
  refine z_iadd (x := ii) (y := 2) hx hb dL_law_762 ?_
  refine lq_ld hx hb hX hbl hbA hS (n + 2) (by omega) (by omega) e2 (by omega) dL_law_763 ?_
  refine lq_mm (As := [.int (iZ x1), .int (iZ x2)]) (rest := []) ⟨hx, hb, hml, hown, htsL⟩ hKm hPm hDm hS hAA (C_allot l D C2 h2 a2 M x1 x2 (by assumption) (by assumption) (by assumption) (hDm.weaken (fun _ _ _ _ => trivial))) (cwV 2 htsL gL_law_X8_allot rfl rfl rfl (by decide +kernel) ⟨Nat.le_of_ble_eq_true rfl, Nat.le_of_ble_eq_true rfl⟩) rfl rfl hl.1 (Nat.le_of_ble_eq_true rfl) ⟨Nat.le_of_ble_eq_true rfl, Nat.le_of_ble_eq_true rfl⟩ dL_law_764 (fun H locs hP9 hD9 hS9 hk9 => ?_)
  replace hP : va_P D vwCl (cW C a (f_alt V x1 x2)) H := hP.kept (fun k q hq => hk9 q.1 (hP k q hq).lt (fun z => hdj _ (cA_mem k q hq) z))
  replace hPm := hP9
  replace hS := hS9
  clear hk9
  refine lv_pop hx hb dL_law_767 rfl ?_
  refine lv_goto (tgt := 1022) hx hb dL_law_768 (by decide) ?_
  exact kk (f_alt V x1 x2) (f_allot M x1 x2) H locs hR2 hI2 hP hPm hS
set_option maxHeartbeats 4000000 in
set_option maxRecDepth 100000 in
theorem q_case_19 {p : Program} {e : Env} {s : State} {m : MethodId} {below : List Frame} {meth : Method} {c : Code} (l : Launch) {b L : Nat} {xs : Nat → Int32} (C0 : lw_At p s m meth c b L xs) (hL : L ≤ 384) {D : va_G} {C : cC} {C2 : mC} (hKc : va_K D vwCl (cT C) s) (hKm : va_K D vwCl (mT C2) s) {a a2 bb : Nat → Nat} {h2 : Nat} (hNA : cNA D C (fun q : Nat => s.heap.size ≤ q) bb s) (hD0 : va_D (fun q : Nat => s.heap.size ≤ q) (cW C a cV1)) (hDm0 : va_D (fun q : Nat => s.heap.size ≤ q) (mW C2 h2 a2 mM0)) (hAA : ∀ q, mA h2 a2 q → (fun q : Nat => s.heap.size ≤ q) q) (hdj : ∀ q, cA a q → ¬ mA h2 a2 q) {V M : Nat → Nat → Int} (hR : cR V M) (hI : mI M) {ii : Int} (hii : 0 ≤ ii ∧ ii + 6 ≤ (L : Int)) {H : Heap} {locs : List Loc} (hP : va_P D vwCl (cW C a V) H) (hPm : va_P D vwCl (mW C2 h2 a2 M) H) (hS : va_S (fun q : Nat => s.heap.size ≤ q) s.heap H locs) {ls : Array Slot} (hl : lv_has ls 4 [(3, .int (iZ ii)), (2, .ref h2), (1, .ref (a 0)), (0, .ref b)]) (kk : ∀ (V M : Nat → Nat → Int) (H : Heap) (locs : List Loc), cR V M → mI M → va_P D vwCl (cW C a V) H → va_P D vwCl (mW C2 h2 a2 M) H → va_S (fun q : Nat => s.heap.size ≤ q) s.heap H locs → W p l e room_1 s m #[Value.ref b] below meth c H locs 600000 7302250 (lw_Z below #[Value.ref b] s) (F0 m 1022 ls [])) : W p l e room_1 s m #[Value.ref b] below meth c H locs 600000 7302250 (lw_Z below #[Value.ref b] s) (F0 m 771 ls []) := by
  obtain ⟨hx, hb, hr, hml, hown, hts, hX, hbl, hlocks, hgv⟩ := id C0
  have hbA : ¬ (fun q : Nat => s.heap.size ≤ q) b := Nat.not_le.mpr hbl
  have htsL : ∀ w ∈ wsL_law, w.before #[Value.ref b] s = true := fun w h => hts w (wsL_law_in w h)
  have hD : va_D (fun q : Nat => s.heap.size ≤ q) (cW C a V) := cD_re hD0
  have hDm : va_D (fun q : Nat => s.heap.size ≤ q) (mW C2 h2 a2 M) := mD_re hDm0
  obtain ⟨n, hn⟩ := Int.eq_ofNat_of_zero_le hii.1
  obtain ⟨x1, hz1, e1⟩ := iZ_of (xs (n + 1))
  obtain ⟨x2, hz2, e2⟩ := iZ_of (xs (n + 2))
  obtain ⟨x3, hz3, e3⟩ := iZ_of (xs (n + 3))
  obtain ⟨x4, hz4, e4⟩ := iZ_of (xs (n + 4))
  obtain ⟨x5, hz5, e5⟩ := iZ_of (xs (n + 5))
  have hC : cI V := hR.cIb hI
  have f1 : isTo (Int.toNat (V 0 3)) := hC.1
  have f2 : isTo (Int.toNat (V 0 4)) := hC.2.1
  have f5 : 0 ≤ V (Int.toNat (V 0 3)) 9 ∧ V (Int.toNat (V 0 3)) 9 ≤ 6 := hC.2.2.2.2.1.now.2.2
  have f6 : 0 ≤ V 39 0 ∧ V 39 0 ≤ 999 := hC.2.2.2.2.2.1.1
  have f7 : 0 ≤ V 39 1 ∧ V 39 1 ≤ 5 := hC.2.2.2.2.2.1.2.1
  have f8 : 0 ≤ V 39 2 ∧ V 39 2 ≤ 8 := hC.2.2.2.2.2.1.2.2.1
  have f9 : 0 ≤ V 0 1 ∧ V 0 1 ≤ 120 := hC.2.2.2.1
  have f11 : paI V 31 := hC.2.2.2.2.2.2.1
  have f12 : ∀ q : Nat, isIm q → paI V (33 + 2 * (q - 37)) := hC.2.2.2.2.2.2.2.1
  have f14 : ∀ k : Nat, k < 4 → 0 ≤ V 40 k ∧ V 40 k ≤ 20 := hC.2.2.2.2.2.1.2.2.2.1
  have hR2 : cR V M := hR
  have hI2 : mI M := hI
  refine lv_aload_n hx hb dL_law_771 rfl (lv_at hl 2 rfl) ?_
  refine lv_aload_n hx hb dL_law_772 rfl (lv_at hl 3 rfl) ?_
  refine lv_iload_n hx hb dL_law_773 rfl (lv_at hl 0 rfl) ?_
  refine lv_iconst (v := iZ 1) hx hb dL_law_774 (by decide) ?_
  refine z_iadd (x := ii) (y := 1) hx hb dL_law_775 ?_
  refine lq_ld hx hb hX hbl hbA hS (n + 1) (by omega) (by omega) e1 (by omega) dL_law_776 ?_
  refine lv_aload_n hx hb dL_law_777 rfl (lv_at hl 3 rfl) ?_
  refine lv_iload_n hx hb dL_law_778 rfl (lv_at hl 0 rfl) ?_
  refine lv_iconst (v := iZ 2) hx hb dL_law_779 (by decide) ?_
  refine z_iadd (x := ii) (y := 2) hx hb dL_law_780 ?_
  refine lq_ld hx hb hX hbl hbA hS (n + 2) (by omega) (by omega) e2 (by omega) dL_law_781 ?_
  refine lv_aload_n hx hb dL_law_782 rfl (lv_at hl 3 rfl) ?_
  refine lv_iload_n hx hb dL_law_783 rfl (lv_at hl 0 rfl) ?_
  refine lv_iconst (v := iZ 3) hx hb dL_law_784 (by decide) ?_
  refine z_iadd (x := ii) (y := 3) hx hb dL_law_785 ?_
  refine lq_ld hx hb hX hbl hbA hS (n + 3) (by omega) (by omega) e3 (by omega) dL_law_786 ?_
  refine lv_aload_n hx hb dL_law_787 rfl (lv_at hl 3 rfl) ?_
  refine lv_iload_n hx hb dL_law_788 rfl (lv_at hl 0 rfl) ?_
  refine lv_iconst (v := iZ 4) hx hb dL_law_789 (by decide) ?_
  refine z_iadd (x := ii) (y := 4) hx hb dL_law_790 ?_
  refine lq_ld hx hb hX hbl hbA hS (n + 4) (by omega) (by omega) e4 (by omega) dL_law_791 ?_
  refine lv_aload_n hx hb dL_law_792 rfl (lv_at hl 3 rfl) ?_
  refine lv_iload_n hx hb dL_law_793 rfl (lv_at hl 0 rfl) ?_
  refine lv_iconst (v := iZ 5) hx hb dL_law_794 (by decide) ?_
  refine z_iadd (x := ii) (y := 5) hx hb dL_law_795 ?_
  refine lq_ld hx hb hX hbl hbA hS (n + 5) (by omega) (by omega) e5 (by omega) dL_law_796 ?_
  refine lq_ci (As := [.int (iZ x1), .int (iZ x2), .int (iZ x3), .int (iZ x4), .int (iZ x5)]) (rest := []) ⟨hx, hb, hml, hown, htsL⟩ hKc hP hNA hD hS (K_X7_odds l D C a bb V x1 x2 x3 x4 x5 (by assumption) (by assumption) (by assumption) (by assumption) (by assumption) (by assumption) ) (cwV 5 htsL gL_law_X7_odds rfl rfl rfl (by decide +kernel) ⟨Nat.le_of_ble_eq_true rfl, Nat.le_of_ble_eq_true rfl⟩) rfl rfl hl.1 (Nat.le_of_ble_eq_true rfl) ⟨Nat.le_of_ble_eq_true rfl, Nat.le_of_ble_eq_true rfl⟩ dL_law_797 ?_
  refine lv_pop hx hb dL_law_800 rfl ?_
  refine lv_aload_n hx hb dL_law_801 rfl (lv_at hl 1 rfl) ?_
  refine lv_aload_n hx hb dL_law_802 rfl (lv_at hl 3 rfl) ?_
  refine lv_iload_n hx hb dL_law_803 rfl (lv_at hl 0 rfl) ?_
  refine lv_iconst (v := iZ 1) hx hb dL_law_804 (by decide) ?_
  refine z_iadd (x := ii) (y := 1) hx hb dL_law_805 ?_
  refine lq_ld hx hb hX hbl hbA hS (n + 1) (by omega) (by omega) e1 (by omega) dL_law_806 ?_
  refine lv_aload_n hx hb dL_law_807 rfl (lv_at hl 3 rfl) ?_
  refine lv_iload_n hx hb dL_law_808 rfl (lv_at hl 0 rfl) ?_
  refine lv_iconst (v := iZ 2) hx hb dL_law_809 (by decide) ?_
  refine z_iadd (x := ii) (y := 2) hx hb dL_law_810 ?_
  refine lq_ld hx hb hX hbl hbA hS (n + 2) (by omega) (by omega) e2 (by omega) dL_law_811 ?_
  refine lv_aload_n hx hb dL_law_812 rfl (lv_at hl 3 rfl) ?_
  refine lv_iload_n hx hb dL_law_813 rfl (lv_at hl 0 rfl) ?_
  refine lv_iconst (v := iZ 3) hx hb dL_law_814 (by decide) ?_
  refine z_iadd (x := ii) (y := 3) hx hb dL_law_815 ?_
  refine lq_ld hx hb hX hbl hbA hS (n + 3) (by omega) (by omega) e3 (by omega) dL_law_816 ?_
  refine lv_aload_n hx hb dL_law_817 rfl (lv_at hl 3 rfl) ?_
  refine lv_iload_n hx hb dL_law_818 rfl (lv_at hl 0 rfl) ?_
  refine lv_iconst (v := iZ 4) hx hb dL_law_819 (by decide) ?_
  refine z_iadd (x := ii) (y := 4) hx hb dL_law_820 ?_
  refine lq_ld hx hb hX hbl hbA hS (n + 4) (by omega) (by omega) e4 (by omega) dL_law_821 ?_
  refine lv_aload_n hx hb dL_law_822 rfl (lv_at hl 3 rfl) ?_
  refine lv_iload_n hx hb dL_law_823 rfl (lv_at hl 0 rfl) ?_
  refine lv_iconst (v := iZ 5) hx hb dL_law_824 (by decide) ?_
  refine z_iadd (x := ii) (y := 5) hx hb dL_law_825 ?_
  refine lq_ld hx hb hX hbl hbA hS (n + 5) (by omega) (by omega) e5 (by omega) dL_law_826 ?_
  refine lq_mi (As := [.int (iZ x1), .int (iZ x2), .int (iZ x3), .int (iZ x4), .int (iZ x5)]) (rest := []) ⟨hx, hb, hml, hown, htsL⟩ hKm hPm (C_odds l D C2 h2 a2 M x1 x2 x3 x4 x5 (by assumption) (by assumption) (by assumption) (by assumption) (by assumption) (by assumption) ) (cwV 5 htsL gL_law_X8_odds rfl rfl rfl (by decide +kernel) ⟨Nat.le_of_ble_eq_true rfl, Nat.le_of_ble_eq_true rfl⟩) rfl rfl hl.1 (Nat.le_of_ble_eq_true rfl) ⟨Nat.le_of_ble_eq_true rfl, Nat.le_of_ble_eq_true rfl⟩ dL_law_827 ?_
  refine lv_pop hx hb dL_law_830 rfl ?_
  refine lv_goto (tgt := 1022) hx hb dL_law_831 (by decide) ?_
  exact kk V M H locs hR2 hI2 hP hPm hS
set_option maxHeartbeats 4000000 in
set_option maxRecDepth 100000 in
theorem q_case_20 {p : Program} {e : Env} {s : State} {m : MethodId} {below : List Frame} {meth : Method} {c : Code} (l : Launch) {b L : Nat} {xs : Nat → Int32} (C0 : lw_At p s m meth c b L xs) (hL : L ≤ 384) {D : va_G} {C : cC} {C2 : mC} (hKc : va_K D vwCl (cT C) s) (hKm : va_K D vwCl (mT C2) s) {a a2 bb : Nat → Nat} {h2 : Nat} (hNA : cNA D C (fun q : Nat => s.heap.size ≤ q) bb s) (hD0 : va_D (fun q : Nat => s.heap.size ≤ q) (cW C a cV1)) (hDm0 : va_D (fun q : Nat => s.heap.size ≤ q) (mW C2 h2 a2 mM0)) (hAA : ∀ q, mA h2 a2 q → (fun q : Nat => s.heap.size ≤ q) q) (hdj : ∀ q, cA a q → ¬ mA h2 a2 q) {V M : Nat → Nat → Int} (hR : cR V M) (hI : mI M) {ii : Int} (hii : 0 ≤ ii ∧ ii + 6 ≤ (L : Int)) {H : Heap} {locs : List Loc} (hP : va_P D vwCl (cW C a V) H) (hPm : va_P D vwCl (mW C2 h2 a2 M) H) (hS : va_S (fun q : Nat => s.heap.size ≤ q) s.heap H locs) {ls : Array Slot} (hl : lv_has ls 4 [(3, .int (iZ ii)), (2, .ref h2), (1, .ref (a 0)), (0, .ref b)]) (kk : ∀ (V M : Nat → Nat → Int) (H : Heap) (locs : List Loc), cR V M → mI M → va_P D vwCl (cW C a V) H → va_P D vwCl (mW C2 h2 a2 M) H → va_S (fun q : Nat => s.heap.size ≤ q) s.heap H locs → W p l e room_1 s m #[Value.ref b] below meth c H locs 600000 7302250 (lw_Z below #[Value.ref b] s) (F0 m 1022 ls [])) : W p l e room_1 s m #[Value.ref b] below meth c H locs 600000 7302250 (lw_Z below #[Value.ref b] s) (F0 m 834 ls []) := by
  obtain ⟨hx, hb, hr, hml, hown, hts, hX, hbl, hlocks, hgv⟩ := id C0
  have hbA : ¬ (fun q : Nat => s.heap.size ≤ q) b := Nat.not_le.mpr hbl
  have htsL : ∀ w ∈ wsL_law, w.before #[Value.ref b] s = true := fun w h => hts w (wsL_law_in w h)
  have hD : va_D (fun q : Nat => s.heap.size ≤ q) (cW C a V) := cD_re hD0
  have hDm : va_D (fun q : Nat => s.heap.size ≤ q) (mW C2 h2 a2 M) := mD_re hDm0
  obtain ⟨n, hn⟩ := Int.eq_ofNat_of_zero_le hii.1
  obtain ⟨x1, hz1, e1⟩ := iZ_of (xs (n + 1))
  obtain ⟨x2, hz2, e2⟩ := iZ_of (xs (n + 2))
  have hC : cI V := hR.cIb hI
  have f1 : isTo (Int.toNat (V 0 3)) := hC.1
  have f2 : isTo (Int.toNat (V 0 4)) := hC.2.1
  have f5 : 0 ≤ V (Int.toNat (V 0 3)) 9 ∧ V (Int.toNat (V 0 3)) 9 ≤ 6 := hC.2.2.2.2.1.now.2.2
  have f6 : 0 ≤ V 39 0 ∧ V 39 0 ≤ 999 := hC.2.2.2.2.2.1.1
  have f7 : 0 ≤ V 39 1 ∧ V 39 1 ≤ 5 := hC.2.2.2.2.2.1.2.1
  have f8 : 0 ≤ V 39 2 ∧ V 39 2 ≤ 8 := hC.2.2.2.2.2.1.2.2.1
  have f9 : 0 ≤ V 0 1 ∧ V 0 1 ≤ 120 := hC.2.2.2.1
  have f11 : paI V 31 := hC.2.2.2.2.2.2.1
  have f12 : ∀ q : Nat, isIm q → paI V (33 + 2 * (q - 37)) := hC.2.2.2.2.2.2.2.1
  have f14 : ∀ k : Nat, k < 4 → 0 ≤ V 40 k ∧ V 40 k ≤ 20 := hC.2.2.2.2.2.1.2.2.2.1
  obtain ⟨heq, hR2⟩ := R_saw hI hR x1 x2
  have hI2 := mI_saw hI x1 x2
  refine lv_aload_n hx hb dL_law_834 rfl (lv_at hl 2 rfl) ?_
  refine lv_aload_n hx hb dL_law_835 rfl (lv_at hl 3 rfl) ?_
  refine lv_iload_n hx hb dL_law_836 rfl (lv_at hl 0 rfl) ?_
  refine lv_iconst (v := iZ 1) hx hb dL_law_837 (by decide) ?_
  refine z_iadd (x := ii) (y := 1) hx hb dL_law_838 ?_
  refine lq_ld hx hb hX hbl hbA hS (n + 1) (by omega) (by omega) e1 (by omega) dL_law_839 ?_
  refine lv_aload_n hx hb dL_law_840 rfl (lv_at hl 3 rfl) ?_
  refine lv_iload_n hx hb dL_law_841 rfl (lv_at hl 0 rfl) ?_
  refine lv_iconst (v := iZ 2) hx hb dL_law_842 (by decide) ?_
  refine z_iadd (x := ii) (y := 2) hx hb dL_law_843 ?_
  refine lq_ld hx hb hX hbl hbA hS (n + 2) (by omega) (by omega) e2 (by omega) dL_law_844 ?_
  refine lq_cm (As := [.int (iZ x1), .int (iZ x2)]) (rest := []) ⟨hx, hb, hml, hown, htsL⟩ hKc hP hNA hD hS (K_X7_saw l D C a bb V x1 x2 (by assumption) (by assumption) (by assumption) (hD.weaken (fun _ _ _ _ => trivial))) (cwV 2 htsL gL_law_X7_saw rfl rfl rfl (by decide +kernel) ⟨Nat.le_of_ble_eq_true rfl, Nat.le_of_ble_eq_true rfl⟩) rfl rfl hl.1 (Nat.le_of_ble_eq_true rfl) ⟨Nat.le_of_ble_eq_true rfl, Nat.le_of_ble_eq_true rfl⟩ dL_law_845 (fun H locs hP9 hD9 hS9 hk9 => ?_)
  replace hPm : va_P D vwCl (mW C2 h2 a2 M) H := hPm.kept (fun k q hq => hk9 q.1 (hPm k q hq).lt (fun z => hdj _ z (mA_mem k q hq)))
  replace hP := hP9
  replace hD := hD9
  replace hS := hS9
  clear hk9
  refine lv_pop hx hb dL_law_848 rfl ?_
  refine lv_aload_n hx hb dL_law_849 rfl (lv_at hl 1 rfl) ?_
  refine lv_aload_n hx hb dL_law_850 rfl (lv_at hl 3 rfl) ?_
  refine lv_iload_n hx hb dL_law_851 rfl (lv_at hl 0 rfl) ?_
  refine lv_iconst (v := iZ 1) hx hb dL_law_852 (by decide) ?_
  refine z_iadd (x := ii) (y := 1) hx hb dL_law_853 ?_
  refine lq_ld hx hb hX hbl hbA hS (n + 1) (by omega) (by omega) e1 (by omega) dL_law_854 ?_
  refine lv_aload_n hx hb dL_law_855 rfl (lv_at hl 3 rfl) ?_
  refine lv_iload_n hx hb dL_law_856 rfl (lv_at hl 0 rfl) ?_
  refine lv_iconst (v := iZ 2) hx hb dL_law_857 (by decide) ?_
  refine z_iadd (x := ii) (y := 2) hx hb dL_law_858 ?_
  refine lq_ld hx hb hX hbl hbA hS (n + 2) (by omega) (by omega) e2 (by omega) dL_law_859 ?_
  refine lq_mm (As := [.int (iZ x1), .int (iZ x2)]) (rest := []) ⟨hx, hb, hml, hown, htsL⟩ hKm hPm hDm hS hAA (C_saw l D C2 h2 a2 M x1 x2 (by assumption) (by assumption) (by assumption) (hDm.weaken (fun _ _ _ _ => trivial))) (cwV 2 htsL gL_law_X8_saw rfl rfl rfl (by decide +kernel) ⟨Nat.le_of_ble_eq_true rfl, Nat.le_of_ble_eq_true rfl⟩) rfl rfl hl.1 (Nat.le_of_ble_eq_true rfl) ⟨Nat.le_of_ble_eq_true rfl, Nat.le_of_ble_eq_true rfl⟩ dL_law_860 (fun H locs hP9 hD9 hS9 hk9 => ?_)
  replace hP : va_P D vwCl (cW C a (if ((0 ≤ x1 ∧ x1 < V (Int.toNat (V 0 3)) 8) ∧ (0 ≤ x2 ∧ x2 ≤ 30)) ∧ V 4 4 < 4 then f_sad V x1 x2 (c_wind V 0) (V 39 1) else V)) H := hP.kept (fun k q hq => hk9 q.1 (hP k q hq).lt (fun z => hdj _ (cA_mem k q hq) z))
  replace hPm := hP9
  replace hS := hS9
  clear hk9
  refine lv_pop hx hb dL_law_863 rfl ?_
  refine lv_goto (tgt := 1022) hx hb dL_law_864 (by decide) ?_
  exact kk (if ((0 ≤ x1 ∧ x1 < V (Int.toNat (V 0 3)) 8) ∧ (0 ≤ x2 ∧ x2 ≤ 30)) ∧ V 4 4 < 4 then f_sad V x1 x2 (c_wind V 0) (V 39 1) else V) (f_saw M x1 x2) H locs hR2 hI2 hP hPm hS
set_option maxHeartbeats 4000000 in
set_option maxRecDepth 100000 in
theorem q_case_21 {p : Program} {e : Env} {s : State} {m : MethodId} {below : List Frame} {meth : Method} {c : Code} (l : Launch) {b L : Nat} {xs : Nat → Int32} (C0 : lw_At p s m meth c b L xs) (hL : L ≤ 384) {D : va_G} {C : cC} {C2 : mC} (hKc : va_K D vwCl (cT C) s) (hKm : va_K D vwCl (mT C2) s) {a a2 bb : Nat → Nat} {h2 : Nat} (hNA : cNA D C (fun q : Nat => s.heap.size ≤ q) bb s) (hD0 : va_D (fun q : Nat => s.heap.size ≤ q) (cW C a cV1)) (hDm0 : va_D (fun q : Nat => s.heap.size ≤ q) (mW C2 h2 a2 mM0)) (hAA : ∀ q, mA h2 a2 q → (fun q : Nat => s.heap.size ≤ q) q) (hdj : ∀ q, cA a q → ¬ mA h2 a2 q) {V M : Nat → Nat → Int} (hR : cR V M) (hI : mI M) {ii : Int} (hii : 0 ≤ ii ∧ ii + 6 ≤ (L : Int)) {H : Heap} {locs : List Loc} (hP : va_P D vwCl (cW C a V) H) (hPm : va_P D vwCl (mW C2 h2 a2 M) H) (hS : va_S (fun q : Nat => s.heap.size ≤ q) s.heap H locs) {ls : Array Slot} (hl : lv_has ls 4 [(3, .int (iZ ii)), (2, .ref h2), (1, .ref (a 0)), (0, .ref b)]) (kk : ∀ (V M : Nat → Nat → Int) (H : Heap) (locs : List Loc), cR V M → mI M → va_P D vwCl (cW C a V) H → va_P D vwCl (mW C2 h2 a2 M) H → va_S (fun q : Nat => s.heap.size ≤ q) s.heap H locs → W p l e room_1 s m #[Value.ref b] below meth c H locs 600000 7302250 (lw_Z below #[Value.ref b] s) (F0 m 1022 ls [])) : W p l e room_1 s m #[Value.ref b] below meth c H locs 600000 7302250 (lw_Z below #[Value.ref b] s) (F0 m 867 ls []) := by
  obtain ⟨hx, hb, hr, hml, hown, hts, hX, hbl, hlocks, hgv⟩ := id C0
  have hbA : ¬ (fun q : Nat => s.heap.size ≤ q) b := Nat.not_le.mpr hbl
  have htsL : ∀ w ∈ wsL_law, w.before #[Value.ref b] s = true := fun w h => hts w (wsL_law_in w h)
  have hD : va_D (fun q : Nat => s.heap.size ≤ q) (cW C a V) := cD_re hD0
  have hDm : va_D (fun q : Nat => s.heap.size ≤ q) (mW C2 h2 a2 M) := mD_re hDm0
  obtain ⟨n, hn⟩ := Int.eq_ofNat_of_zero_le hii.1
  have hC : cI V := hR.cIb hI
  have f1 : isTo (Int.toNat (V 0 3)) := hC.1
  have f2 : isTo (Int.toNat (V 0 4)) := hC.2.1
  have f5 : 0 ≤ V (Int.toNat (V 0 3)) 9 ∧ V (Int.toNat (V 0 3)) 9 ≤ 6 := hC.2.2.2.2.1.now.2.2
  have f6 : 0 ≤ V 39 0 ∧ V 39 0 ≤ 999 := hC.2.2.2.2.2.1.1
  have f7 : 0 ≤ V 39 1 ∧ V 39 1 ≤ 5 := hC.2.2.2.2.2.1.2.1
  have f8 : 0 ≤ V 39 2 ∧ V 39 2 ≤ 8 := hC.2.2.2.2.2.1.2.2.1
  have f9 : 0 ≤ V 0 1 ∧ V 0 1 ≤ 120 := hC.2.2.2.1
  have f11 : paI V 31 := hC.2.2.2.2.2.2.1
  have f12 : ∀ q : Nat, isIm q → paI V (33 + 2 * (q - 37)) := hC.2.2.2.2.2.2.2.1
  have f14 : ∀ k : Nat, k < 4 → 0 ≤ V 40 k ∧ V 40 k ≤ 20 := hC.2.2.2.2.2.1.2.2.2.1
  obtain ⟨heq, hR2⟩ := R_forget hI hR 
  have hI2 := mI_forget hI 
  refine lv_aload_n hx hb dL_law_867 rfl (lv_at hl 2 rfl) ?_
  refine lq_cm (As := []) (rest := []) ⟨hx, hb, hml, hown, htsL⟩ hKc hP hNA hD hS (K_X7_forget l D C a bb V   (hD.weaken (fun _ _ _ _ => trivial))) (cwV 0 htsL gL_law_X7_forget rfl rfl rfl (by decide +kernel) ⟨Nat.le_of_ble_eq_true rfl, Nat.le_of_ble_eq_true rfl⟩) rfl rfl hl.1 (Nat.le_of_ble_eq_true rfl) ⟨Nat.le_of_ble_eq_true rfl, Nat.le_of_ble_eq_true rfl⟩ dL_law_868 (fun H locs hP9 hD9 hS9 hk9 => ?_)
  replace hPm : va_P D vwCl (mW C2 h2 a2 M) H := hPm.kept (fun k q hq => hk9 q.1 (hPm k q hq).lt (fun z => hdj _ z (mA_mem k q hq)))
  replace hP := hP9
  replace hD := hD9
  replace hS := hS9
  clear hk9
  refine lv_pop hx hb dL_law_871 rfl ?_
  refine lv_aload_n hx hb dL_law_872 rfl (lv_at hl 1 rfl) ?_
  refine lq_mm (As := []) (rest := []) ⟨hx, hb, hml, hown, htsL⟩ hKm hPm hDm hS hAA (C_forget l D C2 h2 a2 M   (hDm.weaken (fun _ _ _ _ => trivial))) (cwV 0 htsL gL_law_X8_forget rfl rfl rfl (by decide +kernel) ⟨Nat.le_of_ble_eq_true rfl, Nat.le_of_ble_eq_true rfl⟩) rfl rfl hl.1 (Nat.le_of_ble_eq_true rfl) ⟨Nat.le_of_ble_eq_true rfl, Nat.le_of_ble_eq_true rfl⟩ dL_law_873 (fun H locs hP9 hD9 hS9 hk9 => ?_)
  replace hP : va_P D vwCl (cW C a (mU V 4 4 0)) H := hP.kept (fun k q hq => hk9 q.1 (hP k q hq).lt (fun z => hdj _ (cA_mem k q hq) z))
  replace hPm := hP9
  replace hS := hS9
  clear hk9
  refine lv_pop hx hb dL_law_876 rfl ?_
  refine lv_goto (tgt := 1022) hx hb dL_law_877 (by decide) ?_
  exact kk (mU V 4 4 0) (mU M 28 0 0) H locs hR2 hI2 hP hPm hS
set_option maxHeartbeats 4000000 in
set_option maxRecDepth 100000 in
theorem q_case_22 {p : Program} {e : Env} {s : State} {m : MethodId} {below : List Frame} {meth : Method} {c : Code} (l : Launch) {b L : Nat} {xs : Nat → Int32} (C0 : lw_At p s m meth c b L xs) (hL : L ≤ 384) {D : va_G} {C : cC} {C2 : mC} (hKc : va_K D vwCl (cT C) s) (hKm : va_K D vwCl (mT C2) s) {a a2 bb : Nat → Nat} {h2 : Nat} (hNA : cNA D C (fun q : Nat => s.heap.size ≤ q) bb s) (hD0 : va_D (fun q : Nat => s.heap.size ≤ q) (cW C a cV1)) (hDm0 : va_D (fun q : Nat => s.heap.size ≤ q) (mW C2 h2 a2 mM0)) (hAA : ∀ q, mA h2 a2 q → (fun q : Nat => s.heap.size ≤ q) q) (hdj : ∀ q, cA a q → ¬ mA h2 a2 q) {V M : Nat → Nat → Int} (hR : cR V M) (hI : mI M) {ii : Int} (hii : 0 ≤ ii ∧ ii + 6 ≤ (L : Int)) {H : Heap} {locs : List Loc} (hP : va_P D vwCl (cW C a V) H) (hPm : va_P D vwCl (mW C2 h2 a2 M) H) (hS : va_S (fun q : Nat => s.heap.size ≤ q) s.heap H locs) {ls : Array Slot} (hl : lv_has ls 4 [(3, .int (iZ ii)), (2, .ref h2), (1, .ref (a 0)), (0, .ref b)]) (kk : ∀ (V M : Nat → Nat → Int) (H : Heap) (locs : List Loc), cR V M → mI M → va_P D vwCl (cW C a V) H → va_P D vwCl (mW C2 h2 a2 M) H → va_S (fun q : Nat => s.heap.size ≤ q) s.heap H locs → W p l e room_1 s m #[Value.ref b] below meth c H locs 600000 7302250 (lw_Z below #[Value.ref b] s) (F0 m 1022 ls [])) : W p l e room_1 s m #[Value.ref b] below meth c H locs 600000 7302250 (lw_Z below #[Value.ref b] s) (F0 m 880 ls []) := by
  obtain ⟨hx, hb, hr, hml, hown, hts, hX, hbl, hlocks, hgv⟩ := id C0
  have hbA : ¬ (fun q : Nat => s.heap.size ≤ q) b := Nat.not_le.mpr hbl
  have htsL : ∀ w ∈ wsL_law, w.before #[Value.ref b] s = true := fun w h => hts w (wsL_law_in w h)
  have hD : va_D (fun q : Nat => s.heap.size ≤ q) (cW C a V) := cD_re hD0
  have hDm : va_D (fun q : Nat => s.heap.size ≤ q) (mW C2 h2 a2 M) := mD_re hDm0
  obtain ⟨n, hn⟩ := Int.eq_ofNat_of_zero_le hii.1
  have hC : cI V := hR.cIb hI
  have f1 : isTo (Int.toNat (V 0 3)) := hC.1
  have f2 : isTo (Int.toNat (V 0 4)) := hC.2.1
  have f5 : 0 ≤ V (Int.toNat (V 0 3)) 9 ∧ V (Int.toNat (V 0 3)) 9 ≤ 6 := hC.2.2.2.2.1.now.2.2
  have f6 : 0 ≤ V 39 0 ∧ V 39 0 ≤ 999 := hC.2.2.2.2.2.1.1
  have f7 : 0 ≤ V 39 1 ∧ V 39 1 ≤ 5 := hC.2.2.2.2.2.1.2.1
  have f8 : 0 ≤ V 39 2 ∧ V 39 2 ≤ 8 := hC.2.2.2.2.2.1.2.2.1
  have f9 : 0 ≤ V 0 1 ∧ V 0 1 ≤ 120 := hC.2.2.2.1
  have f11 : paI V 31 := hC.2.2.2.2.2.2.1
  have f12 : ∀ q : Nat, isIm q → paI V (33 + 2 * (q - 37)) := hC.2.2.2.2.2.2.2.1
  have f14 : ∀ k : Nat, k < 4 → 0 ≤ V 40 k ∧ V 40 k ≤ 20 := hC.2.2.2.2.2.1.2.2.2.1
  have hR2 : cR V M := hR
  have hI2 : mI M := hI
  refine lv_aload_n hx hb dL_law_880 rfl (lv_at hl 2 rfl) ?_
  refine lq_ci (As := []) (rest := []) ⟨hx, hb, hml, hown, htsL⟩ hKc hP hNA hD hS (K_X7_who l D C a bb V  (by assumption) ) (cwV 0 htsL gL_law_X7_who rfl rfl rfl (by decide +kernel) ⟨Nat.le_of_ble_eq_true rfl, Nat.le_of_ble_eq_true rfl⟩) rfl rfl hl.1 (Nat.le_of_ble_eq_true rfl) ⟨Nat.le_of_ble_eq_true rfl, Nat.le_of_ble_eq_true rfl⟩ dL_law_881 ?_
  refine lv_pop hx hb dL_law_884 rfl ?_
  refine lv_aload_n hx hb dL_law_885 rfl (lv_at hl 1 rfl) ?_
  refine lq_mi (As := []) (rest := []) ⟨hx, hb, hml, hown, htsL⟩ hKm hPm (C_who l D C2 h2 a2 M  (by assumption) ) (cwV 0 htsL gL_law_X8_who rfl rfl rfl (by decide +kernel) ⟨Nat.le_of_ble_eq_true rfl, Nat.le_of_ble_eq_true rfl⟩) rfl rfl hl.1 (Nat.le_of_ble_eq_true rfl) ⟨Nat.le_of_ble_eq_true rfl, Nat.le_of_ble_eq_true rfl⟩ dL_law_886 ?_
  refine lv_pop hx hb dL_law_889 rfl ?_
  refine lv_goto (tgt := 1022) hx hb dL_law_890 (by decide) ?_
  exact kk V M H locs hR2 hI2 hP hPm hS
set_option maxHeartbeats 4000000 in
set_option maxRecDepth 100000 in
theorem q_case_23 {p : Program} {e : Env} {s : State} {m : MethodId} {below : List Frame} {meth : Method} {c : Code} (l : Launch) {b L : Nat} {xs : Nat → Int32} (C0 : lw_At p s m meth c b L xs) (hL : L ≤ 384) {D : va_G} {C : cC} {C2 : mC} (hKc : va_K D vwCl (cT C) s) (hKm : va_K D vwCl (mT C2) s) {a a2 bb : Nat → Nat} {h2 : Nat} (hNA : cNA D C (fun q : Nat => s.heap.size ≤ q) bb s) (hD0 : va_D (fun q : Nat => s.heap.size ≤ q) (cW C a cV1)) (hDm0 : va_D (fun q : Nat => s.heap.size ≤ q) (mW C2 h2 a2 mM0)) (hAA : ∀ q, mA h2 a2 q → (fun q : Nat => s.heap.size ≤ q) q) (hdj : ∀ q, cA a q → ¬ mA h2 a2 q) {V M : Nat → Nat → Int} (hR : cR V M) (hI : mI M) {ii : Int} (hii : 0 ≤ ii ∧ ii + 6 ≤ (L : Int)) {H : Heap} {locs : List Loc} (hP : va_P D vwCl (cW C a V) H) (hPm : va_P D vwCl (mW C2 h2 a2 M) H) (hS : va_S (fun q : Nat => s.heap.size ≤ q) s.heap H locs) {ls : Array Slot} (hl : lv_has ls 4 [(3, .int (iZ ii)), (2, .ref h2), (1, .ref (a 0)), (0, .ref b)]) (kk : ∀ (V M : Nat → Nat → Int) (H : Heap) (locs : List Loc), cR V M → mI M → va_P D vwCl (cW C a V) H → va_P D vwCl (mW C2 h2 a2 M) H → va_S (fun q : Nat => s.heap.size ≤ q) s.heap H locs → W p l e room_1 s m #[Value.ref b] below meth c H locs 600000 7302250 (lw_Z below #[Value.ref b] s) (F0 m 1022 ls [])) : W p l e room_1 s m #[Value.ref b] below meth c H locs 600000 7302250 (lw_Z below #[Value.ref b] s) (F0 m 893 ls []) := by
  obtain ⟨hx, hb, hr, hml, hown, hts, hX, hbl, hlocks, hgv⟩ := id C0
  have hbA : ¬ (fun q : Nat => s.heap.size ≤ q) b := Nat.not_le.mpr hbl
  have htsL : ∀ w ∈ wsL_law, w.before #[Value.ref b] s = true := fun w h => hts w (wsL_law_in w h)
  have hD : va_D (fun q : Nat => s.heap.size ≤ q) (cW C a V) := cD_re hD0
  have hDm : va_D (fun q : Nat => s.heap.size ≤ q) (mW C2 h2 a2 M) := mD_re hDm0
  obtain ⟨n, hn⟩ := Int.eq_ofNat_of_zero_le hii.1
  have hC : cI V := hR.cIb hI
  have f1 : isTo (Int.toNat (V 0 3)) := hC.1
  have f2 : isTo (Int.toNat (V 0 4)) := hC.2.1
  have f5 : 0 ≤ V (Int.toNat (V 0 3)) 9 ∧ V (Int.toNat (V 0 3)) 9 ≤ 6 := hC.2.2.2.2.1.now.2.2
  have f6 : 0 ≤ V 39 0 ∧ V 39 0 ≤ 999 := hC.2.2.2.2.2.1.1
  have f7 : 0 ≤ V 39 1 ∧ V 39 1 ≤ 5 := hC.2.2.2.2.2.1.2.1
  have f8 : 0 ≤ V 39 2 ∧ V 39 2 ≤ 8 := hC.2.2.2.2.2.1.2.2.1
  have f9 : 0 ≤ V 0 1 ∧ V 0 1 ≤ 120 := hC.2.2.2.1
  have f11 : paI V 31 := hC.2.2.2.2.2.2.1
  have f12 : ∀ q : Nat, isIm q → paI V (33 + 2 * (q - 37)) := hC.2.2.2.2.2.2.2.1
  have f14 : ∀ k : Nat, k < 4 → 0 ≤ V 40 k ∧ V 40 k ≤ 20 := hC.2.2.2.2.2.1.2.2.2.1
  have hR2 := R_askS hI hR 
  have hI2 : mI M := hI
  refine lv_aload_n hx hb dL_law_893 rfl (lv_at hl 2 rfl) ?_
  refine lq_cm (As := []) (rest := []) ⟨hx, hb, hml, hown, htsL⟩ hKc hP hNA hD hS (K_X7_ask l D C a bb V  (by assumption) (hD.weaken (fun _ _ _ _ => trivial))) (cwV 0 htsL gL_law_X7_ask rfl rfl rfl (by decide +kernel) ⟨Nat.le_of_ble_eq_true rfl, Nat.le_of_ble_eq_true rfl⟩) rfl rfl hl.1 (Nat.le_of_ble_eq_true rfl) ⟨Nat.le_of_ble_eq_true rfl, Nat.le_of_ble_eq_true rfl⟩ dL_law_894 (fun H locs hP9 hD9 hS9 hk9 => ?_)
  replace hPm : va_P D vwCl (mW C2 h2 a2 M) H := hPm.kept (fun k q hq => hk9 q.1 (hPm k q hq).lt (fun z => hdj _ z (mA_mem k q hq)))
  replace hP := hP9
  replace hD := hD9
  replace hS := hS9
  clear hk9
  refine lv_pop hx hb dL_law_897 rfl ?_
  refine lv_aload_n hx hb dL_law_898 rfl (lv_at hl 1 rfl) ?_
  refine lq_mi (As := []) (rest := []) ⟨hx, hb, hml, hown, htsL⟩ hKm hPm (C_ask l D C2 h2 a2 M  (by assumption) ) (cwV 0 htsL gL_law_X8_ask rfl rfl rfl (by decide +kernel) ⟨Nat.le_of_ble_eq_true rfl, Nat.le_of_ble_eq_true rfl⟩) rfl rfl hl.1 (Nat.le_of_ble_eq_true rfl) ⟨Nat.le_of_ble_eq_true rfl, Nat.le_of_ble_eq_true rfl⟩ dL_law_899 ?_
  refine lv_pop hx hb dL_law_902 rfl ?_
  refine lv_goto (tgt := 1022) hx hb dL_law_903 (by decide) ?_
  exact kk (f_ask V) M H locs hR2 hI2 hP hPm hS
set_option maxHeartbeats 4000000 in
set_option maxRecDepth 100000 in
theorem q_case_24 {p : Program} {e : Env} {s : State} {m : MethodId} {below : List Frame} {meth : Method} {c : Code} (l : Launch) {b L : Nat} {xs : Nat → Int32} (C0 : lw_At p s m meth c b L xs) (hL : L ≤ 384) {D : va_G} {C : cC} {C2 : mC} (hKc : va_K D vwCl (cT C) s) (hKm : va_K D vwCl (mT C2) s) {a a2 bb : Nat → Nat} {h2 : Nat} (hNA : cNA D C (fun q : Nat => s.heap.size ≤ q) bb s) (hD0 : va_D (fun q : Nat => s.heap.size ≤ q) (cW C a cV1)) (hDm0 : va_D (fun q : Nat => s.heap.size ≤ q) (mW C2 h2 a2 mM0)) (hAA : ∀ q, mA h2 a2 q → (fun q : Nat => s.heap.size ≤ q) q) (hdj : ∀ q, cA a q → ¬ mA h2 a2 q) {V M : Nat → Nat → Int} (hR : cR V M) (hI : mI M) {ii : Int} (hii : 0 ≤ ii ∧ ii + 6 ≤ (L : Int)) {H : Heap} {locs : List Loc} (hP : va_P D vwCl (cW C a V) H) (hPm : va_P D vwCl (mW C2 h2 a2 M) H) (hS : va_S (fun q : Nat => s.heap.size ≤ q) s.heap H locs) {ls : Array Slot} (hl : lv_has ls 4 [(3, .int (iZ ii)), (2, .ref h2), (1, .ref (a 0)), (0, .ref b)]) (kk : ∀ (V M : Nat → Nat → Int) (H : Heap) (locs : List Loc), cR V M → mI M → va_P D vwCl (cW C a V) H → va_P D vwCl (mW C2 h2 a2 M) H → va_S (fun q : Nat => s.heap.size ≤ q) s.heap H locs → W p l e room_1 s m #[Value.ref b] below meth c H locs 600000 7302250 (lw_Z below #[Value.ref b] s) (F0 m 1022 ls [])) : W p l e room_1 s m #[Value.ref b] below meth c H locs 600000 7302250 (lw_Z below #[Value.ref b] s) (F0 m 906 ls []) := by
  obtain ⟨hx, hb, hr, hml, hown, hts, hX, hbl, hlocks, hgv⟩ := id C0
  have hbA : ¬ (fun q : Nat => s.heap.size ≤ q) b := Nat.not_le.mpr hbl
  have htsL : ∀ w ∈ wsL_law, w.before #[Value.ref b] s = true := fun w h => hts w (wsL_law_in w h)
  have hD : va_D (fun q : Nat => s.heap.size ≤ q) (cW C a V) := cD_re hD0
  have hDm : va_D (fun q : Nat => s.heap.size ≤ q) (mW C2 h2 a2 M) := mD_re hDm0
  obtain ⟨n, hn⟩ := Int.eq_ofNat_of_zero_le hii.1
  obtain ⟨x1, hz1, e1⟩ := iZ_of (xs (n + 1))
  obtain ⟨x2, hz2, e2⟩ := iZ_of (xs (n + 2))
  have hC : cI V := hR.cIb hI
  have f1 : isTo (Int.toNat (V 0 3)) := hC.1
  have f2 : isTo (Int.toNat (V 0 4)) := hC.2.1
  have f5 : 0 ≤ V (Int.toNat (V 0 3)) 9 ∧ V (Int.toNat (V 0 3)) 9 ≤ 6 := hC.2.2.2.2.1.now.2.2
  have f6 : 0 ≤ V 39 0 ∧ V 39 0 ≤ 999 := hC.2.2.2.2.2.1.1
  have f7 : 0 ≤ V 39 1 ∧ V 39 1 ≤ 5 := hC.2.2.2.2.2.1.2.1
  have f8 : 0 ≤ V 39 2 ∧ V 39 2 ≤ 8 := hC.2.2.2.2.2.1.2.2.1
  have f9 : 0 ≤ V 0 1 ∧ V 0 1 ≤ 120 := hC.2.2.2.1
  have f11 : paI V 31 := hC.2.2.2.2.2.2.1
  have f12 : ∀ q : Nat, isIm q → paI V (33 + 2 * (q - 37)) := hC.2.2.2.2.2.2.2.1
  have f14 : ∀ k : Nat, k < 4 → 0 ≤ V 40 k ∧ V 40 k ≤ 20 := hC.2.2.2.2.2.1.2.2.2.1
  have hR2 := R_markS hI hR x1 x2
  have hI2 := mI_mark hI x1 x2
  refine lv_aload_n hx hb dL_law_906 rfl (lv_at hl 2 rfl) ?_
  refine lv_aload_n hx hb dL_law_907 rfl (lv_at hl 3 rfl) ?_
  refine lv_iload_n hx hb dL_law_908 rfl (lv_at hl 0 rfl) ?_
  refine lv_iconst (v := iZ 1) hx hb dL_law_909 (by decide) ?_
  refine z_iadd (x := ii) (y := 1) hx hb dL_law_910 ?_
  refine lq_ld hx hb hX hbl hbA hS (n + 1) (by omega) (by omega) e1 (by omega) dL_law_911 ?_
  refine lv_aload_n hx hb dL_law_912 rfl (lv_at hl 3 rfl) ?_
  refine lv_iload_n hx hb dL_law_913 rfl (lv_at hl 0 rfl) ?_
  refine lv_iconst (v := iZ 2) hx hb dL_law_914 (by decide) ?_
  refine z_iadd (x := ii) (y := 2) hx hb dL_law_915 ?_
  refine lq_ld hx hb hX hbl hbA hS (n + 2) (by omega) (by omega) e2 (by omega) dL_law_916 ?_
  refine lq_cm (As := [.int (iZ x1), .int (iZ x2)]) (rest := []) ⟨hx, hb, hml, hown, htsL⟩ hKc hP hNA hD hS (K_X7_mark l D C a bb V x1 x2 (by assumption) (by assumption) (by assumption) (hD.weaken (fun _ _ _ _ => trivial))) (cwV 2 htsL gL_law_X7_mark rfl rfl rfl (by decide +kernel) ⟨Nat.le_of_ble_eq_true rfl, Nat.le_of_ble_eq_true rfl⟩) rfl rfl hl.1 (Nat.le_of_ble_eq_true rfl) ⟨Nat.le_of_ble_eq_true rfl, Nat.le_of_ble_eq_true rfl⟩ dL_law_917 (fun H locs hP9 hD9 hS9 hk9 => ?_)
  replace hPm : va_P D vwCl (mW C2 h2 a2 M) H := hPm.kept (fun k q hq => hk9 q.1 (hPm k q hq).lt (fun z => hdj _ z (mA_mem k q hq)))
  replace hP := hP9
  replace hD := hD9
  replace hS := hS9
  clear hk9
  refine lv_pop hx hb dL_law_920 rfl ?_
  refine lv_aload_n hx hb dL_law_921 rfl (lv_at hl 1 rfl) ?_
  refine lv_aload_n hx hb dL_law_922 rfl (lv_at hl 3 rfl) ?_
  refine lv_iload_n hx hb dL_law_923 rfl (lv_at hl 0 rfl) ?_
  refine lv_iconst (v := iZ 1) hx hb dL_law_924 (by decide) ?_
  refine z_iadd (x := ii) (y := 1) hx hb dL_law_925 ?_
  refine lq_ld hx hb hX hbl hbA hS (n + 1) (by omega) (by omega) e1 (by omega) dL_law_926 ?_
  refine lv_aload_n hx hb dL_law_927 rfl (lv_at hl 3 rfl) ?_
  refine lv_iload_n hx hb dL_law_928 rfl (lv_at hl 0 rfl) ?_
  refine lv_iconst (v := iZ 2) hx hb dL_law_929 (by decide) ?_
  refine z_iadd (x := ii) (y := 2) hx hb dL_law_930 ?_
  refine lq_ld hx hb hX hbl hbA hS (n + 2) (by omega) (by omega) e2 (by omega) dL_law_931 ?_
  refine lq_mm (As := [.int (iZ x1), .int (iZ x2)]) (rest := []) ⟨hx, hb, hml, hown, htsL⟩ hKm hPm hDm hS hAA (C_mark l D C2 h2 a2 M x1 x2 (by assumption) (by assumption) (by assumption) (hDm.weaken (fun _ _ _ _ => trivial))) (cwV 2 htsL gL_law_X8_mark rfl rfl rfl (by decide +kernel) ⟨Nat.le_of_ble_eq_true rfl, Nat.le_of_ble_eq_true rfl⟩) rfl rfl hl.1 (Nat.le_of_ble_eq_true rfl) ⟨Nat.le_of_ble_eq_true rfl, Nat.le_of_ble_eq_true rfl⟩ dL_law_932 (fun H locs hP9 hD9 hS9 hk9 => ?_)
  replace hP : va_P D vwCl (cW C a (if (0 ≤ x2 ∧ x2 < V (Int.toNat (V 0 3)) 7) ∧ (0 ≤ x1 ∧ x1 ≤ 5) then f_tr V (c_mkt x1) else V)) H := hP.kept (fun k q hq => hk9 q.1 (hP k q hq).lt (fun z => hdj _ (cA_mem k q hq) z))
  replace hPm := hP9
  replace hS := hS9
  clear hk9
  refine lv_pop hx hb dL_law_935 rfl ?_
  refine lv_goto (tgt := 1022) hx hb dL_law_936 (by decide) ?_
  exact kk (if (0 ≤ x2 ∧ x2 < V (Int.toNat (V 0 3)) 7) ∧ (0 ≤ x1 ∧ x1 ≤ 5) then f_tr V (c_mkt x1) else V) (f_mark M x1 x2) H locs hR2 hI2 hP hPm hS
set_option maxHeartbeats 4000000 in
set_option maxRecDepth 100000 in
theorem q_case_25 {p : Program} {e : Env} {s : State} {m : MethodId} {below : List Frame} {meth : Method} {c : Code} (l : Launch) {b L : Nat} {xs : Nat → Int32} (C0 : lw_At p s m meth c b L xs) (hL : L ≤ 384) {D : va_G} {C : cC} {C2 : mC} (hKc : va_K D vwCl (cT C) s) (hKm : va_K D vwCl (mT C2) s) {a a2 bb : Nat → Nat} {h2 : Nat} (hNA : cNA D C (fun q : Nat => s.heap.size ≤ q) bb s) (hD0 : va_D (fun q : Nat => s.heap.size ≤ q) (cW C a cV1)) (hDm0 : va_D (fun q : Nat => s.heap.size ≤ q) (mW C2 h2 a2 mM0)) (hAA : ∀ q, mA h2 a2 q → (fun q : Nat => s.heap.size ≤ q) q) (hdj : ∀ q, cA a q → ¬ mA h2 a2 q) {V M : Nat → Nat → Int} (hR : cR V M) (hI : mI M) {ii : Int} (hii : 0 ≤ ii ∧ ii + 6 ≤ (L : Int)) {H : Heap} {locs : List Loc} (hP : va_P D vwCl (cW C a V) H) (hPm : va_P D vwCl (mW C2 h2 a2 M) H) (hS : va_S (fun q : Nat => s.heap.size ≤ q) s.heap H locs) {ls : Array Slot} (hl : lv_has ls 4 [(3, .int (iZ ii)), (2, .ref h2), (1, .ref (a 0)), (0, .ref b)]) (kk : ∀ (V M : Nat → Nat → Int) (H : Heap) (locs : List Loc), cR V M → mI M → va_P D vwCl (cW C a V) H → va_P D vwCl (mW C2 h2 a2 M) H → va_S (fun q : Nat => s.heap.size ≤ q) s.heap H locs → W p l e room_1 s m #[Value.ref b] below meth c H locs 600000 7302250 (lw_Z below #[Value.ref b] s) (F0 m 1022 ls [])) : W p l e room_1 s m #[Value.ref b] below meth c H locs 600000 7302250 (lw_Z below #[Value.ref b] s) (F0 m 939 ls []) := by
  obtain ⟨hx, hb, hr, hml, hown, hts, hX, hbl, hlocks, hgv⟩ := id C0
  have hbA : ¬ (fun q : Nat => s.heap.size ≤ q) b := Nat.not_le.mpr hbl
  have htsL : ∀ w ∈ wsL_law, w.before #[Value.ref b] s = true := fun w h => hts w (wsL_law_in w h)
  have hD : va_D (fun q : Nat => s.heap.size ≤ q) (cW C a V) := cD_re hD0
  have hDm : va_D (fun q : Nat => s.heap.size ≤ q) (mW C2 h2 a2 M) := mD_re hDm0
  obtain ⟨n, hn⟩ := Int.eq_ofNat_of_zero_le hii.1
  obtain ⟨x1, hz1, e1⟩ := iZ_of (xs (n + 1))
  have hC : cI V := hR.cIb hI
  have f1 : isTo (Int.toNat (V 0 3)) := hC.1
  have f2 : isTo (Int.toNat (V 0 4)) := hC.2.1
  have f5 : 0 ≤ V (Int.toNat (V 0 3)) 9 ∧ V (Int.toNat (V 0 3)) 9 ≤ 6 := hC.2.2.2.2.1.now.2.2
  have f6 : 0 ≤ V 39 0 ∧ V 39 0 ≤ 999 := hC.2.2.2.2.2.1.1
  have f7 : 0 ≤ V 39 1 ∧ V 39 1 ≤ 5 := hC.2.2.2.2.2.1.2.1
  have f8 : 0 ≤ V 39 2 ∧ V 39 2 ≤ 8 := hC.2.2.2.2.2.1.2.2.1
  have f9 : 0 ≤ V 0 1 ∧ V 0 1 ≤ 120 := hC.2.2.2.1
  have f11 : paI V 31 := hC.2.2.2.2.2.2.1
  have f12 : ∀ q : Nat, isIm q → paI V (33 + 2 * (q - 37)) := hC.2.2.2.2.2.2.2.1
  have f14 : ∀ k : Nat, k < 4 → 0 ≤ V 40 k ∧ V 40 k ≤ 20 := hC.2.2.2.2.2.1.2.2.2.1
  obtain ⟨heq, hR2⟩ := R_keep hI hR x1
  have hI2 := mI_keep hI x1
  refine lv_aload_n hx hb dL_law_939 rfl (lv_at hl 2 rfl) ?_
  refine lv_aload_n hx hb dL_law_940 rfl (lv_at hl 3 rfl) ?_
  refine lv_iload_n hx hb dL_law_941 rfl (lv_at hl 0 rfl) ?_
  refine lv_iconst (v := iZ 1) hx hb dL_law_942 (by decide) ?_
  refine z_iadd (x := ii) (y := 1) hx hb dL_law_943 ?_
  refine lq_ld hx hb hX hbl hbA hS (n + 1) (by omega) (by omega) e1 (by omega) dL_law_944 ?_
  refine lq_cm (As := [.int (iZ x1)]) (rest := []) ⟨hx, hb, hml, hown, htsL⟩ hKc hP hNA hD hS (K_X7_keep l D C a bb V x1 (by assumption) (by assumption) (by assumption) (hD.weaken (fun _ _ _ _ => trivial))) (cwV 1 htsL gL_law_X7_keep rfl rfl rfl (by decide +kernel) ⟨Nat.le_of_ble_eq_true rfl, Nat.le_of_ble_eq_true rfl⟩) rfl rfl hl.1 (Nat.le_of_ble_eq_true rfl) ⟨Nat.le_of_ble_eq_true rfl, Nat.le_of_ble_eq_true rfl⟩ dL_law_945 (fun H locs hP9 hD9 hS9 hk9 => ?_)
  replace hPm : va_P D vwCl (mW C2 h2 a2 M) H := hPm.kept (fun k q hq => hk9 q.1 (hPm k q hq).lt (fun z => hdj _ z (mA_mem k q hq)))
  replace hP := hP9
  replace hD := hD9
  replace hS := hS9
  clear hk9
  refine lv_pop hx hb dL_law_948 rfl ?_
  refine lv_aload_n hx hb dL_law_949 rfl (lv_at hl 1 rfl) ?_
  refine lv_aload_n hx hb dL_law_950 rfl (lv_at hl 3 rfl) ?_
  refine lv_iload_n hx hb dL_law_951 rfl (lv_at hl 0 rfl) ?_
  refine lv_iconst (v := iZ 1) hx hb dL_law_952 (by decide) ?_
  refine z_iadd (x := ii) (y := 1) hx hb dL_law_953 ?_
  refine lq_ld hx hb hX hbl hbA hS (n + 1) (by omega) (by omega) e1 (by omega) dL_law_954 ?_
  refine lq_mm (As := [.int (iZ x1)]) (rest := []) ⟨hx, hb, hml, hown, htsL⟩ hKm hPm hDm hS hAA (C_keep l D C2 h2 a2 M x1 (by assumption) (by assumption) (hDm.weaken (fun _ _ _ _ => trivial))) (cwV 1 htsL gL_law_X8_keep rfl rfl rfl (by decide +kernel) ⟨Nat.le_of_ble_eq_true rfl, Nat.le_of_ble_eq_true rfl⟩) rfl rfl hl.1 (Nat.le_of_ble_eq_true rfl) ⟨Nat.le_of_ble_eq_true rfl, Nat.le_of_ble_eq_true rfl⟩ dL_law_955 (fun H locs hP9 hD9 hS9 hk9 => ?_)
  replace hP : va_P D vwCl (cW C a (if 0 ≤ x1 ∧ x1 < 2 then f_tak V (37 + Int.toNat x1) 39 31 else V)) H := hP.kept (fun k q hq => hk9 q.1 (hP k q hq).lt (fun z => hdj _ (cA_mem k q hq) z))
  replace hPm := hP9
  replace hS := hS9
  clear hk9
  refine lv_pop hx hb dL_law_958 rfl ?_
  refine lv_goto (tgt := 1022) hx hb dL_law_959 (by decide) ?_
  exact kk (if 0 ≤ x1 ∧ x1 < 2 then f_tak V (37 + Int.toNat x1) 39 31 else V) (f_keep M x1) H locs hR2 hI2 hP hPm hS
set_option maxHeartbeats 4000000 in
set_option maxRecDepth 100000 in
theorem q_case_26 {p : Program} {e : Env} {s : State} {m : MethodId} {below : List Frame} {meth : Method} {c : Code} (l : Launch) {b L : Nat} {xs : Nat → Int32} (C0 : lw_At p s m meth c b L xs) (hL : L ≤ 384) {D : va_G} {C : cC} {C2 : mC} (hKc : va_K D vwCl (cT C) s) (hKm : va_K D vwCl (mT C2) s) {a a2 bb : Nat → Nat} {h2 : Nat} (hNA : cNA D C (fun q : Nat => s.heap.size ≤ q) bb s) (hD0 : va_D (fun q : Nat => s.heap.size ≤ q) (cW C a cV1)) (hDm0 : va_D (fun q : Nat => s.heap.size ≤ q) (mW C2 h2 a2 mM0)) (hAA : ∀ q, mA h2 a2 q → (fun q : Nat => s.heap.size ≤ q) q) (hdj : ∀ q, cA a q → ¬ mA h2 a2 q) {V M : Nat → Nat → Int} (hR : cR V M) (hI : mI M) {ii : Int} (hii : 0 ≤ ii ∧ ii + 6 ≤ (L : Int)) {H : Heap} {locs : List Loc} (hP : va_P D vwCl (cW C a V) H) (hPm : va_P D vwCl (mW C2 h2 a2 M) H) (hS : va_S (fun q : Nat => s.heap.size ≤ q) s.heap H locs) {ls : Array Slot} (hl : lv_has ls 4 [(3, .int (iZ ii)), (2, .ref h2), (1, .ref (a 0)), (0, .ref b)]) (kk : ∀ (V M : Nat → Nat → Int) (H : Heap) (locs : List Loc), cR V M → mI M → va_P D vwCl (cW C a V) H → va_P D vwCl (mW C2 h2 a2 M) H → va_S (fun q : Nat => s.heap.size ≤ q) s.heap H locs → W p l e room_1 s m #[Value.ref b] below meth c H locs 600000 7302250 (lw_Z below #[Value.ref b] s) (F0 m 1022 ls [])) : W p l e room_1 s m #[Value.ref b] below meth c H locs 600000 7302250 (lw_Z below #[Value.ref b] s) (F0 m 962 ls []) := by
  obtain ⟨hx, hb, hr, hml, hown, hts, hX, hbl, hlocks, hgv⟩ := id C0
  have hbA : ¬ (fun q : Nat => s.heap.size ≤ q) b := Nat.not_le.mpr hbl
  have htsL : ∀ w ∈ wsL_law, w.before #[Value.ref b] s = true := fun w h => hts w (wsL_law_in w h)
  have hD : va_D (fun q : Nat => s.heap.size ≤ q) (cW C a V) := cD_re hD0
  have hDm : va_D (fun q : Nat => s.heap.size ≤ q) (mW C2 h2 a2 M) := mD_re hDm0
  obtain ⟨n, hn⟩ := Int.eq_ofNat_of_zero_le hii.1
  obtain ⟨x1, hz1, e1⟩ := iZ_of (xs (n + 1))
  have hC : cI V := hR.cIb hI
  have f1 : isTo (Int.toNat (V 0 3)) := hC.1
  have f2 : isTo (Int.toNat (V 0 4)) := hC.2.1
  have f5 : 0 ≤ V (Int.toNat (V 0 3)) 9 ∧ V (Int.toNat (V 0 3)) 9 ≤ 6 := hC.2.2.2.2.1.now.2.2
  have f6 : 0 ≤ V 39 0 ∧ V 39 0 ≤ 999 := hC.2.2.2.2.2.1.1
  have f7 : 0 ≤ V 39 1 ∧ V 39 1 ≤ 5 := hC.2.2.2.2.2.1.2.1
  have f8 : 0 ≤ V 39 2 ∧ V 39 2 ≤ 8 := hC.2.2.2.2.2.1.2.2.1
  have f9 : 0 ≤ V 0 1 ∧ V 0 1 ≤ 120 := hC.2.2.2.1
  have f11 : paI V 31 := hC.2.2.2.2.2.2.1
  have f12 : ∀ q : Nat, isIm q → paI V (33 + 2 * (q - 37)) := hC.2.2.2.2.2.2.2.1
  have f14 : ∀ k : Nat, k < 4 → 0 ≤ V 40 k ∧ V 40 k ≤ 20 := hC.2.2.2.2.2.1.2.2.2.1
  obtain ⟨heq, hR2⟩ := R_back hI hR x1
  have hI2 := mI_back hI x1
  refine lv_aload_n hx hb dL_law_962 rfl (lv_at hl 2 rfl) ?_
  refine lv_aload_n hx hb dL_law_963 rfl (lv_at hl 3 rfl) ?_
  refine lv_iload_n hx hb dL_law_964 rfl (lv_at hl 0 rfl) ?_
  refine lv_iconst (v := iZ 1) hx hb dL_law_965 (by decide) ?_
  refine z_iadd (x := ii) (y := 1) hx hb dL_law_966 ?_
  refine lq_ld hx hb hX hbl hbA hS (n + 1) (by omega) (by omega) e1 (by omega) dL_law_967 ?_
  refine lq_cm (As := [.int (iZ x1)]) (rest := []) ⟨hx, hb, hml, hown, htsL⟩ hKc hP hNA hD hS (K_X7_back l D C a bb V x1 (by assumption) (by assumption) (hD.weaken (fun _ _ _ _ => trivial))) (cwV 1 htsL gL_law_X7_back rfl rfl rfl (by decide +kernel) ⟨Nat.le_of_ble_eq_true rfl, Nat.le_of_ble_eq_true rfl⟩) rfl rfl hl.1 (Nat.le_of_ble_eq_true rfl) ⟨Nat.le_of_ble_eq_true rfl, Nat.le_of_ble_eq_true rfl⟩ dL_law_968 (fun H locs hP9 hD9 hS9 hk9 => ?_)
  replace hPm : va_P D vwCl (mW C2 h2 a2 M) H := hPm.kept (fun k q hq => hk9 q.1 (hPm k q hq).lt (fun z => hdj _ z (mA_mem k q hq)))
  replace hP := hP9
  replace hD := hD9
  replace hS := hS9
  clear hk9
  refine lv_pop hx hb dL_law_971 rfl ?_
  refine lv_aload_n hx hb dL_law_972 rfl (lv_at hl 1 rfl) ?_
  refine lv_aload_n hx hb dL_law_973 rfl (lv_at hl 3 rfl) ?_
  refine lv_iload_n hx hb dL_law_974 rfl (lv_at hl 0 rfl) ?_
  refine lv_iconst (v := iZ 1) hx hb dL_law_975 (by decide) ?_
  refine z_iadd (x := ii) (y := 1) hx hb dL_law_976 ?_
  refine lq_ld hx hb hX hbl hbA hS (n + 1) (by omega) (by omega) e1 (by omega) dL_law_977 ?_
  refine lq_mm (As := [.int (iZ x1)]) (rest := []) ⟨hx, hb, hml, hown, htsL⟩ hKm hPm hDm hS hAA (C_back l D C2 h2 a2 M x1 (by assumption) (by assumption) (hDm.weaken (fun _ _ _ _ => trivial))) (cwV 1 htsL gL_law_X8_back rfl rfl rfl (by decide +kernel) ⟨Nat.le_of_ble_eq_true rfl, Nat.le_of_ble_eq_true rfl⟩) rfl rfl hl.1 (Nat.le_of_ble_eq_true rfl) ⟨Nat.le_of_ble_eq_true rfl, Nat.le_of_ble_eq_true rfl⟩ dL_law_978 (fun H locs hP9 hD9 hS9 hk9 => ?_)
  replace hP : va_P D vwCl (cW C a (if (0 ≤ x1 ∧ x1 < 2) ∧ ¬ V (37 + Int.toNat x1) 2 = 0 then f_giv V (37 + Int.toNat x1) 39 31 else V)) H := hP.kept (fun k q hq => hk9 q.1 (hP k q hq).lt (fun z => hdj _ (cA_mem k q hq) z))
  replace hPm := hP9
  replace hS := hS9
  clear hk9
  refine lv_pop hx hb dL_law_981 rfl ?_
  refine lv_goto (tgt := 1022) hx hb dL_law_982 (by decide) ?_
  exact kk (if (0 ≤ x1 ∧ x1 < 2) ∧ ¬ V (37 + Int.toNat x1) 2 = 0 then f_giv V (37 + Int.toNat x1) 39 31 else V) (f_back M x1) H locs hR2 hI2 hP hPm hS
set_option maxHeartbeats 4000000 in
set_option maxRecDepth 100000 in
theorem q_case_27 {p : Program} {e : Env} {s : State} {m : MethodId} {below : List Frame} {meth : Method} {c : Code} (l : Launch) {b L : Nat} {xs : Nat → Int32} (C0 : lw_At p s m meth c b L xs) (hL : L ≤ 384) {D : va_G} {C : cC} {C2 : mC} (hKc : va_K D vwCl (cT C) s) (hKm : va_K D vwCl (mT C2) s) {a a2 bb : Nat → Nat} {h2 : Nat} (hNA : cNA D C (fun q : Nat => s.heap.size ≤ q) bb s) (hD0 : va_D (fun q : Nat => s.heap.size ≤ q) (cW C a cV1)) (hDm0 : va_D (fun q : Nat => s.heap.size ≤ q) (mW C2 h2 a2 mM0)) (hAA : ∀ q, mA h2 a2 q → (fun q : Nat => s.heap.size ≤ q) q) (hdj : ∀ q, cA a q → ¬ mA h2 a2 q) {V M : Nat → Nat → Int} (hR : cR V M) (hI : mI M) {ii : Int} (hii : 0 ≤ ii ∧ ii + 6 ≤ (L : Int)) {H : Heap} {locs : List Loc} (hP : va_P D vwCl (cW C a V) H) (hPm : va_P D vwCl (mW C2 h2 a2 M) H) (hS : va_S (fun q : Nat => s.heap.size ≤ q) s.heap H locs) {ls : Array Slot} (hl : lv_has ls 4 [(3, .int (iZ ii)), (2, .ref h2), (1, .ref (a 0)), (0, .ref b)]) (kk : ∀ (V M : Nat → Nat → Int) (H : Heap) (locs : List Loc), cR V M → mI M → va_P D vwCl (cW C a V) H → va_P D vwCl (mW C2 h2 a2 M) H → va_S (fun q : Nat => s.heap.size ≤ q) s.heap H locs → W p l e room_1 s m #[Value.ref b] below meth c H locs 600000 7302250 (lw_Z below #[Value.ref b] s) (F0 m 1022 ls [])) : W p l e room_1 s m #[Value.ref b] below meth c H locs 600000 7302250 (lw_Z below #[Value.ref b] s) (F0 m 985 ls []) := by
  obtain ⟨hx, hb, hr, hml, hown, hts, hX, hbl, hlocks, hgv⟩ := id C0
  have hbA : ¬ (fun q : Nat => s.heap.size ≤ q) b := Nat.not_le.mpr hbl
  have htsL : ∀ w ∈ wsL_law, w.before #[Value.ref b] s = true := fun w h => hts w (wsL_law_in w h)
  have hD : va_D (fun q : Nat => s.heap.size ≤ q) (cW C a V) := cD_re hD0
  have hDm : va_D (fun q : Nat => s.heap.size ≤ q) (mW C2 h2 a2 M) := mD_re hDm0
  obtain ⟨n, hn⟩ := Int.eq_ofNat_of_zero_le hii.1
  obtain ⟨x1, hz1, e1⟩ := iZ_of (xs (n + 1))
  have hC : cI V := hR.cIb hI
  have f1 : isTo (Int.toNat (V 0 3)) := hC.1
  have f2 : isTo (Int.toNat (V 0 4)) := hC.2.1
  have f5 : 0 ≤ V (Int.toNat (V 0 3)) 9 ∧ V (Int.toNat (V 0 3)) 9 ≤ 6 := hC.2.2.2.2.1.now.2.2
  have f6 : 0 ≤ V 39 0 ∧ V 39 0 ≤ 999 := hC.2.2.2.2.2.1.1
  have f7 : 0 ≤ V 39 1 ∧ V 39 1 ≤ 5 := hC.2.2.2.2.2.1.2.1
  have f8 : 0 ≤ V 39 2 ∧ V 39 2 ≤ 8 := hC.2.2.2.2.2.1.2.2.1
  have f9 : 0 ≤ V 0 1 ∧ V 0 1 ≤ 120 := hC.2.2.2.1
  have f11 : paI V 31 := hC.2.2.2.2.2.2.1
  have f12 : ∀ q : Nat, isIm q → paI V (33 + 2 * (q - 37)) := hC.2.2.2.2.2.2.2.1
  have f14 : ∀ k : Nat, k < 4 → 0 ≤ V 40 k ∧ V 40 k ≤ 20 := hC.2.2.2.2.2.1.2.2.2.1
  have hR2 : cR V M := hR
  have hI2 : mI M := hI
  refine lv_aload_n hx hb dL_law_985 rfl (lv_at hl 2 rfl) ?_
  refine lv_aload_n hx hb dL_law_986 rfl (lv_at hl 3 rfl) ?_
  refine lv_iload_n hx hb dL_law_987 rfl (lv_at hl 0 rfl) ?_
  refine lv_iconst (v := iZ 1) hx hb dL_law_988 (by decide) ?_
  refine z_iadd (x := ii) (y := 1) hx hb dL_law_989 ?_
  refine lq_ld hx hb hX hbl hbA hS (n + 1) (by omega) (by omega) e1 (by omega) dL_law_990 ?_
  refine lq_ci (As := [.int (iZ x1)]) (rest := []) ⟨hx, hb, hml, hown, htsL⟩ hKc hP hNA hD hS (K_X7_count l D C a bb V x1 (by assumption) (by assumption) (by assumption) ) (cwV 1 htsL gL_law_X7_count rfl rfl rfl (by decide +kernel) ⟨Nat.le_of_ble_eq_true rfl, Nat.le_of_ble_eq_true rfl⟩) rfl rfl hl.1 (Nat.le_of_ble_eq_true rfl) ⟨Nat.le_of_ble_eq_true rfl, Nat.le_of_ble_eq_true rfl⟩ dL_law_991 ?_
  refine lv_pop hx hb dL_law_994 rfl ?_
  refine lv_aload_n hx hb dL_law_995 rfl (lv_at hl 1 rfl) ?_
  refine lv_aload_n hx hb dL_law_996 rfl (lv_at hl 3 rfl) ?_
  refine lv_iload_n hx hb dL_law_997 rfl (lv_at hl 0 rfl) ?_
  refine lv_iconst (v := iZ 1) hx hb dL_law_998 (by decide) ?_
  refine z_iadd (x := ii) (y := 1) hx hb dL_law_999 ?_
  refine lq_ld hx hb hX hbl hbA hS (n + 1) (by omega) (by omega) e1 (by omega) dL_law_1000 ?_
  refine lq_mi (As := [.int (iZ x1)]) (rest := []) ⟨hx, hb, hml, hown, htsL⟩ hKm hPm (C_count l D C2 h2 a2 M x1 (by assumption) (by assumption) ) (cwV 1 htsL gL_law_X8_count rfl rfl rfl (by decide +kernel) ⟨Nat.le_of_ble_eq_true rfl, Nat.le_of_ble_eq_true rfl⟩) rfl rfl hl.1 (Nat.le_of_ble_eq_true rfl) ⟨Nat.le_of_ble_eq_true rfl, Nat.le_of_ble_eq_true rfl⟩ dL_law_1001 ?_
  refine lv_pop hx hb dL_law_1004 rfl ?_
  refine lv_goto (tgt := 1022) hx hb dL_law_1005 (by decide) ?_
  exact kk V M H locs hR2 hI2 hP hPm hS
set_option maxHeartbeats 4000000 in
set_option maxRecDepth 100000 in
theorem q_case_28 {p : Program} {e : Env} {s : State} {m : MethodId} {below : List Frame} {meth : Method} {c : Code} (l : Launch) {b L : Nat} {xs : Nat → Int32} (C0 : lw_At p s m meth c b L xs) (hL : L ≤ 384) {D : va_G} {C : cC} {C2 : mC} (hKc : va_K D vwCl (cT C) s) (hKm : va_K D vwCl (mT C2) s) {a a2 bb : Nat → Nat} {h2 : Nat} (hNA : cNA D C (fun q : Nat => s.heap.size ≤ q) bb s) (hD0 : va_D (fun q : Nat => s.heap.size ≤ q) (cW C a cV1)) (hDm0 : va_D (fun q : Nat => s.heap.size ≤ q) (mW C2 h2 a2 mM0)) (hAA : ∀ q, mA h2 a2 q → (fun q : Nat => s.heap.size ≤ q) q) (hdj : ∀ q, cA a q → ¬ mA h2 a2 q) {V M : Nat → Nat → Int} (hR : cR V M) (hI : mI M) {ii : Int} (hii : 0 ≤ ii ∧ ii + 6 ≤ (L : Int)) {H : Heap} {locs : List Loc} (hP : va_P D vwCl (cW C a V) H) (hPm : va_P D vwCl (mW C2 h2 a2 M) H) (hS : va_S (fun q : Nat => s.heap.size ≤ q) s.heap H locs) {ls : Array Slot} (hl : lv_has ls 4 [(3, .int (iZ ii)), (2, .ref h2), (1, .ref (a 0)), (0, .ref b)]) (kk : ∀ (V M : Nat → Nat → Int) (H : Heap) (locs : List Loc), cR V M → mI M → va_P D vwCl (cW C a V) H → va_P D vwCl (mW C2 h2 a2 M) H → va_S (fun q : Nat => s.heap.size ≤ q) s.heap H locs → W p l e room_1 s m #[Value.ref b] below meth c H locs 600000 7302250 (lw_Z below #[Value.ref b] s) (F0 m 1022 ls [])) : W p l e room_1 s m #[Value.ref b] below meth c H locs 600000 7302250 (lw_Z below #[Value.ref b] s) (F0 m 1008 ls []) := by
  obtain ⟨hx, hb, hr, hml, hown, hts, hX, hbl, hlocks, hgv⟩ := id C0
  have hbA : ¬ (fun q : Nat => s.heap.size ≤ q) b := Nat.not_le.mpr hbl
  have htsL : ∀ w ∈ wsL_law, w.before #[Value.ref b] s = true := fun w h => hts w (wsL_law_in w h)
  have hD : va_D (fun q : Nat => s.heap.size ≤ q) (cW C a V) := cD_re hD0
  have hDm : va_D (fun q : Nat => s.heap.size ≤ q) (mW C2 h2 a2 M) := mD_re hDm0
  obtain ⟨n, hn⟩ := Int.eq_ofNat_of_zero_le hii.1
  have hC : cI V := hR.cIb hI
  have f1 : isTo (Int.toNat (V 0 3)) := hC.1
  have f2 : isTo (Int.toNat (V 0 4)) := hC.2.1
  have f5 : 0 ≤ V (Int.toNat (V 0 3)) 9 ∧ V (Int.toNat (V 0 3)) 9 ≤ 6 := hC.2.2.2.2.1.now.2.2
  have f6 : 0 ≤ V 39 0 ∧ V 39 0 ≤ 999 := hC.2.2.2.2.2.1.1
  have f7 : 0 ≤ V 39 1 ∧ V 39 1 ≤ 5 := hC.2.2.2.2.2.1.2.1
  have f8 : 0 ≤ V 39 2 ∧ V 39 2 ≤ 8 := hC.2.2.2.2.2.1.2.2.1
  have f9 : 0 ≤ V 0 1 ∧ V 0 1 ≤ 120 := hC.2.2.2.1
  have f11 : paI V 31 := hC.2.2.2.2.2.2.1
  have f12 : ∀ q : Nat, isIm q → paI V (33 + 2 * (q - 37)) := hC.2.2.2.2.2.2.2.1
  have f14 : ∀ k : Nat, k < 4 → 0 ≤ V 40 k ∧ V 40 k ≤ 20 := hC.2.2.2.2.2.1.2.2.2.1
  have hR2 : cR V M := hR
  have hI2 : mI M := hI
  have heq : ((V 0 12) : Int) = (M 29 0) := A_trace hI hR 
  refine lv_aload_n hx hb dL_law_1008 rfl (lv_at hl 2 rfl) ?_
  refine lq_cl (As := []) (rest := []) ⟨hx, hb, hml, hown, htsL⟩ hKc hP hNA hD hS (K_X7_trace l D C a bb V   ) (cwV 0 htsL gL_law_X7_trace rfl rfl rfl (by decide +kernel) ⟨Nat.le_of_ble_eq_true rfl, Nat.le_of_ble_eq_true rfl⟩) rfl rfl hl.1 (Nat.le_of_ble_eq_true rfl) ⟨Nat.le_of_ble_eq_true rfl, Nat.le_of_ble_eq_true rfl⟩ dL_law_1009 ?_
  refine lv_aload_n hx hb dL_law_1012 rfl (lv_at hl 1 rfl) ?_
  refine lq_ml (As := []) (rest := [.long (iL (V 0 12))]) ⟨hx, hb, hml, hown, htsL⟩ hKm hPm (C_trace l D C2 h2 a2 M   ) (cwV 0 htsL gL_law_X8_trace rfl rfl rfl (by decide +kernel) ⟨Nat.le_of_ble_eq_true rfl, Nat.le_of_ble_eq_true rfl⟩) rfl rfl hl.1 (Nat.le_of_ble_eq_true rfl) ⟨Nat.le_of_ble_eq_true rfl, Nat.le_of_ble_eq_true rfl⟩ dL_law_1013 ?_
  rw [heq]
  refine W.lcmp hx hb dL_law_1016 ?_
  rw [show lg_cmp (iL (M 29 0)) (iL (M 29 0)) = 0 from by simp [lg_cmp]]
  refine lv_if_eq (tgt := 1022) hx hb dL_law_1017 (by decide) (fun _ => ?_) (fun z => absurd rfl z)
  exact kk V M H locs hR2 hI2 hP hPm hS
end CASES
