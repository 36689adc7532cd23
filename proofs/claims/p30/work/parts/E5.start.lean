/-! The law from its entry. -/
set_option maxHeartbeats 4000000 in
set_option maxRecDepth 100000 in
theorem q_cases {p : Program} {e : Env} {s : State} {m : MethodId} {below : List Frame} {meth : Method} {c : Code} (l : Launch) {b L : Nat} {xs : Nat → Int32} (C0 : lw_At p s m meth c b L xs) (hL : L ≤ 384) {D : va_G} {C : cC} {C2 : mC} (hKc : va_K D vwCl (cT C) s) (hKm : va_K D vwCl (mT C2) s) {a a2 bb : Nat → Nat} {h2 : Nat} (hNA : cNA D C (fun q : Nat => s.heap.size ≤ q) bb s) (hD0 : va_D (fun q : Nat => s.heap.size ≤ q) (cW C a cV1)) (hDm0 : va_D (fun q : Nat => s.heap.size ≤ q) (mW C2 h2 a2 mM0)) (hAA : ∀ q, mA h2 a2 q → (fun q : Nat => s.heap.size ≤ q) q) (hdj : ∀ q, cA a q → ¬ mA h2 a2 q) {V M : Nat → Nat → Int} (hR : cR V M) (hI : mI M) {ii : Int} (hii : 0 ≤ ii ∧ ii + 6 ≤ (L : Int)) {H : Heap} {locs : List Loc} (hP : va_P D vwCl (cW C a V) H) (hPm : va_P D vwCl (mW C2 h2 a2 M) H) (hS : va_S (fun q : Nat => s.heap.size ≤ q) s.heap H locs) {ls : Array Slot} (hl : lv_has ls 4 [(3, .int (iZ ii)), (2, .ref h2), (1, .ref (a 0)), (0, .ref b)]) (kk : ∀ (V M : Nat → Nat → Int) (H : Heap) (locs : List Loc), cR V M → mI M → va_P D vwCl (cW C a V) H → va_P D vwCl (mW C2 h2 a2 M) H → va_S (fun q : Nat => s.heap.size ≤ q) s.heap H locs → W p l e room_1 s m #[Value.ref b] below meth c H locs 600000 7302250 (lw_Z below #[Value.ref b] s) (F0 m 1022 ls [])) : W p l e room_1 s m #[Value.ref b] below meth c H locs 600000 7302250 (lw_Z below #[Value.ref b] s) (F0 m 27 ls []) := by
  obtain ⟨hx, hb, hr, hml, hown, hts, hX, hbl, hlocks, hgv⟩ := id C0
  have hbA : ¬ (fun q : Nat => s.heap.size ≤ q) b := Nat.not_le.mpr hbl
  obtain ⟨n, hn⟩ := Int.eq_ofNat_of_zero_le hii.1
  obtain ⟨x0, hz0, e0⟩ := iZ_of (xs (n + 0))
  refine lv_aload_n hx hb dL_law_27 rfl (lv_at hl 3 rfl) ?_
  refine lv_iload_n hx hb dL_law_28 rfl (lv_at hl 0 rfl) ?_
  refine lq_ld hx hb hX hbl hbA hS (n + 0) (by omega) (by omega) e0 (by omega) dL_law_29 ?_
  refine lv_bipush (v := iZ 31) hx hb dL_law_30 (by decide) ?_
  refine z_iand31 hx hb dL_law_32 ?_
  obtain ⟨k9, hk9⟩ : ∃ k : Int, k = x0 % 32 := ⟨_, rfl⟩
  rw [← hk9]
  have hkb : 0 ≤ k9 ∧ k9 < 32 := by omega
  clear hk9 e0 hn
  by_cases c0 : k9 = 0
  · subst c0
    refine lv_tableIn (off := 131) (tgt := 164) hx hb dL_law_33 (by decide) (by decide) (by decide) (by decide) ?_
    exact q_case_0 l C0 hL hKc hKm hNA hD0 hDm0 hAA hdj hR hI hii hP hPm hS hl kk
  by_cases c1 : k9 = 1
  · subst c1
    refine lv_tableIn (off := 154) (tgt := 187) hx hb dL_law_33 (by decide) (by decide) (by decide) (by decide) ?_
    exact q_case_1 l C0 hL hKc hKm hNA hD0 hDm0 hAA hdj hR hI hii hP hPm hS hl kk
  by_cases c2 : k9 = 2
  · subst c2
    refine lv_tableIn (off := 167) (tgt := 200) hx hb dL_law_33 (by decide) (by decide) (by decide) (by decide) ?_
    exact q_case_2 l C0 hL hKc hKm hNA hD0 hDm0 hAA hdj hR hI hii hP hPm hS hl kk
  by_cases c3 : k9 = 3
  · subst c3
    refine lv_tableIn (off := 180) (tgt := 213) hx hb dL_law_33 (by decide) (by decide) (by decide) (by decide) ?_
    exact q_case_3 l C0 hL hKc hKm hNA hD0 hDm0 hAA hdj hR hI hii hP hPm hS hl kk
  by_cases c4 : k9 = 4
  · subst c4
    refine lv_tableIn (off := 213) (tgt := 246) hx hb dL_law_33 (by decide) (by decide) (by decide) (by decide) ?_
    exact q_case_4 l C0 hL hKc hKm hNA hD0 hDm0 hAA hdj hR hI hii hP hPm hS hl kk
  by_cases c5 : k9 = 5
  · subst c5
    refine lv_tableIn (off := 246) (tgt := 279) hx hb dL_law_33 (by decide) (by decide) (by decide) (by decide) ?_
    exact q_case_5 l C0 hL hKc hKm hNA hD0 hDm0 hAA hdj hR hI hii hP hPm hS hl kk
  by_cases c6 : k9 = 6
  · subst c6
    refine lv_tableIn (off := 269) (tgt := 302) hx hb dL_law_33 (by decide) (by decide) (by decide) (by decide) ?_
    exact q_case_6 l C0 hL hKc hKm hNA hD0 hDm0 hAA hdj hR hI hii hP hPm hS hl kk
  by_cases c7 : k9 = 7
  · subst c7
    refine lv_tableIn (off := 302) (tgt := 335) hx hb dL_law_33 (by decide) (by decide) (by decide) (by decide) ?_
    exact q_case_7 l C0 hL hKc hKm hNA hD0 hDm0 hAA hdj hR hI hii hP hPm hS hl kk
  by_cases c8 : k9 = 8
  · subst c8
    refine lv_tableIn (off := 365) (tgt := 398) hx hb dL_law_33 (by decide) (by decide) (by decide) (by decide) ?_
    exact q_case_8 l C0 hL hKc hKm hNA hD0 hDm0 hAA hdj hR hI hii hP hPm hS hl kk
  by_cases c9 : k9 = 9
  · subst c9
    refine lv_tableIn (off := 388) (tgt := 421) hx hb dL_law_33 (by decide) (by decide) (by decide) (by decide) ?_
    exact q_case_9 l C0 hL hKc hKm hNA hD0 hDm0 hAA hdj hR hI hii hP hPm hS hl kk
  by_cases c10 : k9 = 10
  · subst c10
    refine lv_tableIn (off := 411) (tgt := 444) hx hb dL_law_33 (by decide) (by decide) (by decide) (by decide) ?_
    exact q_case_10 l C0 hL hKc hKm hNA hD0 hDm0 hAA hdj hR hI hii hP hPm hS hl kk
  by_cases c11 : k9 = 11
  · subst c11
    refine lv_tableIn (off := 434) (tgt := 467) hx hb dL_law_33 (by decide) (by decide) (by decide) (by decide) ?_
    exact q_case_11 l C0 hL hKc hKm hNA hD0 hDm0 hAA hdj hR hI hii hP hPm hS hl kk
  by_cases c12 : k9 = 12
  · subst c12
    refine lv_tableIn (off := 467) (tgt := 500) hx hb dL_law_33 (by decide) (by decide) (by decide) (by decide) ?_
    exact q_case_12 l C0 hL hKc hKm hNA hD0 hDm0 hAA hdj hR hI hii hP hPm hS hl kk
  by_cases c13 : k9 = 13
  · subst c13
    refine lv_tableIn (off := 480) (tgt := 513) hx hb dL_law_33 (by decide) (by decide) (by decide) (by decide) ?_
    exact q_case_13 l C0 hL hKc hKm hNA hD0 hDm0 hAA hdj hR hI hii hP hPm hS hl kk
  by_cases c14 : k9 = 14
  · subst c14
    refine lv_tableIn (off := 503) (tgt := 536) hx hb dL_law_33 (by decide) (by decide) (by decide) (by decide) ?_
    exact q_case_14 l C0 hL hKc hKm hNA hD0 hDm0 hAA hdj hR hI hii hP hPm hS hl kk
  by_cases c15 : k9 = 15
  · subst c15
    refine lv_tableIn (off := 566) (tgt := 599) hx hb dL_law_33 (by decide) (by decide) (by decide) (by decide) ?_
    exact q_case_15 l C0 hL hKc hKm hNA hD0 hDm0 hAA hdj hR hI hii hP hPm hS hl kk
  by_cases c16 : k9 = 16
  · subst c16
    refine lv_tableIn (off := 609) (tgt := 642) hx hb dL_law_33 (by decide) (by decide) (by decide) (by decide) ?_
    exact q_case_16 l C0 hL hKc hKm hNA hD0 hDm0 hAA hdj hR hI hii hP hPm hS hl kk
  by_cases c17 : k9 = 17
  · subst c17
    refine lv_tableIn (off := 662) (tgt := 695) hx hb dL_law_33 (by decide) (by decide) (by decide) (by decide) ?_
    exact q_case_17 l C0 hL hKc hKm hNA hD0 hDm0 hAA hdj hR hI hii hP hPm hS hl kk
  by_cases c18 : k9 = 18
  · subst c18
    refine lv_tableIn (off := 705) (tgt := 738) hx hb dL_law_33 (by decide) (by decide) (by decide) (by decide) ?_
    exact q_case_18 l C0 hL hKc hKm hNA hD0 hDm0 hAA hdj hR hI hii hP hPm hS hl kk
  by_cases c19 : k9 = 19
  · subst c19
    refine lv_tableIn (off := 738) (tgt := 771) hx hb dL_law_33 (by decide) (by decide) (by decide) (by decide) ?_
    exact q_case_19 l C0 hL hKc hKm hNA hD0 hDm0 hAA hdj hR hI hii hP hPm hS hl kk
  by_cases c20 : k9 = 20
  · subst c20
    refine lv_tableIn (off := 801) (tgt := 834) hx hb dL_law_33 (by decide) (by decide) (by decide) (by decide) ?_
    exact q_case_20 l C0 hL hKc hKm hNA hD0 hDm0 hAA hdj hR hI hii hP hPm hS hl kk
  by_cases c21 : k9 = 21
  · subst c21
    refine lv_tableIn (off := 834) (tgt := 867) hx hb dL_law_33 (by decide) (by decide) (by decide) (by decide) ?_
    exact q_case_21 l C0 hL hKc hKm hNA hD0 hDm0 hAA hdj hR hI hii hP hPm hS hl kk
  by_cases c22 : k9 = 22
  · subst c22
    refine lv_tableIn (off := 847) (tgt := 880) hx hb dL_law_33 (by decide) (by decide) (by decide) (by decide) ?_
    exact q_case_22 l C0 hL hKc hKm hNA hD0 hDm0 hAA hdj hR hI hii hP hPm hS hl kk
  by_cases c23 : k9 = 23
  · subst c23
    refine lv_tableIn (off := 860) (tgt := 893) hx hb dL_law_33 (by decide) (by decide) (by decide) (by decide) ?_
    exact q_case_23 l C0 hL hKc hKm hNA hD0 hDm0 hAA hdj hR hI hii hP hPm hS hl kk
  by_cases c24 : k9 = 24
  · subst c24
    refine lv_tableIn (off := 873) (tgt := 906) hx hb dL_law_33 (by decide) (by decide) (by decide) (by decide) ?_
    exact q_case_24 l C0 hL hKc hKm hNA hD0 hDm0 hAA hdj hR hI hii hP hPm hS hl kk
  by_cases c25 : k9 = 25
  · subst c25
    refine lv_tableIn (off := 906) (tgt := 939) hx hb dL_law_33 (by decide) (by decide) (by decide) (by decide) ?_
    exact q_case_25 l C0 hL hKc hKm hNA hD0 hDm0 hAA hdj hR hI hii hP hPm hS hl kk
  by_cases c26 : k9 = 26
  · subst c26
    refine lv_tableIn (off := 929) (tgt := 962) hx hb dL_law_33 (by decide) (by decide) (by decide) (by decide) ?_
    exact q_case_26 l C0 hL hKc hKm hNA hD0 hDm0 hAA hdj hR hI hii hP hPm hS hl kk
  by_cases c27 : k9 = 27
  · subst c27
    refine lv_tableIn (off := 952) (tgt := 985) hx hb dL_law_33 (by decide) (by decide) (by decide) (by decide) ?_
    exact q_case_27 l C0 hL hKc hKm hNA hD0 hDm0 hAA hdj hR hI hii hP hPm hS hl kk
  by_cases c28 : k9 = 28
  · subst c28
    refine lv_tableIn (off := 975) (tgt := 1008) hx hb dL_law_33 (by decide) (by decide) (by decide) (by decide) ?_
    exact q_case_28 l C0 hL hKc hKm hNA hD0 hDm0 hAA hdj hR hI hii hP hPm hS hl kk
  refine lv_tableOut (tgt := 1022) hx hb dL_law_33 (by rw [iZ_toInt (by omega)]; omega) (by decide) ?_
  exact kk V M H locs hR hI hP hPm hS
set_option maxHeartbeats 4000000 in
set_option maxRecDepth 100000 in
theorem q_loop {p : Program} {e : Env} {s : State} {m : MethodId} {below : List Frame} {meth : Method} {c : Code} (l : Launch) {b L : Nat} {xs : Nat → Int32} (C0 : lw_At p s m meth c b L xs) (hL : L ≤ 384) {D : va_G} {C : cC} {C2 : mC} (hKc : va_K D vwCl (cT C) s) (hKm : va_K D vwCl (mT C2) s) {a a2 bb : Nat → Nat} {h2 : Nat} (hNA : cNA D C (fun q : Nat => s.heap.size ≤ q) bb s) (hD0 : va_D (fun q : Nat => s.heap.size ≤ q) (cW C a cV1)) (hDm0 : va_D (fun q : Nat => s.heap.size ≤ q) (mW C2 h2 a2 mM0)) (hAA : ∀ q, mA h2 a2 q → (fun q : Nat => s.heap.size ≤ q) q) (hdj : ∀ q, cA a q → ¬ mA h2 a2 q) (H : Heap) (locs : List Loc) (hP : va_P D vwCl (cW C a cV1) H) (hPm : va_P D vwCl (mW C2 h2 a2 mM0) H) (hS : va_S (fun q : Nat => s.heap.size ≤ q) s.heap H locs) (ls : Array Slot) (hl : lv_has ls 4 [(3, .int (iZ 0)), (2, .ref h2), (1, .ref (a 0)), (0, .ref b)]) : W p l e room_1 s m #[Value.ref b] below meth c H locs 600000 7302250 (lw_Z below #[Value.ref b] s) (F0 m 18 ls []) := by
  obtain ⟨hx, hb, hr, hml, hown, hts, hX, hbl, hlocks, hgv⟩ := id C0
  have hbA : ¬ (fun q : Nat => s.heap.size ≤ q) b := Nat.not_le.mpr hbl
  replace hP := And.intro hP (And.intro hPm hS)
  clear hPm hS
  revert ls
  revert hP
  revert H locs
  refine z_loopH (σ := Int × (Nat → Nat → Int) × (Nat → Nat → Int)) (fun x9 => (0 ≤ x9.1 ∧ x9.1 ≤ 384) ∧ cR x9.2.1 x9.2.2 ∧ mI x9.2.2) (fun x9 H9 locs9 => va_P D vwCl (cW C a x9.2.1) H9 ∧ va_P D vwCl (mW C2 h2 a2 x9.2.2) H9 ∧ va_S (fun q : Nat => s.heap.size ≤ q) s.heap H9 locs9) (fun x9 => [(3, .int (iZ x9.1)), (2, .ref h2), (1, .ref (a 0)), (0, .ref b)]) 4 (fun x9 => (390 - x9.1).toNat) ((0 : Int), cV1, mM0) ⟨by decide, R_0, mI_0⟩ ?_
  rintro ⟨ii, V, M⟩ ⟨hi0, hR, hI⟩ ih18 H locs ⟨hP, hPm, hS⟩ ls hl
  replace hi0 : 0 ≤ ii ∧ ii ≤ 384 := hi0
  replace hR : cR V M := hR
  replace hI : mI M := hI
  replace hl : lv_has ls 4 [(3, .int (iZ ii)), (2, .ref h2), (1, .ref (a 0)), (0, .ref b)] := hl
  replace hP : va_P D vwCl (cW C a V) H := hP
  replace hPm : va_P D vwCl (mW C2 h2 a2 M) H := hPm
  refine lv_iload_n hx hb dL_law_18 rfl (lv_at hl 0 rfl) ?_
  refine lv_aload_n hx hb dL_law_19 rfl (lv_at hl 3 rfl) ?_
  refine va_slen hx hb hX hbl hbA hS dL_law_20 ?_
  refine lv_bipush (v := iZ 6) hx hb dL_law_21 (by decide) ?_
  have eL : Int32.ofNat L = iZ (L : Int) := (iZ_n L).symm
  rw [eL]
  refine z_isub hx hb dL_law_23 ?_
  refine z_icmp_gt (x := ii) (y := ((L : Int) - 6)) (tgt := 1028) hx hb (by omega) (by omega) dL_law_24 (by decide) (fun c9 => ?_) (fun c9 => ?_)
  · refine lv_iconst (v := 1) hx hb dL_law_1028 (by decide) ?_
    refine va_forget (fun q hq => hS.2.2 q hq) ?_
    exact lw_ret hx hb hr hlocks dL_law_1029
  · refine q_cases l C0 hL hKc hKm hNA hD0 hDm0 hAA hdj hR hI (by omega) hP hPm hS hl (fun V2 M2 H locs hR2 hI2 hP hPm hS => ?_)
    refine lv_iinc (v := iZ (ii + 6)) (lv' := [(3, .int (iZ (ii + 6))), (2, .ref h2), (1, .ref (a 0)), (0, .ref b)]) hx hb dL_law_1022 hl (k := 0) rfl (iZ_add _ _) (by decide) rfl (fun ls hl => ?_)
    refine lv_goto (tgt := 18) hx hb dL_law_1025 (by decide) ?_
    exact ih18 (ii + 6, V2, M2) ⟨by show 0 ≤ ii + 6 ∧ ii + 6 ≤ 384; omega, hR2, hI2⟩ (by show (390 - (ii + 6)).toNat < (390 - ii).toNat; omega) H locs ⟨hP, hPm, hS⟩ ls hl
set_option maxHeartbeats 4000000 in
set_option maxRecDepth 100000 in
theorem whole_start {p : Program} {e : Env} {s : State} {m : MethodId} {below : List Frame} {meth : Method} {c : Code} (l : Launch) (hflags : l.flags = flags0) {b L : Nat} {xs : Nat → Int32} (hL : L ≤ 384) (C0 : lw_At p s m meth c b L xs) : W p l e room_1 s m #[Value.ref b] below meth c s.heap [] 0 0 (lw_Z below #[Value.ref b] s) (entryFrame m ([Value.ref b] : List Value).toArray 4) := by
  obtain ⟨hx, hb, hr, hml, hown, hts, hX, hbl, hlocks, hgv⟩ := id C0
  have hA : ∀ q : Nat, s.heap.size ≤ q → (fun q : Nat => s.heap.size ≤ q) q := fun _ h => h
  have hbA : ¬ (fun q : Nat => s.heap.size ≤ q) b := Nat.not_le.mpr hbl
  have htsL : ∀ w ∈ wsL_law, w.before #[Value.ref b] s = true := fun w h => hts w (wsL_law_in w h)
  obtain ⟨D, C, C2, hKc, hKm⟩ := law_K hts
  have hown : s.vm.findClass RL = some m.cls := hown
  have hp7 : nP7 s := ⟨(va_Nw.of rfl (hts (.methodLinkNest RX7 38 yX2_init RX7) (by decide +kernel))), (va_Nw.of rfl (hts (.methodLinkNest RX7 58 yX4_init RX7) (by decide +kernel))), (va_Nw.of rfl (hts (.methodLinkNest RX7 65 yX0_init RX7) (by decide +kernel))), (va_Nw.of rfl (hts (.methodLinkNest RX7 80 yX1_init RX7) (by decide +kernel))), va_AO.of (hts (.arrayOver (.object RX1)) (by decide +kernel)), (va_Nw.of rfl (hts (.methodLinkNest RX1 9 yX2_init RX7) (by decide +kernel))), (va_Nw.of rfl (hts (.methodLinkNest RX3 21 yX2_init RX7) (by decide +kernel))), va_AO.of (hts (.arrayOver (.object RX2)) (by decide +kernel))⟩
  have hflat := flat_of_before _ hgv
  have hz : ∀ q : Nat, q < s.heap.size → ¬ (fun q : Nat => s.heap.size ≤ q) q := fun q hq => Nat.not_le.mpr hq
  obtain ⟨b_cLif, ev_cLif, lt_cLif, xx_cLif⟩ := row_of (C := "WordFletchers") (n := "LIFT") (d := "[I") (L := 4) (f := cLif) (by omega) (hflat _ (by decide +kernel)) (hflat _ (by decide +kernel)) (by intro j hj; match j, hj with | 0, _ => exact hflat _ (by decide +kernel) | 1, _ => exact hflat _ (by decide +kernel) | 2, _ => exact hflat _ (by decide +kernel) | 3, _ => exact hflat _ (by decide +kernel) | q + 4, hq => exact absurd hq (by omega))
  have vz_cLif : va_Z RX7 "LIFT" "[I" (.ref b_cLif) (fun q : Nat => s.heap.size ≤ q) s s.heap := va_Zref (hts (.laysStatic RX7 "LIFT" "[I") (by decide +kernel)) (hts (.initialized RX7) (by decide +kernel)) ev_cLif hz
  obtain ⟨b_cKin, ev_cKin, lt_cKin, xx_cKin⟩ := row_of (C := "WordFletchers") (n := "SHOTS_BY_KIND") (d := "[I") (L := 26) (f := cKin) (by omega) (hflat _ (by decide +kernel)) (hflat _ (by decide +kernel)) (by intro j hj; match j, hj with | 0, _ => exact hflat _ (by decide +kernel) | 1, _ => exact hflat _ (by decide +kernel) | 2, _ => exact hflat _ (by decide +kernel) | 3, _ => exact hflat _ (by decide +kernel) | 4, _ => exact hflat _ (by decide +kernel) | 5, _ => exact hflat _ (by decide +kernel) | 6, _ => exact hflat _ (by decide +kernel) | 7, _ => exact hflat _ (by decide +kernel) | 8, _ => exact hflat _ (by decide +kernel) | 9, _ => exact hflat _ (by decide +kernel) | 10, _ => exact hflat _ (by decide +kernel) | 11, _ => exact hflat _ (by decide +kernel) | 12, _ => exact hflat _ (by decide +kernel) | 13, _ => exact hflat _ (by decide +kernel) | 14, _ => exact hflat _ (by decide +kernel) | 15, _ => exact hflat _ (by decide +kernel) | 16, _ => exact hflat _ (by decide +kernel) | 17, _ => exact hflat _ (by decide +kernel) | 18, _ => exact hflat _ (by decide +kernel) | 19, _ => exact hflat _ (by decide +kernel) | 20, _ => exact hflat _ (by decide +kernel) | 21, _ => exact hflat _ (by decide +kernel) | 22, _ => exact hflat _ (by decide +kernel) | 23, _ => exact hflat _ (by decide +kernel) | 24, _ => exact hflat _ (by decide +kernel) | 25, _ => exact hflat _ (by decide +kernel) | q + 26, hq => exact absurd hq (by omega))
  have vz_cKin : va_Z RX7 "SHOTS_BY_KIND" "[I" (.ref b_cKin) (fun q : Nat => s.heap.size ≤ q) s s.heap := va_Zref (hts (.laysStatic RX7 "SHOTS_BY_KIND" "[I") (by decide +kernel)) (hts (.initialized RX7) (by decide +kernel)) ev_cKin hz
  obtain ⟨b_cMan, ev_cMan, lt_cMan, xx_cMan⟩ := row_of (C := "WordFletchers") (n := "SHOTS_BY_HOW_MANY") (d := "[I") (L := 26) (f := cMan) (by omega) (hflat _ (by decide +kernel)) (hflat _ (by decide +kernel)) (by intro j hj; match j, hj with | 0, _ => exact hflat _ (by decide +kernel) | 1, _ => exact hflat _ (by decide +kernel) | 2, _ => exact hflat _ (by decide +kernel) | 3, _ => exact hflat _ (by decide +kernel) | 4, _ => exact hflat _ (by decide +kernel) | 5, _ => exact hflat _ (by decide +kernel) | 6, _ => exact hflat _ (by decide +kernel) | 7, _ => exact hflat _ (by decide +kernel) | 8, _ => exact hflat _ (by decide +kernel) | 9, _ => exact hflat _ (by decide +kernel) | 10, _ => exact hflat _ (by decide +kernel) | 11, _ => exact hflat _ (by decide +kernel) | 12, _ => exact hflat _ (by decide +kernel) | 13, _ => exact hflat _ (by decide +kernel) | 14, _ => exact hflat _ (by decide +kernel) | 15, _ => exact hflat _ (by decide +kernel) | 16, _ => exact hflat _ (by decide +kernel) | 17, _ => exact hflat _ (by decide +kernel) | 18, _ => exact hflat _ (by decide +kernel) | 19, _ => exact hflat _ (by decide +kernel) | 20, _ => exact hflat _ (by decide +kernel) | 21, _ => exact hflat _ (by decide +kernel) | 22, _ => exact hflat _ (by decide +kernel) | 23, _ => exact hflat _ (by decide +kernel) | 24, _ => exact hflat _ (by decide +kernel) | 25, _ => exact hflat _ (by decide +kernel) | q + 26, hq => exact absurd hq (by omega))
  have vz_cMan : va_Z RX7 "SHOTS_BY_HOW_MANY" "[I" (.ref b_cMan) (fun q : Nat => s.heap.size ≤ q) s s.heap := va_Zref (hts (.laysStatic RX7 "SHOTS_BY_HOW_MANY" "[I") (by decide +kernel)) (hts (.initialized RX7) (by decide +kernel)) ev_cMan hz
  have hNA : cNA D C (fun q : Nat => s.heap.size ≤ q) (fun i => if i = 0 then b_cLif else if i = 1 then b_cKin else b_cMan) s := ⟨(va_Nw.of rfl (hts (.methodLinkNest RX2 53 yX7_isIn RX7) (by decide +kernel))), (va_Nw.of rfl (hts (.fieldLinkNest RX6 56 RX7 "LIFT" "[I" RX7) (by decide +kernel))), (va_Nw.of rfl (hts (.fieldLinkNest RX6 63 RX7 "SHOTS_BY_KIND" "[I" RX7) (by decide +kernel))), vz_cLif, vz_cKin, vz_cMan, xx_cLif, xx_cKin, xx_cMan, (by intro i hi; match i, hi with | 0, _ => exact ⟨hz _ lt_cLif, lt_cLif⟩ | 1, _ => exact ⟨hz _ lt_cKin, lt_cKin⟩ | 2, _ => exact ⟨hz _ lt_cMan, lt_cMan⟩ | q + 3, hq => exact absurd hq (by omega)), rfl, rfl⟩
  have hP : va_P D vwCl (([] : va_W) ++ ([] : va_W)) s.heap := fun k q h => by simp at h
  have hD : va_D (fun q : Nat => s.heap.size ≤ q) (([] : va_W) ++ ([] : va_W)) := ⟨fun i j p q h => by simp at h, fun k q h => by simp at h⟩
  have hS : va_S (fun q : Nat => s.heap.size ≤ q) s.heap s.heap [] := va_S.rf
  have hl := lv_entry ([.ref b]) (n := 4) (Nat.le_of_ble_eq_true rfl)
  rw [lg_entry_eq]
  generalize (lg_sl ([.ref b]) ++ List.replicate (4 - (lg_sl ([.ref b])).length) Slot.unset).toArray = ls at hl ⊢
  replace hl : lv_has ls 4 [(0, .ref b)] := hl
  generalize (fun i : Nat => if i = 0 then b_cLif else if i = 1 then b_cKin else b_cMan) = bb at hNA
  refine kn_new (X := []) (tl := ([] : va_W)) (ci := 7) (fs := [.null, .int (iZ 0), .null, .null, .null, .null, .null, .null, .null, .null, .null, .null, .long (iL 0)]) (RC := RX7) (T := TX7) (N := 13) hx hb hts wl_X7 tyX7 tyX7_ok hown (hts (.classLink RL 7 RX7) (by decide +kernel)) (hts (.instantiable RX7 13) (by decide +kernel)) (hts (.initialized RX7) (by decide +kernel)) hKc hP hD hS hA rfl (by intro j hj; match j, hj with | 0, _ => rfl | 1, _ => rfl | 2, _ => rfl | 3, _ => rfl | 4, _ => rfl | 5, _ => rfl | 6, _ => rfl | 7, _ => rfl | 8, _ => rfl | 9, _ => rfl | 10, _ => rfl | 11, _ => rfl | 12, _ => rfl | n + 13, h => exact absurd h (by omega)) (Nat.le_of_ble_eq_true rfl) (Nat.le_of_ble_eq_true rfl) dL_law_0 (fun q0 H hP hD hS => ?_)
  refine W.widen (k := 1) (n := 13) (Nat.le_refl _) (Nat.le_refl _) ?_
  refine lv_dup hx hb dL_law_3 rfl ?_
  have hFc := va_free (wc := [(q0, .inr (7, [.null, .int (iZ 0), .null, .null, .null, .null, .null, .null, .null, .null, .null, .null, .long (iL 0)]))]) hD hS hA [0] rfl
  have hPc : va_P D vwCl [(q0, .inr (7, [.null, .int (iZ 0), .null, .null, .null, .null, .null, .null, .null, .null, .null, .null, .long (iL 0)]))] H := hP.sub (ws' := [(q0, .inr (7, [.null, .int (iZ 0), .null, .null, .null, .null, .null, .null, .null, .null, .null, .null, .long (iL 0)]))]) [0] rfl
  have hDc := hD.sub (ws' := [(q0, .inr (7, [.null, .int (iZ 0), .null, .null, .null, .null, .null, .null, .null, .null, .null, .null, .long (iL 0)]))]) [0] (by decide) rfl
  refine va_callv (va_runI (As := []) (rest := [.ref q0]) ⟨hx, hb, hml, hown, htsL⟩ (K_X7_init l D C q0 H.size bb) (cwI 0 htsL gL_law_X7_init rfl rfl rfl (hts (.initialized RX7) (by decide +kernel)) (hts (.methodLink RL 9 yX7_init) (by decide +kernel)) (hts (.instanceMethod yX7_init) (by decide +kernel)) rfl (by decide +kernel) ⟨Nat.le_of_ble_eq_true rfl, Nat.le_of_ble_eq_true rfl⟩) ⟨fun a U g mk q => by obtain ⟨q0, q1, qP, qK, qD, qE, qF⟩ := q; exact ⟨q0, q1, qP, va_K.moved (u := U) (U := U.calling g mk a) (Vm.Alike.refl U.vm) qK, qD, qE.bl, qF.bl⟩, fun U hU hW => ⟨rfl, by rw [hU], by rw [hU]; exact hPc, va_K.moved hW.alike hKc, hDc.weaken (fun _ _ _ _ => trivial), hp7.mv hW, (hNA.moved hS hU hW).nar hFc⟩⟩ rfl rfl hl.1 rfl (lv_room (Nat.le_of_ble_eq_true rfl)) dL_law_4 ⟨Nat.le_of_ble_eq_true rfl, Nat.le_of_ble_eq_true rfl⟩) hS (fun q _ h => hFc q h) hFc (fun a t H1 locs ht hvm hw hB hz1 hk1 hS => ?_)
  obtain ⟨hP1, hD1⟩ := hB
  rw [ht] at hP1
  have hDa : va_D (fun q : Nat => s.heap.size ≤ q) (cW C a cV1) := hD1.weaken (fun k q _ h => hFc q.1 h)
  subst hw
  clear hFc hPc hDc hk1 hz1 hP hD hD1 ht hvm
  generalize H1 = H at hP1 hS ⊢
  refine W.widen (k := 204) (n := 1445) (Nat.le_refl _) (Nat.le_refl _) ?_
  refine lv_astore_n (lv' := [(1, .ref (a 0)), (0, .ref b)]) hx hb dL_law_7 rfl hl (by decide) rfl (fun ls hl => ?_)
  replace hP : va_P D vwCl (([] : va_W) ++ cW C a cV1) H := hP1
  replace hD : va_D (fun q : Nat => s.heap.size ≤ q) (([] : va_W) ++ cW C a cV1) := hDa
  refine kn_new (X := []) (tl := cW C a cV1) (ci := 8) (fs := [.null, .int (iZ 0), .null, .null, .null, .null, .null, .null, .null, .null, .null, .null, .int (iZ 0), .int (iZ 0), .int (iZ 0), .int (iZ 0), .int (iZ 0), .int (iZ 0), .int (iZ 0), .null, .null, .null, .null, .null, .null, .null, .null, .null, .int (iZ 0), .long (iL 0)]) (RC := RX8) (T := TX8) (N := 30) hx hb hts wl_X8 tyX8 tyX8_ok hown (hts (.classLink RL 10 RX8) (by decide +kernel)) (hts (.instantiable RX8 30) (by decide +kernel)) (hts (.initialized RX8) (by decide +kernel)) hKc hP hD hS hA rfl (by intro j hj; match j, hj with | 0, _ => rfl | 1, _ => rfl | 2, _ => rfl | 3, _ => rfl | 4, _ => rfl | 5, _ => rfl | 6, _ => rfl | 7, _ => rfl | 8, _ => rfl | 9, _ => rfl | 10, _ => rfl | 11, _ => rfl | 12, _ => rfl | 13, _ => rfl | 14, _ => rfl | 15, _ => rfl | 16, _ => rfl | 17, _ => rfl | 18, _ => rfl | 19, _ => rfl | 20, _ => rfl | 21, _ => rfl | 22, _ => rfl | 23, _ => rfl | 24, _ => rfl | 25, _ => rfl | 26, _ => rfl | 27, _ => rfl | 28, _ => rfl | 29, _ => rfl | n + 30, h => exact absurd h (by omega)) (Nat.le_of_ble_eq_true rfl) (Nat.le_of_ble_eq_true rfl) dL_law_8 (fun h2 H hP hD hS => ?_)
  refine W.widen (k := 205) (n := 1475) (Nat.le_refl _) (Nat.le_refl _) ?_
  refine lv_dup hx hb dL_law_11 rfl ?_
  have hFc := va_free (wc := [(h2, .inr (8, [.null, .int (iZ 0), .null, .null, .null, .null, .null, .null, .null, .null, .null, .null, .int (iZ 0), .int (iZ 0), .int (iZ 0), .int (iZ 0), .int (iZ 0), .int (iZ 0), .int (iZ 0), .null, .null, .null, .null, .null, .null, .null, .null, .null, .int (iZ 0), .long (iL 0)]))]) hD hS hA [0] rfl
  have hPc : va_P D vwCl [(h2, .inr (8, [.null, .int (iZ 0), .null, .null, .null, .null, .null, .null, .null, .null, .null, .null, .int (iZ 0), .int (iZ 0), .int (iZ 0), .int (iZ 0), .int (iZ 0), .int (iZ 0), .int (iZ 0), .null, .null, .null, .null, .null, .null, .null, .null, .null, .int (iZ 0), .long (iL 0)]))] H := hP.sub (ws' := [(h2, .inr (8, [.null, .int (iZ 0), .null, .null, .null, .null, .null, .null, .null, .null, .null, .null, .int (iZ 0), .int (iZ 0), .int (iZ 0), .int (iZ 0), .int (iZ 0), .int (iZ 0), .int (iZ 0), .null, .null, .null, .null, .null, .null, .null, .null, .null, .int (iZ 0), .long (iL 0)]))]) [0] rfl
  have hDc := hD.sub (ws' := [(h2, .inr (8, [.null, .int (iZ 0), .null, .null, .null, .null, .null, .null, .null, .null, .null, .null, .int (iZ 0), .int (iZ 0), .int (iZ 0), .int (iZ 0), .int (iZ 0), .int (iZ 0), .int (iZ 0), .null, .null, .null, .null, .null, .null, .null, .null, .null, .int (iZ 0), .long (iL 0)]))]) [0] (by decide) rfl
  refine va_callv (va_runI (As := []) (rest := [.ref h2]) ⟨hx, hb, hml, hown, htsL⟩ (K_X8_init l D C2 h2 H.size) (cwI 0 htsL gL_law_X8_init rfl rfl rfl (hts (.initialized RX8) (by decide +kernel)) (hts (.methodLink RL 12 yX8_init) (by decide +kernel)) (hts (.instanceMethod yX8_init) (by decide +kernel)) rfl (by decide +kernel) ⟨Nat.le_of_ble_eq_true rfl, Nat.le_of_ble_eq_true rfl⟩) ⟨fun a U g mk q => by obtain ⟨q0, q1, qP, qK, qD⟩ := q; exact ⟨q0, q1, qP, va_K.moved (u := U) (U := U.calling g mk a) (Vm.Alike.refl U.vm) qK, qD⟩, fun U hU hW => ⟨rfl, by rw [hU], by rw [hU]; exact hPc, va_K.moved hW.alike hKm, hDc.weaken (fun _ _ _ _ => trivial)⟩⟩ rfl rfl hl.1 rfl (lv_room (Nat.le_of_ble_eq_true rfl)) dL_law_12 ⟨Nat.le_of_ble_eq_true rfl, Nat.le_of_ble_eq_true rfl⟩) hS (fun q _ h => hFc q h) hFc (fun a2 t H1 locs ht hvm hw hB hz1 hk1 hS => ?_)
  obtain ⟨hP1, hD1, hjk⟩ := hB
  rw [ht] at hP1
  obtain ⟨hP, hD⟩ := kn_join (X := []) hP hD hk1 hFc hP1 hD1
  clear hFc hPc hDc hk1 hz1 hP1 hD1 ht hvm hw hDa
  generalize H1 = H at hP hS ⊢
  replace hP : va_P D vwCl (mW C2 h2 a2 mM0 ++ cW C a cV1) H := hP
  replace hD : va_D (fun q : Nat => s.heap.size ≤ q) (mW C2 h2 a2 mM0 ++ cW C a cV1) := hD
  have hdj : ∀ q, cA a q → ¬ mA h2 a2 q := by
    rintro q ⟨i, hi, rfl⟩ z
    have hc9 := cW_get (C := C) (a := a) (V := cV1) hi rfl
    rcases z with z | ⟨k, z⟩
    · exact hD.dj (i := 0) (p := (h2, .inr (8, mF a2 mM0))) rfl hc9 z.symm
    · obtain ⟨j, e9, hj⟩ := hjk k
      exact hD.dj hj hc9 z.symm
  have hPm := hP.lft
  have hDm := hD.lft
  have hPc := hP.rgt
  have hDc := hD.rgt
  clear hP hD
  refine W.widen (k := 600000) (n := 7302250) (Nat.le_of_ble_eq_true rfl) (Nat.le_of_ble_eq_true rfl) ?_
  refine lv_astore_n (lv' := [(2, .ref h2), (1, .ref (a 0)), (0, .ref b)]) hx hb dL_law_15 rfl hl (by decide) rfl (fun ls hl => ?_)
  refine lv_iconst (v := iZ 0) hx hb dL_law_16 (by decide) ?_
  refine lv_istore_n (lv' := [(3, .int (iZ 0)), (2, .ref h2), (1, .ref (a 0)), (0, .ref b)]) hx hb dL_law_17 rfl hl (by decide) rfl (fun ls hl => ?_)
  exact q_loop l C0 hL hKc hKm hNA hDc hDm (mA_of hDm hjk) hdj _ _ hPc hPm hS _ hl
