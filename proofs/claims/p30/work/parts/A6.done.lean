set_option maxHeartbeats 20000000 in
set_option maxRecDepth 100000 in
theorem K_X7_lets (l : Launch) (D : va_G) (C : cC) (a b : Nat → Nat) (V : Nat → Nat → Int) (pe : Int) (sy : Int) (fe : Int) (nn : Int) (sd : Int) (hI : cI V) (h0 : -2147483648 ≤ pe ∧ pe < 2147483648) (h1 : -2147483648 ≤ sy ∧ sy < 2147483648) (h2 : -2147483648 ≤ fe ∧ fe < 2147483648) (h3 : -2147483648 ≤ nn ∧ nn < 2147483648) (h4 : -2147483648 ≤ sd ∧ sd < 2147483648) (hDD : va_D (fun _ => True) (cW C a V)) : Met l yX7_lets wsX7_lets ({ frames := 5, cells := 0, slots := 0, locals := 109 }) (va_Pc [.ref (a 0), .int (iZ pe), .int (iZ sy), .int (iZ fe), .int (iZ nn), .int (iZ sd)] (cOk D C a b V)) (va_Qi (fun r (_ : Unit) => r = iZ (c_letR V pe sy fe nn sd)) (fun _ t => cPo D C a (c_letS V pe sy fe nn sd) t) (cA a)) 0 0 (cA a) := by
  refine Met.ofW (cc := cX7_lets) (maxL := 8) (ret := (some .int)) (by decide) rfl ?_
  intro p e s m args below meth c s₁ B hml hv
  obtain ⟨rfl, hP, hK, hN⟩ := hv
  have hx := B.exec
  have hb := B.bytes
  have hr := B.returns
  have hts := atoms_spec (ws := wsX7_lets) B.pre
  have hown : s.vm.findClass RX7 = some m.cls := findClass_of_methodNamed B.named
  have hlocks := B.notSynchronized
  have hin_X7 : ∀ w ∈ wsX70, w ∈ wsX7_lets := fun _ w_h => (List.mem_cons_of_mem _ (List.mem_append_left _ (List.mem_append_left _ (List.mem_append_left _ (List.mem_append_right _ w_h)))))
  have hin_X2 : ∀ w ∈ wsX20, w ∈ wsX7_lets := fun _ w_h => (List.mem_cons_of_mem _ (List.mem_append_left _ (List.mem_append_left _ (List.mem_append_right _ w_h))))
  have hin_X6 : ∀ w ∈ wsX60, w ∈ wsX7_lets := fun _ w_h => (List.mem_cons_of_mem _ (List.mem_append_left _ (List.mem_append_right _ w_h)))
  have hin_X3 : ∀ w ∈ wsX30, w ∈ wsX7_lets := fun _ w_h => (List.mem_cons_of_mem _ (List.mem_append_right _ w_h))
  have hl := lv_entry ([.ref (a 0), .int (iZ pe), .int (iZ sy), .int (iZ fe), .int (iZ nn), .int (iZ sd)]) (n := 8) (Nat.le_of_ble_eq_true rfl)
  rw [lg_entry_eq]
  generalize (lg_sl ([.ref (a 0), .int (iZ pe), .int (iZ sy), .int (iZ fe), .int (iZ nn), .int (iZ sd)]) ++ List.replicate (8 - (lg_sl ([.ref (a 0), .int (iZ pe), .int (iZ sy), .int (iZ fe), .int (iZ nn), .int (iZ sd)])).length) Slot.unset).toArray = ls at hl ⊢
  replace hl : lv_has ls 8 [(0, .ref (a 0)), (1, .int (iZ pe)), (2, .int (iZ sy)), (3, .int (iZ fe)), (4, .int (iZ nn)), (5, .int (iZ sd))] := hl
  have hD : va_D (cA a) (cW C a V) := cD_own hDD
  generalize hHe : s.heap = H at hP ⊢
  have hS : va_S (cA a) s.heap H [] := by rw [hHe]; exact va_S.rf
  generalize hlo : ([] : List Loc) = locs at hS ⊢
  clear hHe hlo
  obtain ⟨hto, hto4, hne, htx, hT, hM, hpa, hpi, hki, hsz, hsg, hby⟩ := id hI
  have hnt := hT.now
  have hnm := hM.now
  refine lv_aload_n hx hb dX7_lets_0 rfl (lv_at hl 0 rfl) ?_
  refine lv_iload_n hx hb dX7_lets_1 rfl (lv_at hl 1 rfl) ?_
  refine lv_iload_n hx hb dX7_lets_2 rfl (lv_at hl 2 rfl) ?_
  refine lv_iload_n hx hb dX7_lets_3 rfl (lv_at hl 3 rfl) ?_
  refine W.eq (g2 := F0 m 4 ls [.int (iZ fe), .int (iZ sy), .int (iZ pe), .ref (a 0)]) rfl ?_
  refine lv_iload hx hb dX7_lets_4 (lv_at hl 4 rfl) ?_
  refine lv_iload hx hb dX7_lets_6 (lv_at hl 5 rfl) ?_
  refine kq_ci (i := 0) (As := [.int (iZ pe), .int (iZ sy), .int (iZ fe), .int (iZ nn), .int (iZ sd)]) (rest := []) ⟨hx, hb, hml, hown, hts⟩ hK hP hN hS (by decide) (cE_0 rfl) rfl (K_X7_isLetOff l D C a b V pe sy fe nn sd hI (by omega) (by omega) (by omega) (by omega) (by omega)) (cwV 5 hts gX7_lets_X7_isLetOff rfl rfl rfl (by decide +kernel) ⟨Nat.le_of_ble_eq_true rfl, Nat.le_of_ble_eq_true rfl⟩) rfl rfl hl.1 (Nat.le_of_ble_eq_true rfl) ⟨Nat.le_of_ble_eq_true rfl, Nat.le_of_ble_eq_true rfl⟩ dX7_lets_8 ?_
  refine z_ifb_ne (P := (0 ≤ pe ∧ pe < V (Int.toNat (V 0 3)) 7) ∧ (0 ≤ sy ∧ sy < V (Int.toNat (V 0 3)) 8) ∧ (0 ≤ fe ∧ fe ≤ 3) ∧ (0 ≤ nn ∧ nn ≤ 3) ∧ (0 ≤ sd ∧ sd ≤ 1)) (tgt := 16) hx hb dX7_lets_11 (by decide) (fun c1 => ?_) (fun c1 => ?_)
  · refine lv_aload_n hx hb dX7_lets_16 rfl (lv_at hl 0 rfl) ?_
    refine kq_get (i := 0) hx hb hts hin_X7 hown hK hP (by decide) (cE_0 rfl) rfl 5 (by decide) (hts (.fieldLink RX7 39 "WordFletchers" "moment" "LWordFletchers$Moment;") (List.mem_cons_of_mem _ (List.mem_append_left _ (List.mem_append_left _ (List.mem_append_left _ (List.mem_append_left _ (List.mem_append_left _ (List.mem_of_getElem? (i := 0) rfl)))))))) rfl dX7_lets_17 ?_
    refine lv_iload_n hx hb dX7_lets_20 rfl (lv_at hl 1 rfl) ?_
    refine lv_iload_n hx hb dX7_lets_21 rfl (lv_at hl 2 rfl) ?_
    refine kq_ci (i := 39) (As := [.int (iZ pe), .int (iZ sy)]) (rest := []) ⟨hx, hb, hml, hown, hts⟩ hK hP hN hS (isMo.l0 isMo_39) (cE_26 (isMo.s0 isMo_39)) rfl (K_X2_isKnown l D C a b V 39 isMo_39 pe sy (by assumption) (by omega) (by omega)) (cwV 2 hts gX7_lets_X2_isKnown rfl rfl rfl (by decide +kernel) ⟨Nat.le_of_ble_eq_true rfl, Nat.le_of_ble_eq_true rfl⟩) rfl rfl hl.1 (Nat.le_of_ble_eq_true rfl) ⟨Nat.le_of_ble_eq_true rfl, Nat.le_of_ble_eq_true rfl⟩ dX7_lets_22 ?_
    refine z_ifb_eq (P := (V 41 (Int.toNat pe) / zp sy % 2 = 1)) (tgt := 42) hx hb dX7_lets_25 (by decide) (fun c2 => ?_) (fun c2 => ?_)
    · refine lv_bipush (v := iZ (-2)) hx hb dX7_lets_42 (by decide) ?_
      exact kq_retM hx hb hK hP hS hr rfl (by unfold c_letR; first | exact (if_neg (by omega)).symm | (rw [if_pos (by omega)]; first | exact (if_neg (by omega)).symm | (rw [if_pos ⟨by assumption, by omega⟩]; exact hhe2))) (by unfold c_letS; first | exact (if_neg (by omega)).symm | (rw [if_pos ⟨by omega, by assumption, by omega⟩, ← hla2, ← hhe2]; unfold c_lts; rw [hr3]; first | (rw [if_pos (by omega)]; done) | (rw [if_pos (by omega)]; subst_vars; rfl) | (rw [if_neg (by omega)]; done))) dX7_lets_44 hlocks
    · refine W.eq (g2 := F0 m 28 ls []) rfl ?_
      have hfe9 : 0 ≤ V 40 (Int.toNat fe) ∧ V 40 (Int.toNat fe) ≤ 20 := hM.fe (k := fe) (by omega)
      refine lv_aload_n hx hb dX7_lets_28 rfl (lv_at hl 0 rfl) ?_
      refine kq_get (i := 0) hx hb hts hin_X7 hown hK hP (by decide) (cE_0 rfl) rfl 5 (by decide) (hts (.fieldLink RX7 39 "WordFletchers" "moment" "LWordFletchers$Moment;") (List.mem_cons_of_mem _ (List.mem_append_left _ (List.mem_append_left _ (List.mem_append_left _ (List.mem_append_left _ (List.mem_append_left _ (List.mem_of_getElem? (i := 0) rfl)))))))) rfl dX7_lets_29 ?_
      refine kq_get (i := 39) hx hb hts hin_X2 hown hK hP (isMo.l0 isMo_39) (cE_26 (isMo.s0 isMo_39)) rfl 3 (by decide) (hts (.fieldLink RX7 142 "WordFletchers$Moment" "feathers" "[I") (List.mem_cons_of_mem _ (List.mem_append_left _ (List.mem_append_left _ (List.mem_append_left _ (List.mem_append_left _ (List.mem_append_left _ (List.mem_of_getElem? (i := 1) rfl)))))))) rfl dX7_lets_32 ?_
      refine lv_iload_n hx hb dX7_lets_35 rfl (lv_at hl 3 rfl) ?_
      refine kq_iald (i := 40) hx hb hK hP (isMo.l1 isMo_39) (n := 4) (cE_27 (isMo.s1 isMo_39)) (by decide) (Int.toNat fe) rfl (by omega) dX7_lets_36 ?_
      refine lv_iload hx hb dX7_lets_37 (lv_at hl 4 rfl) ?_
      refine z_icmp_ge (x := (V 40 (Int.toNat fe))) (y := nn) (tgt := 45) hx hb (by omega) (by omega) dX7_lets_39 (by decide) (fun c3 => ?_) (fun c3 => ?_)
      · refine lv_aload_n hx hb dX7_lets_45 rfl (lv_at hl 0 rfl) ?_
        refine lv_iload_n hx hb dX7_lets_46 rfl (lv_at hl 1 rfl) ?_
        refine lv_iload_n hx hb dX7_lets_47 rfl (lv_at hl 2 rfl) ?_
        refine lv_iload_n hx hb dX7_lets_48 rfl (lv_at hl 3 rfl) ?_
        refine lv_iload hx hb dX7_lets_49 (lv_at hl 4 rfl) ?_
        refine W.eq (g2 := F0 m 51 ls [.int (iZ nn), .int (iZ fe), .int (iZ sy), .int (iZ pe), .ref (a 0)]) rfl ?_
        refine lv_iload hx hb dX7_lets_51 (lv_at hl 5 rfl) ?_
        refine kq_cs (As := [.int (iZ fe), .int (iZ nn), .int (iZ sd)]) (rest := [.int (iZ sy), .int (iZ pe), .ref (a 0)]) ⟨hx, hb, hml, hown, hts⟩ (K_X7_shotOf l fe nn sd (by omega) (by omega) (by omega)) (va_cwS 3 hts gX7_lets_X7_shotOf rfl rfl rfl (by decide +kernel) ⟨Nat.le_of_ble_eq_true rfl, Nat.le_of_ble_eq_true rfl⟩) rfl rfl hl.1 (Nat.le_of_ble_eq_true rfl) ⟨Nat.le_of_ble_eq_true rfl, Nat.le_of_ble_eq_true rfl⟩ dX7_lets_53 ?_
        refine kq_ci (i := 0) (As := [.int (iZ pe), .int (iZ sy), .int (iZ (100 * fe + 10 * nn + sd))]) (rest := []) ⟨hx, hb, hml, hown, hts⟩ hK hP hN hS (by decide) (cE_0 rfl) rfl (K_X7_landingNow l D C a b V pe sy (100 * fe + 10 * nn + sd) hI (by omega) (by omega) (by omega) (by omega)) (cwV 3 hts gX7_lets_X7_landingNow rfl rfl rfl (by decide +kernel) ⟨Nat.le_of_ble_eq_true rfl, Nat.le_of_ble_eq_true rfl⟩) rfl rfl hl.1 (Nat.le_of_ble_eq_true rfl) ⟨Nat.le_of_ble_eq_true rfl, Nat.le_of_ble_eq_true rfl⟩ dX7_lets_56 ?_
        have hcl := c_la_bd V pe sy (100 * fe + 10 * nn + sd) (c_wind V 0)
        have hco := c_la_or V pe sy (100 * fe + 10 * nn + sd) (c_wind V 0)
        refine z_nm (fun la hla => ?_)
        have hla2 : la = c_ll V pe sy fe nn sd := hla
        rw [← hla] at hcl hco
        refine lv_istore (lv' := [(6, .int (iZ la)), (0, .ref (a 0)), (1, .int (iZ pe)), (2, .int (iZ sy)), (3, .int (iZ fe)), (4, .int (iZ nn)), (5, .int (iZ sd))]) hx hb dX7_lets_59 hl (by decide) rfl (fun ls hl => ?_)
        refine lv_aload_n hx hb dX7_lets_61 rfl (lv_at hl 1 rfl) ?_
        refine kq_get (i := 0) hx hb hts hin_X7 hown hK hP (by decide) (cE_0 rfl) rfl 3 (by decide) (hts (.fieldLink RX7 29 "WordFletchers" "told" "LWordFletchers$Told;") (List.mem_cons_of_mem _ (List.mem_append_left _ (List.mem_append_left _ (List.mem_append_left _ (List.mem_append_left _ (List.mem_append_left _ (List.mem_of_getElem? (i := 2) rfl)))))))) rfl dX7_lets_62 ?_
        refine lv_iload_n hx hb dX7_lets_65 rfl (lv_at hl 2 rfl) ?_
        refine lv_iload hx hb dX7_lets_66 (lv_at hl 0 rfl) ?_
        refine kq_ci (i := (Int.toNat (V 0 3))) (As := [.int (iZ pe), .int (iZ la)]) (rest := []) ⟨hx, hb, hml, hown, hts⟩ hK hP hN hS (isTo.l0 (by assumption)) (cE_15 (isTo.s0 (by assumption))) rfl (K_X6_hearers l D C a b V (Int.toNat (V 0 3)) (by assumption) pe la (by assumption) (by omega) (by omega)) (cwV 2 hts gX7_lets_X6_hearers rfl rfl rfl (by decide +kernel) ⟨Nat.le_of_ble_eq_true rfl, Nat.le_of_ble_eq_true rfl⟩) rfl rfl hl.1 (Nat.le_of_ble_eq_true rfl) ⟨Nat.le_of_ble_eq_true rfl, Nat.le_of_ble_eq_true rfl⟩ dX7_lets_68 ?_
        have hhe9 := s_heN_bd (V ((Int.toNat (V 0 3)) + 1)) (V ((Int.toNat (V 0 3)) + 2)) la pe (Int.toNat (V (Int.toNat (V 0 3)) 7)) 6 (by omega)
        refine z_nm (fun he hhe => ?_)
        have hhe2 : he = c_lh V pe sy fe nn sd := by rw [hhe, hla2]; rfl
        rw [← hhe] at hhe9
        refine lv_istore (lv' := [(7, .int (iZ he)), (6, .int (iZ la)), (0, .ref (a 0)), (1, .int (iZ pe)), (2, .int (iZ sy)), (3, .int (iZ fe)), (4, .int (iZ nn)), (5, .int (iZ sd))]) hx hb dX7_lets_71 hl (by decide) rfl (fun ls hl => ?_)
        refine lv_aload_n hx hb dX7_lets_73 rfl (lv_at hl 2 rfl) ?_
        refine kq_get (i := 0) hx hb hts hin_X7 hown hK hP (by decide) (cE_0 rfl) rfl 6 (by decide) (hts (.fieldLink RX7 46 "WordFletchers" "past" "LWordFletchers$Past;") (List.mem_cons_of_mem _ (List.mem_append_left _ (List.mem_append_left _ (List.mem_append_left _ (List.mem_append_left _ (List.mem_append_left _ (List.mem_of_getElem? (i := 3) rfl)))))))) rfl dX7_lets_74 ?_
        refine W.eq (g2 := F0 m 77 ls [.ref (a 31)]) rfl ?_
        refine lv_aload_n hx hb dX7_lets_77 rfl (lv_at hl 2 rfl) ?_
        refine kq_get (i := 0) hx hb hts hin_X7 hown hK hP (by decide) (cE_0 rfl) rfl 5 (by decide) (hts (.fieldLink RX7 39 "WordFletchers" "moment" "LWordFletchers$Moment;") (List.mem_cons_of_mem _ (List.mem_append_left _ (List.mem_append_left _ (List.mem_append_left _ (List.mem_append_left _ (List.mem_append_left _ (List.mem_of_getElem? (i := 0) rfl)))))))) rfl dX7_lets_78 ?_
        refine kq_cv (i := 31) (As := [.ref (a 39)]) (rest := []) ⟨hx, hb, hml, hown, hts⟩ hK hP hN hD hS (isPa.l0 isPa_31) (cE_23 (isPa.s0 isPa_31)) rfl (K_X3_remember l D C a b V 31 isPa_31 39 isMo_39 hpa (hD.weaken (fun _ _ _ _ => trivial))) (cwV 1 hts gX7_lets_X3_remember rfl rfl rfl (by decide +kernel) ⟨Nat.le_of_ble_eq_true rfl, Nat.le_of_ble_eq_true rfl⟩) rfl rfl hl.1 (Nat.le_of_ble_eq_true rfl) ⟨Nat.le_of_ble_eq_true rfl, Nat.le_of_ble_eq_true rfl⟩ dX7_lets_81 (fun H locs hP hD hS => ?_)
        obtain ⟨V4, hV4⟩ : ∃ z : Nat → Nat → Int, z = (f_rem V 31 39) := ⟨_, rfl⟩
        rw [← hV4] at hP hD
        have e39 : V4 39 = V 39 := by rw [hV4]; exact f_rem_lo hpa (by omega)
        have hM1 : moI V4 39 := by rw [hV4]; exact moI_rem hM hpa
        have e40 : V4 40 (Int.toNat fe) = V 40 (Int.toNat fe) := by rw [hV4]; exact congrFun (f_rem_lo hpa (by omega)) _
        have hr1 := hV4
        refine lv_aload_n hx hb dX7_lets_84 rfl (lv_at hl 2 rfl) ?_
        refine kq_get (i := 0) hx hb hts hin_X7 hown hK hP (by decide) (cE_0 rfl) rfl 5 (by decide) (hts (.fieldLink RX7 39 "WordFletchers" "moment" "LWordFletchers$Moment;") (List.mem_cons_of_mem _ (List.mem_append_left _ (List.mem_append_left _ (List.mem_append_left _ (List.mem_append_left _ (List.mem_append_left _ (List.mem_of_getElem? (i := 0) rfl)))))))) rfl dX7_lets_85 ?_
        refine kq_get (i := 39) hx hb hts hin_X2 hown hK hP (isMo.l0 isMo_39) (cE_26 (isMo.s0 isMo_39)) rfl 3 (by decide) (hts (.fieldLink RX7 142 "WordFletchers$Moment" "feathers" "[I") (List.mem_cons_of_mem _ (List.mem_append_left _ (List.mem_append_left _ (List.mem_append_left _ (List.mem_append_left _ (List.mem_append_left _ (List.mem_of_getElem? (i := 1) rfl)))))))) rfl dX7_lets_88 ?_
        refine lv_iload_n hx hb dX7_lets_91 rfl (lv_at hl 5 rfl) ?_
        refine lv_dup2_11 hx hb dX7_lets_92 rfl rfl ?_
        refine kq_iald (i := 40) hx hb hK hP (isMo.l1 isMo_39) (n := 4) (cE_27 (isMo.s1 isMo_39)) (by decide) (Int.toNat fe) rfl (by omega) dX7_lets_93 ?_
        refine lv_iload hx hb dX7_lets_94 (lv_at hl 6 rfl) ?_
        refine z_isub hx hb dX7_lets_96 ?_
        refine kq_iast (i := 40) hx hb hK hP hD hS (isMo.l1 isMo_39) (n := 4) (cE_27 (isMo.s1 isMo_39)) (by decide) (Int.toNat fe) rfl (by omega) dX7_lets_97 (fun H locs hP hD hS => ?_)
        obtain ⟨V5, hV5⟩ : ∃ z : Nat → Nat → Int, z = (mU V4 40 (Int.toNat fe) ((V4 40 (Int.toNat fe)) - nn)) := ⟨_, rfl⟩
        rw [← hV5] at hP hD
        have hM2 : moI V5 39 := by rw [hV5]; exact moI_fe hM1 (by omega)
        have hkn2 : ∀ k : Nat, k < 6 → 0 ≤ V5 (39 + 2) k := fun k hk => (hM2.2.2.2.2.1 k hk).1
        have hr2 : c_lt1 V fe nn = V5 := by rw [hV5, hr1]; rfl
        refine W.eq (g2 := F0 m 98 ls []) rfl ?_
        refine lv_aload_n hx hb dX7_lets_98 rfl (lv_at hl 2 rfl) ?_
        refine kq_get (i := 0) hx hb hts hin_X7 hown hK hP (by decide) (cE_0 rfl) rfl 5 (by decide) (hts (.fieldLink RX7 39 "WordFletchers" "moment" "LWordFletchers$Moment;") (List.mem_cons_of_mem _ (List.mem_append_left _ (List.mem_append_left _ (List.mem_append_left _ (List.mem_append_left _ (List.mem_append_left _ (List.mem_of_getElem? (i := 0) rfl)))))))) rfl dX7_lets_99 ?_
        refine lv_iload hx hb dX7_lets_102 (lv_at hl 0 rfl) ?_
        refine lv_iload_n hx hb dX7_lets_104 rfl (lv_at hl 4 rfl) ?_
        refine kq_cv (i := 39) (As := [.int (iZ he), .int (iZ sy)]) (rest := []) ⟨hx, hb, hml, hown, hts⟩ hK hP hN hD hS (isMo.l0 isMo_39) (cE_26 (isMo.s0 isMo_39)) rfl (K_X2_tell l D C a b V5 39 isMo_39 he sy (by omega) (by omega) hkn2 (hD.weaken (fun _ _ _ _ => trivial))) (cwV 2 hts gX7_lets_X2_tell rfl rfl rfl (by decide +kernel) ⟨Nat.le_of_ble_eq_true rfl, Nat.le_of_ble_eq_true rfl⟩) rfl rfl hl.1 (Nat.le_of_ble_eq_true rfl) ⟨Nat.le_of_ble_eq_true rfl, Nat.le_of_ble_eq_true rfl⟩ dX7_lets_105 (fun H locs hP hD hS => ?_)
        obtain ⟨V6, hV6⟩ : ∃ z : Nat → Nat → Int, z = (f_tel V5 39 he sy) := ⟨_, rfl⟩
        rw [← hV6] at hP hD
        have hM3 : moI V6 39 := by rw [hV6]; exact moI_tel hM2 (by omega)
        have hr3 : f_tel (c_lt1 V fe nn) 39 he sy = V6 := by rw [hr2]; exact hV6.symm
        refine lv_iload hx hb dX7_lets_108 (lv_at hl 0 rfl) ?_
        refine z_if_ne (x := he) (tgt := 130) hx hb (by omega) dX7_lets_110 (by decide) (fun c7 => ?_) (fun c7 => ?_)
        · refine lv_iload hx hb dX7_lets_130 (lv_at hl 0 rfl) ?_
          exact kq_retM hx hb hK hP hS hr rfl (by unfold c_letR; first | exact (if_neg (by omega)).symm | (rw [if_pos (by omega)]; first | exact (if_neg (by omega)).symm | (rw [if_pos ⟨by assumption, by omega⟩]; exact hhe2))) (by unfold c_letS; first | exact (if_neg (by omega)).symm | (rw [if_pos ⟨by omega, by assumption, by omega⟩, ← hla2, ← hhe2]; unfold c_lts; rw [hr3]; first | (rw [if_pos (by omega)]; done) | (rw [if_pos (by omega)]; subst_vars; rfl) | (rw [if_neg (by omega)]; done))) dX7_lets_132 hlocks
        · refine lv_iload hx hb dX7_lets_113 (lv_at hl 1 rfl) ?_
          refine lv_bipush (v := iZ (-9)) hx hb dX7_lets_115 (by decide) ?_
          refine z_icmp_eq (x := la) (y := (-9)) (tgt := 130) hx hb (by omega) (by omega) dX7_lets_117 (by decide) (fun c8 => ?_) (fun c8 => ?_)
          · refine lv_iload hx hb dX7_lets_130 (lv_at hl 0 rfl) ?_
            exact kq_retM hx hb hK hP hS hr rfl (by unfold c_letR; first | exact (if_neg (by omega)).symm | (rw [if_pos (by omega)]; first | exact (if_neg (by omega)).symm | (rw [if_pos ⟨by assumption, by omega⟩]; exact hhe2))) (by unfold c_letS; first | exact (if_neg (by omega)).symm | (rw [if_pos ⟨by omega, by assumption, by omega⟩, ← hla2, ← hhe2]; unfold c_lts; rw [hr3]; first | (rw [if_pos (by omega)]; done) | (rw [if_pos (by omega)]; subst_vars; rfl) | (rw [if_neg (by omega)]; done))) dX7_lets_132 hlocks
          · refine lv_aload_n hx hb dX7_lets_120 rfl (lv_at hl 2 rfl) ?_
            refine kq_get (i := 0) hx hb hts hin_X7 hown hK hP (by decide) (cE_0 rfl) rfl 5 (by decide) (hts (.fieldLink RX7 39 "WordFletchers" "moment" "LWordFletchers$Moment;") (List.mem_cons_of_mem _ (List.mem_append_left _ (List.mem_append_left _ (List.mem_append_left _ (List.mem_append_left _ (List.mem_append_left _ (List.mem_of_getElem? (i := 0) rfl)))))))) rfl dX7_lets_121 ?_
            refine lv_iload_n hx hb dX7_lets_124 rfl (lv_at hl 4 rfl) ?_
            refine lv_iload hx hb dX7_lets_125 (lv_at hl 1 rfl) ?_
            refine kq_cv (i := 39) (As := [.int (iZ sy), .int (iZ la)]) (rest := []) ⟨hx, hb, hml, hown, hts⟩ hK hP hN hD hS (isMo.l0 isMo_39) (cE_26 (isMo.s0 isMo_39)) rfl (K_X2_addStray l D C a b V6 39 isMo_39 sy la (by assumption) (by omega) (by omega) (hD.weaken (fun _ _ _ _ => trivial))) (cwV 2 hts gX7_lets_X2_addStray rfl rfl rfl (by decide +kernel) ⟨Nat.le_of_ble_eq_true rfl, Nat.le_of_ble_eq_true rfl⟩) rfl rfl hl.1 (Nat.le_of_ble_eq_true rfl) ⟨Nat.le_of_ble_eq_true rfl, Nat.le_of_ble_eq_true rfl⟩ dX7_lets_127 (fun H locs hP hD hS => ?_)
            obtain ⟨V10, hV10⟩ : ∃ z : Nat → Nat → Int, z = (f_ads V6 39 sy la) := ⟨_, rfl⟩
            rw [← hV10] at hP hD
            refine W.eq (g2 := F0 m 130 ls []) rfl ?_
            refine lv_iload hx hb dX7_lets_130 (lv_at hl 0 rfl) ?_
            exact kq_retM hx hb hK hP hS hr rfl (by unfold c_letR; first | exact (if_neg (by omega)).symm | (rw [if_pos (by omega)]; first | exact (if_neg (by omega)).symm | (rw [if_pos ⟨by assumption, by omega⟩]; exact hhe2))) (by unfold c_letS; first | exact (if_neg (by omega)).symm | (rw [if_pos ⟨by omega, by assumption, by omega⟩, ← hla2, ← hhe2]; unfold c_lts; rw [hr3]; first | (rw [if_pos (by omega)]; done) | (rw [if_pos (by omega)]; subst_vars; rfl) | (rw [if_neg (by omega)]; done))) dX7_lets_132 hlocks
      · refine lv_bipush (v := iZ (-2)) hx hb dX7_lets_42 (by decide) ?_
        exact kq_retM hx hb hK hP hS hr rfl (by unfold c_letR; first | exact (if_neg (by omega)).symm | (rw [if_pos (by omega)]; first | exact (if_neg (by omega)).symm | (rw [if_pos ⟨by assumption, by omega⟩]; exact hhe2))) (by unfold c_letS; first | exact (if_neg (by omega)).symm | (rw [if_pos ⟨by omega, by assumption, by omega⟩, ← hla2, ← hhe2]; unfold c_lts; rw [hr3]; first | (rw [if_pos (by omega)]; done) | (rw [if_pos (by omega)]; subst_vars; rfl) | (rw [if_neg (by omega)]; done))) dX7_lets_44 hlocks
  · refine lv_iconst (v := iZ (-1)) hx hb dX7_lets_14 (by decide) ?_
    exact kq_retM hx hb hK hP hS hr rfl (by unfold c_letR; first | exact (if_neg (by omega)).symm | (rw [if_pos (by omega)]; first | exact (if_neg (by omega)).symm | (rw [if_pos ⟨by assumption, by omega⟩]; exact hhe2))) (by unfold c_letS; first | exact (if_neg (by omega)).symm | (rw [if_pos ⟨by omega, by assumption, by omega⟩, ← hla2, ← hhe2]; unfold c_lts; rw [hr3]; first | (rw [if_pos (by omega)]; done) | (rw [if_pos (by omega)]; subst_vars; rfl) | (rw [if_neg (by omega)]; done))) dX7_lets_15 hlocks
set_option maxHeartbeats 20000000 in
set_option maxRecDepth 100000 in
theorem K_X7_picks (l : Launch) (D : va_G) (C : cC) (a b : Nat → Nat) (V : Nat → Nat → Int) (pe : Int) (hI : cI V) (h1 : -2147483648 ≤ pe ∧ pe < 2147483648) (hDD : va_D (fun _ => True) (cW C a V)) : Met l yX7_picks wsX7_picks ({ frames := 3, cells := 0, slots := 0, locals := 90 }) (va_Pc [.ref (a 0), .int (iZ pe)] (cOk D C a b V)) (va_Qi (fun r (_ : Unit) => r = iZ (c_pkR V pe)) (fun _ t => cPo D C a (c_pkS V pe) t) (cA a)) 0 0 (cA a) := by
  refine Met.ofW (cc := cX7_picks) (maxL := 4) (ret := (some .int)) (by decide) rfl ?_
  intro p e s m args below meth c s₁ B hml hv
  obtain ⟨rfl, hP, hK, hN⟩ := hv
  have hx := B.exec
  have hb := B.bytes
  have hr := B.returns
  have hts := atoms_spec (ws := wsX7_picks) B.pre
  have hown : s.vm.findClass RX7 = some m.cls := findClass_of_methodNamed B.named
  have hlocks := B.notSynchronized
  have hin_X7 : ∀ w ∈ wsX70, w ∈ wsX7_picks := fun _ w_h => (List.mem_cons_of_mem _ (List.mem_append_left _ (List.mem_append_left _ (List.mem_append_left _ (List.mem_append_right _ w_h)))))
  have hin_X6 : ∀ w ∈ wsX60, w ∈ wsX7_picks := fun _ w_h => (List.mem_cons_of_mem _ (List.mem_append_left _ (List.mem_append_left _ (List.mem_append_right _ w_h))))
  have hin_X2 : ∀ w ∈ wsX20, w ∈ wsX7_picks := fun _ w_h => (List.mem_cons_of_mem _ (List.mem_append_left _ (List.mem_append_right _ w_h)))
  have hin_X3 : ∀ w ∈ wsX30, w ∈ wsX7_picks := fun _ w_h => (List.mem_cons_of_mem _ (List.mem_append_right _ w_h))
  have hl := lv_entry ([.ref (a 0), .int (iZ pe)]) (n := 4) (Nat.le_of_ble_eq_true rfl)
  rw [lg_entry_eq]
  generalize (lg_sl ([.ref (a 0), .int (iZ pe)]) ++ List.replicate (4 - (lg_sl ([.ref (a 0), .int (iZ pe)])).length) Slot.unset).toArray = ls at hl ⊢
  replace hl : lv_has ls 4 [(0, .ref (a 0)), (1, .int (iZ pe))] := hl
  have hD : va_D (cA a) (cW C a V) := cD_own hDD
  generalize hHe : s.heap = H at hP ⊢
  have hS : va_S (cA a) s.heap H [] := by rw [hHe]; exact va_S.rf
  generalize hlo : ([] : List Loc) = locs at hS ⊢
  clear hHe hlo
  obtain ⟨hto, hto4, hne, htx, hT, hM, hpa, hpi, hki, hsz, hsg, hby⟩ := id hI
  have hnt := hT.now
  have hnm := hM.now
  refine lv_aload_n hx hb dX7_picks_0 rfl (lv_at hl 0 rfl) ?_
  refine kq_get (i := 0) hx hb hts hin_X7 hown hK hP (by decide) (cE_0 rfl) rfl 3 (by decide) (hts (.fieldLink RX7 29 "WordFletchers" "told" "LWordFletchers$Told;") (List.mem_cons_of_mem _ (List.mem_append_left _ (List.mem_append_left _ (List.mem_append_left _ (List.mem_append_left _ (List.mem_append_left _ (List.mem_of_getElem? (i := 0) rfl)))))))) rfl dX7_picks_1 ?_
  refine lv_iload_n hx hb dX7_picks_4 rfl (lv_at hl 1 rfl) ?_
  refine kq_ci (i := (Int.toNat (V 0 3))) (As := [.int (iZ pe)]) (rest := []) ⟨hx, hb, hml, hown, hts⟩ hK hP hN hS (isTo.l0 (by assumption)) (cE_15 (isTo.s0 (by assumption))) rfl (K_X6_hasOne l D C a b V (Int.toNat (V 0 3)) (by assumption) pe (by omega) (by omega)) (cwV 1 hts gX7_picks_X6_hasOne rfl rfl rfl (by decide +kernel) ⟨Nat.le_of_ble_eq_true rfl, Nat.le_of_ble_eq_true rfl⟩) rfl rfl hl.1 (Nat.le_of_ble_eq_true rfl) ⟨Nat.le_of_ble_eq_true rfl, Nat.le_of_ble_eq_true rfl⟩ dX7_picks_5 ?_
  refine z_ifb_ne (P := (0 ≤ pe ∧ pe < V (Int.toNat (V 0 3)) 7)) (tgt := 13) hx hb dX7_picks_8 (by decide) (fun c1 => ?_) (fun c1 => ?_)
  · refine lv_aload_n hx hb dX7_picks_13 rfl (lv_at hl 0 rfl) ?_
    refine W.eq (g2 := F0 m 14 ls [.ref (a 0)]) rfl ?_
    refine kq_get (i := 0) hx hb hts hin_X7 hown hK hP (by decide) (cE_0 rfl) rfl 5 (by decide) (hts (.fieldLink RX7 39 "WordFletchers" "moment" "LWordFletchers$Moment;") (List.mem_cons_of_mem _ (List.mem_append_left _ (List.mem_append_left _ (List.mem_append_left _ (List.mem_append_left _ (List.mem_append_left _ (List.mem_of_getElem? (i := 1) rfl)))))))) rfl dX7_picks_14 ?_
    refine lv_aload_n hx hb dX7_picks_17 rfl (lv_at hl 0 rfl) ?_
    refine kq_get (i := 0) hx hb hts hin_X7 hown hK hP (by decide) (cE_0 rfl) rfl 3 (by decide) (hts (.fieldLink RX7 29 "WordFletchers" "told" "LWordFletchers$Told;") (List.mem_cons_of_mem _ (List.mem_append_left _ (List.mem_append_left _ (List.mem_append_left _ (List.mem_append_left _ (List.mem_append_left _ (List.mem_of_getElem? (i := 0) rfl)))))))) rfl dX7_picks_18 ?_
    refine kq_get (i := (Int.toNat (V 0 3))) hx hb hts hin_X6 hown hK hP (isTo.l0 (by assumption)) (cE_15 (isTo.s0 (by assumption))) rfl 0 (by decide) (hts (.fieldLink RX7 96 "WordFletchers$Told" "place" "[I") (List.mem_cons_of_mem _ (List.mem_append_left _ (List.mem_append_left _ (List.mem_append_left _ (List.mem_append_left _ (List.mem_append_left _ (List.mem_of_getElem? (i := 2) rfl)))))))) rfl dX7_picks_21 ?_
    refine lv_iload_n hx hb dX7_picks_24 rfl (lv_at hl 1 rfl) ?_
    refine kq_iald (i := ((Int.toNat (V 0 3)) + 1)) hx hb hK hP (isTo.l1 (by assumption)) (n := 6) (cE_16 (isTo.s1 (by assumption))) (by decide) (Int.toNat pe) rfl (by omega) dX7_picks_25 ?_
    have hpl := hT.pe (k := pe) (by omega)
    refine kq_ci (i := 39) (As := [.int (iZ (V ((Int.toNat (V 0 3)) + 1) (Int.toNat pe)))]) (rest := []) ⟨hx, hb, hml, hown, hts⟩ hK hP hN hS (isMo.l0 isMo_39) (cE_26 (isMo.s0 isMo_39)) rfl (K_X2_longestStrayAt l D C a b V 39 isMo_39 (V ((Int.toNat (V 0 3)) + 1) (Int.toNat pe)) (by assumption) (by omega)) (cwV 1 hts gX7_picks_X2_longestStrayAt rfl rfl rfl (by decide +kernel) ⟨Nat.le_of_ble_eq_true rfl, Nat.le_of_ble_eq_true rfl⟩) rfl rfl hl.1 (Nat.le_of_ble_eq_true rfl) ⟨Nat.le_of_ble_eq_true rfl, Nat.le_of_ble_eq_true rfl⟩ dX7_picks_26 ?_
    refine z_nm (fun fi hfi => ?_)
    have hfi2 : fi = c_fnd V pe := hfi
    have hfb := zfind_bd2 (fun q => decide (V 43 (Int.toNat q) = V (Int.toNat (V 0 3) + 1) (Int.toNat pe))) (Int.toNat (V 39 2)) 0 (by omega)
    have hfb2 : fi = -9 ∨ (0 ≤ fi ∧ fi < V 39 2) := by rw [hfi2]; unfold c_fnd; omega
    refine lv_istore_n (lv' := [(2, .int (iZ fi)), (0, .ref (a 0)), (1, .int (iZ pe))]) hx hb dX7_picks_29 rfl hl (by decide) rfl (fun ls hl => ?_)
    refine lv_iload_n hx hb dX7_picks_30 rfl (lv_at hl 0 rfl) ?_
    refine z_if_ge (x := fi) (tgt := 37) hx hb (by omega) dX7_picks_31 (by decide) (fun c2 => ?_) (fun c2 => ?_)
    · refine lv_aload_n hx hb dX7_picks_37 rfl (lv_at hl 1 rfl) ?_
      refine kq_get (i := 0) hx hb hts hin_X7 hown hK hP (by decide) (cE_0 rfl) rfl 6 (by decide) (hts (.fieldLink RX7 46 "WordFletchers" "past" "LWordFletchers$Past;") (List.mem_cons_of_mem _ (List.mem_append_left _ (List.mem_append_left _ (List.mem_append_left _ (List.mem_append_left _ (List.mem_append_left _ (List.mem_of_getElem? (i := 3) rfl)))))))) rfl dX7_picks_38 ?_
      refine W.eq (g2 := F0 m 41 ls [.ref (a 31)]) rfl ?_
      refine lv_aload_n hx hb dX7_picks_41 rfl (lv_at hl 1 rfl) ?_
      refine kq_get (i := 0) hx hb hts hin_X7 hown hK hP (by decide) (cE_0 rfl) rfl 5 (by decide) (hts (.fieldLink RX7 39 "WordFletchers" "moment" "LWordFletchers$Moment;") (List.mem_cons_of_mem _ (List.mem_append_left _ (List.mem_append_left _ (List.mem_append_left _ (List.mem_append_left _ (List.mem_append_left _ (List.mem_of_getElem? (i := 1) rfl)))))))) rfl dX7_picks_42 ?_
      refine kq_cv (i := 31) (As := [.ref (a 39)]) (rest := []) ⟨hx, hb, hml, hown, hts⟩ hK hP hN hD hS (isPa.l0 isPa_31) (cE_23 (isPa.s0 isPa_31)) rfl (K_X3_remember l D C a b V 31 isPa_31 39 isMo_39 hpa (hD.weaken (fun _ _ _ _ => trivial))) (cwV 1 hts gX7_picks_X3_remember rfl rfl rfl (by decide +kernel) ⟨Nat.le_of_ble_eq_true rfl, Nat.le_of_ble_eq_true rfl⟩) rfl rfl hl.1 (Nat.le_of_ble_eq_true rfl) ⟨Nat.le_of_ble_eq_true rfl, Nat.le_of_ble_eq_true rfl⟩ dX7_picks_45 (fun H locs hP hD hS => ?_)
      obtain ⟨V3, hV3⟩ : ∃ z : Nat → Nat → Int, z = (f_rem V 31 39) := ⟨_, rfl⟩
      rw [← hV3] at hP hD
      have e39 : V3 39 = V 39 := by rw [hV3]; exact f_rem_lo hpa (by omega)
      have hM1 : moI V3 39 := by rw [hV3]; exact moI_rem hM hpa
      have e42 : V3 42 = V 42 := by rw [hV3]; exact f_rem_lo hpa (by omega)
      have e392 : V3 39 2 = V 39 2 := by rw [e39]
      have hr1 := hV3
      refine lv_aload_n hx hb dX7_picks_48 rfl (lv_at hl 1 rfl) ?_
      refine kq_get (i := 0) hx hb hts hin_X7 hown hK hP (by decide) (cE_0 rfl) rfl 5 (by decide) (hts (.fieldLink RX7 39 "WordFletchers" "moment" "LWordFletchers$Moment;") (List.mem_cons_of_mem _ (List.mem_append_left _ (List.mem_append_left _ (List.mem_append_left _ (List.mem_append_left _ (List.mem_append_left _ (List.mem_of_getElem? (i := 1) rfl)))))))) rfl dX7_picks_49 ?_
      refine kq_get (i := 39) hx hb hts hin_X2 hown hK hP (isMo.l0 isMo_39) (cE_26 (isMo.s0 isMo_39)) rfl 5 (by decide) (hts (.fieldLink RX7 128 "WordFletchers$Moment" "straySaying" "[I") (List.mem_cons_of_mem _ (List.mem_append_left _ (List.mem_append_left _ (List.mem_append_left _ (List.mem_append_left _ (List.mem_append_left _ (List.mem_of_getElem? (i := 4) rfl)))))))) rfl dX7_picks_52 ?_
      refine lv_iload_n hx hb dX7_picks_55 rfl (lv_at hl 0 rfl) ?_
      refine kq_iald (i := 42) hx hb hK hP (isMo.l3 isMo_39) (n := 8) (cE_29 (isMo.s3 isMo_39)) (by decide) (Int.toNat fi) rfl (by omega) dX7_picks_56 ?_
      refine z_nm (fun sa hsa => ?_)
      have hsa2 : 0 ≤ sa ∧ sa < 6 := by rw [hsa, e42]; exact (hM.st (k := fi) ⟨by omega, by omega⟩).1
      have hzp := zp_bd (k := pe) (by omega)
      refine lv_istore_n (lv' := [(3, .int (iZ sa)), (2, .int (iZ fi)), (0, .ref (a 0)), (1, .int (iZ pe))]) hx hb dX7_picks_57 rfl hl (by decide) rfl (fun ls hl => ?_)
      refine lv_aload_n hx hb dX7_picks_58 rfl (lv_at hl 2 rfl) ?_
      refine kq_get (i := 0) hx hb hts hin_X7 hown hK hP (by decide) (cE_0 rfl) rfl 5 (by decide) (hts (.fieldLink RX7 39 "WordFletchers" "moment" "LWordFletchers$Moment;") (List.mem_cons_of_mem _ (List.mem_append_left _ (List.mem_append_left _ (List.mem_append_left _ (List.mem_append_left _ (List.mem_append_left _ (List.mem_of_getElem? (i := 1) rfl)))))))) rfl dX7_picks_59 ?_
      refine lv_iload_n hx hb dX7_picks_62 rfl (lv_at hl 1 rfl) ?_
      refine W.eq (g2 := F0 m 63 ls [.int (iZ fi), .ref (a 39)]) rfl ?_
      refine kq_cv (i := 39) (As := [.int (iZ fi)]) (rest := []) ⟨hx, hb, hml, hown, hts⟩ hK hP hN hD hS (isMo.l0 isMo_39) (cE_26 (isMo.s0 isMo_39)) rfl (K_X2_removeStray l D C a b V3 39 isMo_39 fi hM1 ⟨by omega, by omega⟩ (hD.weaken (fun _ _ _ _ => trivial))) (cwV 1 hts gX7_picks_X2_removeStray rfl rfl rfl (by decide +kernel) ⟨Nat.le_of_ble_eq_true rfl, Nat.le_of_ble_eq_true rfl⟩) rfl rfl hl.1 (Nat.le_of_ble_eq_true rfl) ⟨Nat.le_of_ble_eq_true rfl, Nat.le_of_ble_eq_true rfl⟩ dX7_picks_63 (fun H locs hP hD hS => ?_)
      obtain ⟨V4, hV4⟩ : ∃ z : Nat → Nat → Int, z = (f_rmv V3 39 fi) := ⟨_, rfl⟩
      rw [← hV4] at hP hD
      have hkn2 : ∀ k : Nat, k < 6 → 0 ≤ V4 (39 + 2) k := by rw [hV4, f_rmv_o _ _ (by omega) (by omega) (by omega)]; exact fun k hk => (hM1.2.2.2.2.1 k hk).1
      refine lv_aload_n hx hb dX7_picks_66 rfl (lv_at hl 2 rfl) ?_
      refine kq_get (i := 0) hx hb hts hin_X7 hown hK hP (by decide) (cE_0 rfl) rfl 5 (by decide) (hts (.fieldLink RX7 39 "WordFletchers" "moment" "LWordFletchers$Moment;") (List.mem_cons_of_mem _ (List.mem_append_left _ (List.mem_append_left _ (List.mem_append_left _ (List.mem_append_left _ (List.mem_append_left _ (List.mem_of_getElem? (i := 1) rfl)))))))) rfl dX7_picks_67 ?_
      refine lv_iconst (v := iZ 1) hx hb dX7_picks_70 (by decide) ?_
      refine lv_iload_n hx hb dX7_picks_71 rfl (lv_at hl 3 rfl) ?_
      refine z_ishl1 hx hb (by omega) dX7_picks_72 ?_
      refine lv_iload_n hx hb dX7_picks_73 rfl (lv_at hl 0 rfl) ?_
      refine kq_cv (i := 39) (As := [.int (iZ (zp pe)), .int (iZ sa)]) (rest := []) ⟨hx, hb, hml, hown, hts⟩ hK hP hN hD hS (isMo.l0 isMo_39) (cE_26 (isMo.s0 isMo_39)) rfl (K_X2_tell l D C a b V4 39 isMo_39 (zp pe) sa (by omega) (by omega) hkn2 (hD.weaken (fun _ _ _ _ => trivial))) (cwV 2 hts gX7_picks_X2_tell rfl rfl rfl (by decide +kernel) ⟨Nat.le_of_ble_eq_true rfl, Nat.le_of_ble_eq_true rfl⟩) rfl rfl hl.1 (Nat.le_of_ble_eq_true rfl) ⟨Nat.le_of_ble_eq_true rfl, Nat.le_of_ble_eq_true rfl⟩ dX7_picks_74 (fun H locs hP hD hS => ?_)
      obtain ⟨V5, hV5⟩ : ∃ z : Nat → Nat → Int, z = (f_tel V4 39 (zp pe) sa) := ⟨_, rfl⟩
      rw [← hV5] at hP hD
      refine lv_iload_n hx hb dX7_picks_77 rfl (lv_at hl 0 rfl) ?_
      exact kq_retM hx hb hK hP hS hr rfl (by unfold c_pkR; first | exact (if_neg (by omega)).symm | (rw [if_pos (by omega), ← hfi2]; first | exact (if_neg (by omega)).symm | (rw [if_pos (by omega), hsa, e42]))) (by unfold c_pkS; first | exact (if_neg (by omega)).symm | (rw [← hfi2]; rw [if_pos ⟨by omega, by omega⟩]; subst_vars; rfl)) dX7_picks_78 hlocks
    · refine lv_bipush (v := iZ (-2)) hx hb dX7_picks_34 (by decide) ?_
      exact kq_retM hx hb hK hP hS hr rfl (by unfold c_pkR; first | exact (if_neg (by omega)).symm | (rw [if_pos (by omega), ← hfi2]; first | exact (if_neg (by omega)).symm | (rw [if_pos (by omega), hsa, e42]))) (by unfold c_pkS; first | exact (if_neg (by omega)).symm | (rw [← hfi2]; rw [if_pos ⟨by omega, by omega⟩]; subst_vars; rfl)) dX7_picks_36 hlocks
  · refine W.eq (g2 := F0 m 11 ls []) rfl ?_
    refine lv_iconst (v := iZ (-1)) hx hb dX7_picks_11 (by decide) ?_
    exact kq_retM hx hb hK hP hS hr rfl (by unfold c_pkR; first | exact (if_neg (by omega)).symm | (rw [if_pos (by omega), ← hfi2]; first | exact (if_neg (by omega)).symm | (rw [if_pos (by omega), hsa, e42]))) (by unfold c_pkS; first | exact (if_neg (by omega)).symm | (rw [← hfi2]; rw [if_pos ⟨by omega, by omega⟩]; subst_vars; rfl)) dX7_picks_12 hlocks
set_option maxHeartbeats 4000000 in
set_option maxRecDepth 100000 in
theorem K_X7_saw (l : Launch) (D : va_G) (C : cC) (a b : Nat → Nat) (V : Nat → Nat → Int) (sy : Int) (sp : Int) (hI : cI V) (h1 : -2147483648 ≤ sy ∧ sy < 2147483648) (h2 : -2147483648 ≤ sp ∧ sp < 2147483648) (hDD : va_D (fun _ => True) (cW C a V)) : Met l yX7_saw wsX7_saw ({ frames := 4, cells := 0, slots := 0, locals := 86 }) (va_Pc [.ref (a 0), .int (iZ sy), .int (iZ sp)] (cOk D C a b V)) (va_Qi (fun r (_ : Unit) => r = iZ (if (0 ≤ sy ∧ sy < V (Int.toNat (V 0 3)) 8) ∧ (0 ≤ sp ∧ sp ≤ 30) then (if V 4 4 < 4 then V 4 4 + 1 else -3) else -1)) (fun _ t => cPo D C a (if ((0 ≤ sy ∧ sy < V (Int.toNat (V 0 3)) 8) ∧ (0 ≤ sp ∧ sp ≤ 30)) ∧ V 4 4 < 4 then f_sad V sy sp (c_wind V 0) (V 39 1) else V) t) (cA a)) 0 0 (cA a) := by
  refine Met.ofW (cc := cX7_saw) (maxL := 3) (ret := (some .int)) (by decide) rfl ?_
  intro p e s m args below meth c s₁ B hml hv
  obtain ⟨rfl, hP, hK, hN⟩ := hv
  have hx := B.exec
  have hb := B.bytes
  have hr := B.returns
  have hts := atoms_spec (ws := wsX7_saw) B.pre
  have hown : s.vm.findClass RX7 = some m.cls := findClass_of_methodNamed B.named
  have hlocks := B.notSynchronized
  have hin_X7 : ∀ w ∈ wsX70, w ∈ wsX7_saw := fun _ w_h => (List.mem_cons_of_mem _ (List.mem_append_left _ (List.mem_append_left _ (List.mem_append_left _ (List.mem_append_right _ w_h)))))
  have hin_X4 : ∀ w ∈ wsX40, w ∈ wsX7_saw := fun _ w_h => (List.mem_cons_of_mem _ (List.mem_append_left _ (List.mem_append_left _ (List.mem_append_right _ w_h))))
  have hin_X2 : ∀ w ∈ wsX20, w ∈ wsX7_saw := fun _ w_h => (List.mem_cons_of_mem _ (List.mem_append_left _ (List.mem_append_right _ w_h)))
  have hin_X6 : ∀ w ∈ wsX60, w ∈ wsX7_saw := fun _ w_h => (List.mem_cons_of_mem _ (List.mem_append_right _ w_h))
  have hl := lv_entry ([.ref (a 0), .int (iZ sy), .int (iZ sp)]) (n := 3) (Nat.le_of_ble_eq_true rfl)
  rw [lg_entry_eq]
  generalize (lg_sl ([.ref (a 0), .int (iZ sy), .int (iZ sp)]) ++ List.replicate (3 - (lg_sl ([.ref (a 0), .int (iZ sy), .int (iZ sp)])).length) Slot.unset).toArray = ls at hl ⊢
  replace hl : lv_has ls 3 [(0, .ref (a 0)), (1, .int (iZ sy)), (2, .int (iZ sp))] := hl
  have hD : va_D (cA a) (cW C a V) := cD_own hDD
  generalize hHe : s.heap = H at hP ⊢
  have hS : va_S (cA a) s.heap H [] := by rw [hHe]; exact va_S.rf
  generalize hlo : ([] : List Loc) = locs at hS ⊢
  clear hHe hlo
  obtain ⟨hto, hto4, hne, htx, hT, hM, hpa, hpi, hki, hsz, hsg, hby⟩ := id hI
  have hnt := hT.now
  have hnm := hM.now
  refine lv_aload_n hx hb dX7_saw_0 rfl (lv_at hl 0 rfl) ?_
  refine kq_get (i := 0) hx hb hts hin_X7 hown hK hP (by decide) (cE_0 rfl) rfl 3 (by decide) (hts (.fieldLink RX7 29 "WordFletchers" "told" "LWordFletchers$Told;") (List.mem_cons_of_mem _ (List.mem_append_left _ (List.mem_append_left _ (List.mem_append_left _ (List.mem_append_left _ (List.mem_append_left _ (List.mem_of_getElem? (i := 0) rfl)))))))) rfl dX7_saw_1 ?_
  refine lv_iload_n hx hb dX7_saw_4 rfl (lv_at hl 1 rfl) ?_
  refine kq_ci (i := (Int.toNat (V 0 3))) (As := [.int (iZ sy)]) (rest := []) ⟨hx, hb, hml, hown, hts⟩ hK hP hN hS (isTo.l0 (by assumption)) (cE_15 (isTo.s0 (by assumption))) rfl (K_X6_hasSaying l D C a b V (Int.toNat (V 0 3)) (by assumption) sy (by omega) (by omega)) (cwV 1 hts gX7_saw_X6_hasSaying rfl rfl rfl (by decide +kernel) ⟨Nat.le_of_ble_eq_true rfl, Nat.le_of_ble_eq_true rfl⟩) rfl rfl hl.1 (Nat.le_of_ble_eq_true rfl) ⟨Nat.le_of_ble_eq_true rfl, Nat.le_of_ble_eq_true rfl⟩ dX7_saw_5 ?_
  refine z_ifb_eq (P := (0 ≤ sy ∧ sy < V (Int.toNat (V 0 3)) 8)) (tgt := 21) hx hb dX7_saw_8 (by decide) (fun c1 => ?_) (fun c1 => ?_)
  · refine lv_iconst (v := iZ (-1)) hx hb dX7_saw_21 (by decide) ?_
    exact kq_retM hx hb hK hP hS hr rfl (by first | omega | rfl | ((repeat' split) <;> first | rfl | omega) | (subst_vars; first | rfl | omega | ((repeat' split) <;> first | rfl | omega))) (by subst_vars; first | rfl | exact (if_pos (by omega)).symm | exact (if_neg (by omega)).symm | (rw [if_pos (by omega)]; done) | (rw [if_neg (by omega)]; done) | (rw [if_pos (by omega)]; rfl) | (rw [if_neg (by omega)]; rfl)) dX7_saw_22 hlocks
  · refine lv_iload_n hx hb dX7_saw_11 rfl (lv_at hl 2 rfl) ?_
    refine z_if_lt (x := sp) (tgt := 21) hx hb (by omega) dX7_saw_12 (by decide) (fun c2 => ?_) (fun c2 => ?_)
    · refine lv_iconst (v := iZ (-1)) hx hb dX7_saw_21 (by decide) ?_
      refine W.eq (g2 := F0 m 22 ls [.int (iZ (-1))]) rfl ?_
      exact kq_retM hx hb hK hP hS hr rfl (by first | omega | rfl | ((repeat' split) <;> first | rfl | omega) | (subst_vars; first | rfl | omega | ((repeat' split) <;> first | rfl | omega))) (by subst_vars; first | rfl | exact (if_pos (by omega)).symm | exact (if_neg (by omega)).symm | (rw [if_pos (by omega)]; done) | (rw [if_neg (by omega)]; done) | (rw [if_pos (by omega)]; rfl) | (rw [if_neg (by omega)]; rfl)) dX7_saw_22 hlocks
    · refine lv_iload_n hx hb dX7_saw_15 rfl (lv_at hl 2 rfl) ?_
      refine lv_bipush (v := iZ 30) hx hb dX7_saw_16 (by decide) ?_
      refine z_icmp_le (x := sp) (y := 30) (tgt := 23) hx hb (by omega) (by omega) dX7_saw_18 (by decide) (fun c3 => ?_) (fun c3 => ?_)
      · refine lv_aload_n hx hb dX7_saw_23 rfl (lv_at hl 0 rfl) ?_
        refine kq_get (i := 0) hx hb hts hin_X7 hown hK hP (by decide) (cE_0 rfl) rfl 8 (by decide) (hts (.fieldLink RX7 59 "WordFletchers" "sightings" "LWordFletchers$Sightings;") (List.mem_cons_of_mem _ (List.mem_append_left _ (List.mem_append_left _ (List.mem_append_left _ (List.mem_append_left _ (List.mem_append_left _ (List.mem_of_getElem? (i := 1) rfl)))))))) rfl dX7_saw_24 ?_
        refine kq_get (i := 4) hx hb hts hin_X4 hown hK hP (by decide) (cE_4 rfl) rfl 4 (by decide) (hts (.fieldLink RX7 251 "WordFletchers$Sightings" "size" "I") (List.mem_cons_of_mem _ (List.mem_append_left _ (List.mem_append_left _ (List.mem_append_left _ (List.mem_append_left _ (List.mem_append_left _ (List.mem_of_getElem? (i := 2) rfl)))))))) rfl dX7_saw_27 ?_
        refine lv_iconst (v := iZ 4) hx hb dX7_saw_30 (by decide) ?_
        refine z_icmp_lt (x := (V 4 4)) (y := 4) (tgt := 37) hx hb (by omega) (by omega) dX7_saw_31 (by decide) (fun c4 => ?_) (fun c4 => ?_)
        · refine lv_aload_n hx hb dX7_saw_37 rfl (lv_at hl 0 rfl) ?_
          refine kq_get (i := 0) hx hb hts hin_X7 hown hK hP (by decide) (cE_0 rfl) rfl 8 (by decide) (hts (.fieldLink RX7 59 "WordFletchers" "sightings" "LWordFletchers$Sightings;") (List.mem_cons_of_mem _ (List.mem_append_left _ (List.mem_append_left _ (List.mem_append_left _ (List.mem_append_left _ (List.mem_append_left _ (List.mem_of_getElem? (i := 1) rfl)))))))) rfl dX7_saw_38 ?_
          refine lv_iload_n hx hb dX7_saw_41 rfl (lv_at hl 1 rfl) ?_
          refine W.eq (g2 := F0 m 42 ls [.int (iZ sy), .ref (a 4)]) rfl ?_
          refine lv_iload_n hx hb dX7_saw_42 rfl (lv_at hl 2 rfl) ?_
          refine lv_aload_n hx hb dX7_saw_43 rfl (lv_at hl 0 rfl) ?_
          refine lv_iconst (v := iZ 0) hx hb dX7_saw_44 (by decide) ?_
          refine kq_ci (i := 0) (As := [.int (iZ 0)]) (rest := [.int (iZ sp), .int (iZ sy), .ref (a 4)]) ⟨hx, hb, hml, hown, hts⟩ hK hP hN hS (by decide) (cE_0 rfl) rfl (K_X7_windIn l D C a b V 0 (by assumption) (by omega) (by omega) (by omega)) (cwV 1 hts gX7_saw_X7_windIn rfl rfl rfl (by decide +kernel) ⟨Nat.le_of_ble_eq_true rfl, Nat.le_of_ble_eq_true rfl⟩) rfl rfl hl.1 (Nat.le_of_ble_eq_true rfl) ⟨Nat.le_of_ble_eq_true rfl, Nat.le_of_ble_eq_true rfl⟩ dX7_saw_45 ?_
          refine lv_aload_n hx hb dX7_saw_48 rfl (lv_at hl 0 rfl) ?_
          refine kq_get (i := 0) hx hb hts hin_X7 hown hK hP (by decide) (cE_0 rfl) rfl 5 (by decide) (hts (.fieldLink RX7 39 "WordFletchers" "moment" "LWordFletchers$Moment;") (List.mem_cons_of_mem _ (List.mem_append_left _ (List.mem_append_left _ (List.mem_append_left _ (List.mem_append_left _ (List.mem_append_left _ (List.mem_of_getElem? (i := 3) rfl)))))))) rfl dX7_saw_49 ?_
          refine kq_get (i := 39) hx hb hts hin_X2 hown hK hP (isMo.l0 isMo_39) (cE_26 (isMo.s0 isMo_39)) rfl 1 (by decide) (hts (.fieldLink RX7 177 "WordFletchers$Moment" "damp" "I") (List.mem_cons_of_mem _ (List.mem_append_left _ (List.mem_append_left _ (List.mem_append_left _ (List.mem_append_left _ (List.mem_append_left _ (List.mem_of_getElem? (i := 4) rfl)))))))) rfl dX7_saw_52 ?_
          refine kq_cv (i := 4) (As := [.int (iZ sy), .int (iZ sp), .int (iZ (c_wind V 0)), .int (iZ (V 39 1))]) (rest := []) ⟨hx, hb, hml, hown, hts⟩ hK hP hN hD hS (by decide) (cE_4 rfl) rfl (K_X4_add l D C a b V sy sp (c_wind V 0) (V 39 1) (by omega) (hD.weaken (fun _ _ _ _ => trivial))) (cwV 4 hts gX7_saw_X4_add rfl rfl rfl (by decide +kernel) ⟨Nat.le_of_ble_eq_true rfl, Nat.le_of_ble_eq_true rfl⟩) rfl rfl hl.1 (Nat.le_of_ble_eq_true rfl) ⟨Nat.le_of_ble_eq_true rfl, Nat.le_of_ble_eq_true rfl⟩ dX7_saw_55 (fun H locs hP hD hS => ?_)
          obtain ⟨V5, hV5⟩ : ∃ z : Nat → Nat → Int, z = (f_sad V sy sp (c_wind V 0) (V 39 1)) := ⟨_, rfl⟩
          rw [← hV5] at hP hD
          have e4 : V5 4 4 = V 4 4 + 1 := by rw [hV5]; rfl
          refine lv_aload_n hx hb dX7_saw_58 rfl (lv_at hl 0 rfl) ?_
          refine kq_get (i := 0) hx hb hts hin_X7 hown hK hP (by decide) (cE_0 rfl) rfl 8 (by decide) (hts (.fieldLink RX7 59 "WordFletchers" "sightings" "LWordFletchers$Sightings;") (List.mem_cons_of_mem _ (List.mem_append_left _ (List.mem_append_left _ (List.mem_append_left _ (List.mem_append_left _ (List.mem_append_left _ (List.mem_of_getElem? (i := 1) rfl)))))))) rfl dX7_saw_59 ?_
          refine kq_get (i := 4) hx hb hts hin_X4 hown hK hP (by decide) (cE_4 rfl) rfl 4 (by decide) (hts (.fieldLink RX7 251 "WordFletchers$Sightings" "size" "I") (List.mem_cons_of_mem _ (List.mem_append_left _ (List.mem_append_left _ (List.mem_append_left _ (List.mem_append_left _ (List.mem_append_left _ (List.mem_of_getElem? (i := 2) rfl)))))))) rfl dX7_saw_62 ?_
          exact kq_retM hx hb hK hP hS hr rfl (by first | omega | rfl | ((repeat' split) <;> first | rfl | omega) | (subst_vars; first | rfl | omega | ((repeat' split) <;> first | rfl | omega))) (by subst_vars; first | rfl | exact (if_pos (by omega)).symm | exact (if_neg (by omega)).symm | (rw [if_pos (by omega)]; done) | (rw [if_neg (by omega)]; done) | (rw [if_pos (by omega)]; rfl) | (rw [if_neg (by omega)]; rfl)) dX7_saw_65 hlocks
        · refine W.eq (g2 := F0 m 34 ls []) rfl ?_
          refine lv_bipush (v := iZ (-3)) hx hb dX7_saw_34 (by decide) ?_
          exact kq_retM hx hb hK hP hS hr rfl (by first | omega | rfl | ((repeat' split) <;> first | rfl | omega) | (subst_vars; first | rfl | omega | ((repeat' split) <;> first | rfl | omega))) (by subst_vars; first | rfl | exact (if_pos (by omega)).symm | exact (if_neg (by omega)).symm | (rw [if_pos (by omega)]; done) | (rw [if_neg (by omega)]; done) | (rw [if_pos (by omega)]; rfl) | (rw [if_neg (by omega)]; rfl)) dX7_saw_36 hlocks
      · refine lv_iconst (v := iZ (-1)) hx hb dX7_saw_21 (by decide) ?_
        exact kq_retM hx hb hK hP hS hr rfl (by first | omega | rfl | ((repeat' split) <;> first | rfl | omega) | (subst_vars; first | rfl | omega | ((repeat' split) <;> first | rfl | omega))) (by subst_vars; first | rfl | exact (if_pos (by omega)).symm | exact (if_neg (by omega)).symm | (rw [if_pos (by omega)]; done) | (rw [if_neg (by omega)]; done) | (rw [if_pos (by omega)]; rfl) | (rw [if_neg (by omega)]; rfl)) dX7_saw_22 hlocks
set_option maxHeartbeats 4000000 in
set_option maxRecDepth 100000 in
theorem K_X7_undo (l : Launch) (D : va_G) (C : cC) (a b : Nat → Nat) (V : Nat → Nat → Int) (hI : cI V) (hDD : va_D (fun _ => True) (cW C a V)) : Met l yX7_undo wsX7_undo ({ frames := 3, cells := 0, slots := 0, locals := 90 }) (va_Pc [.ref (a 0)] (cOk D C a b V)) (va_Qi (fun r (_ : Unit) => r = iZ (if 1 ≤ V 31 1 then V 31 1 - 1 else -2)) (fun _ t => cPo D C a (if 1 ≤ V 31 1 then f_brg V 31 39 else V) t) (cA a)) 0 0 (cA a) := by
  refine Met.ofW (cc := cX7_undo) (maxL := 1) (ret := (some .int)) (by decide) rfl ?_
  intro p e s m args below meth c s₁ B hml hv
  obtain ⟨rfl, hP, hK, hN⟩ := hv
  have hx := B.exec
  have hb := B.bytes
  have hr := B.returns
  have hts := atoms_spec (ws := wsX7_undo) B.pre
  have hown : s.vm.findClass RX7 = some m.cls := findClass_of_methodNamed B.named
  have hlocks := B.notSynchronized
  have hin_X7 : ∀ w ∈ wsX70, w ∈ wsX7_undo := fun _ w_h => (List.mem_cons_of_mem _ (List.mem_append_left _ (List.mem_append_left _ (List.mem_append_right _ w_h))))
  have hin_X3 : ∀ w ∈ wsX30, w ∈ wsX7_undo := fun _ w_h => (List.mem_cons_of_mem _ (List.mem_append_left _ (List.mem_append_right _ w_h)))
  have hin_X2 : ∀ w ∈ wsX20, w ∈ wsX7_undo := fun _ w_h => (List.mem_cons_of_mem _ (List.mem_append_right _ w_h))
  have hl := lv_entry ([.ref (a 0)]) (n := 1) (Nat.le_of_ble_eq_true rfl)
  rw [lg_entry_eq]
  generalize (lg_sl ([.ref (a 0)]) ++ List.replicate (1 - (lg_sl ([.ref (a 0)])).length) Slot.unset).toArray = ls at hl ⊢
  replace hl : lv_has ls 1 [(0, .ref (a 0))] := hl
  have hD : va_D (cA a) (cW C a V) := cD_own hDD
  generalize hHe : s.heap = H at hP ⊢
  have hS : va_S (cA a) s.heap H [] := by rw [hHe]; exact va_S.rf
  generalize hlo : ([] : List Loc) = locs at hS ⊢
  clear hHe hlo
  obtain ⟨hto, hto4, hne, htx, hT, hM, hpa, hpi, hki, hsz, hsg, hby⟩ := id hI
  have hnt := hT.now
  have hnm := hM.now
  have hpn := hpa.1
  refine lv_aload_n hx hb dX7_undo_0 rfl (lv_at hl 0 rfl) ?_
  refine kq_get (i := 0) hx hb hts hin_X7 hown hK hP (by decide) (cE_0 rfl) rfl 6 (by decide) (hts (.fieldLink RX7 46 "WordFletchers" "past" "LWordFletchers$Past;") (List.mem_cons_of_mem _ (List.mem_append_left _ (List.mem_append_left _ (List.mem_append_left _ (List.mem_append_left _ (List.mem_of_getElem? (i := 0) rfl))))))) rfl dX7_undo_1 ?_
  refine kq_get (i := 31) hx hb hts hin_X3 hown hK hP (isPa.l0 isPa_31) (cE_23 (isPa.s0 isPa_31)) rfl 1 (by decide) (hts (.fieldLink RX7 185 "WordFletchers$Past" "known" "I") (List.mem_cons_of_mem _ (List.mem_append_left _ (List.mem_append_left _ (List.mem_append_left _ (List.mem_append_left _ (List.mem_of_getElem? (i := 1) rfl))))))) rfl dX7_undo_4 ?_
  refine lv_iconst (v := iZ 1) hx hb dX7_undo_7 (by decide) ?_
  refine z_icmp_ge (x := (V 31 1)) (y := 1) (tgt := 14) hx hb (by omega) (by omega) dX7_undo_8 (by decide) (fun c1 => ?_) (fun c1 => ?_)
  · refine lv_aload_n hx hb dX7_undo_14 rfl (lv_at hl 0 rfl) ?_
    refine kq_get (i := 0) hx hb hts hin_X7 hown hK hP (by decide) (cE_0 rfl) rfl 6 (by decide) (hts (.fieldLink RX7 46 "WordFletchers" "past" "LWordFletchers$Past;") (List.mem_cons_of_mem _ (List.mem_append_left _ (List.mem_append_left _ (List.mem_append_left _ (List.mem_append_left _ (List.mem_of_getElem? (i := 0) rfl))))))) rfl dX7_undo_15 ?_
    refine lv_aload_n hx hb dX7_undo_18 rfl (lv_at hl 0 rfl) ?_
    refine W.eq (g2 := F0 m 19 ls [.ref (a 0), .ref (a 31)]) rfl ?_
    refine kq_get (i := 0) hx hb hts hin_X7 hown hK hP (by decide) (cE_0 rfl) rfl 5 (by decide) (hts (.fieldLink RX7 39 "WordFletchers" "moment" "LWordFletchers$Moment;") (List.mem_cons_of_mem _ (List.mem_append_left _ (List.mem_append_left _ (List.mem_append_left _ (List.mem_append_left _ (List.mem_of_getElem? (i := 2) rfl))))))) rfl dX7_undo_19 ?_
    refine kq_cv (i := 31) (As := [.ref (a 39)]) (rest := []) ⟨hx, hb, hml, hown, hts⟩ hK hP hN hD hS (isPa.l0 isPa_31) (cE_23 (isPa.s0 isPa_31)) rfl (K_X3_bringBack l D C a b V 31 isPa_31 39 isMo_39 hpa (by decide) (hD.weaken (fun _ _ _ _ => trivial))) (cwV 1 hts gX7_undo_X3_bringBack rfl rfl rfl (by decide +kernel) ⟨Nat.le_of_ble_eq_true rfl, Nat.le_of_ble_eq_true rfl⟩) rfl rfl hl.1 (Nat.le_of_ble_eq_true rfl) ⟨Nat.le_of_ble_eq_true rfl, Nat.le_of_ble_eq_true rfl⟩ dX7_undo_22 (fun H locs hP hD hS => ?_)
    obtain ⟨V2, hV2⟩ : ∃ z : Nat → Nat → Int, z = (f_brg V 31 39) := ⟨_, rfl⟩
    rw [← hV2] at hP hD
    have e1 : V2 31 1 = V 31 1 - 1 := by rw [hV2]; unfold f_brg; rw [if_pos (by omega), f_bec_o _ (by omega), mU_eq]
    refine lv_aload_n hx hb dX7_undo_25 rfl (lv_at hl 0 rfl) ?_
    refine kq_get (i := 0) hx hb hts hin_X7 hown hK hP (by decide) (cE_0 rfl) rfl 6 (by decide) (hts (.fieldLink RX7 46 "WordFletchers" "past" "LWordFletchers$Past;") (List.mem_cons_of_mem _ (List.mem_append_left _ (List.mem_append_left _ (List.mem_append_left _ (List.mem_append_left _ (List.mem_of_getElem? (i := 0) rfl))))))) rfl dX7_undo_26 ?_
    refine kq_get (i := 31) hx hb hts hin_X3 hown hK hP (isPa.l0 isPa_31) (cE_23 (isPa.s0 isPa_31)) rfl 1 (by decide) (hts (.fieldLink RX7 185 "WordFletchers$Past" "known" "I") (List.mem_cons_of_mem _ (List.mem_append_left _ (List.mem_append_left _ (List.mem_append_left _ (List.mem_append_left _ (List.mem_of_getElem? (i := 1) rfl))))))) rfl dX7_undo_29 ?_
    exact kq_retM hx hb hK hP hS hr rfl (by first | omega | rfl | ((repeat' split) <;> first | rfl | omega) | (subst_vars; first | rfl | omega | ((repeat' split) <;> first | rfl | omega))) (by subst_vars; first | rfl | exact (if_pos (by omega)).symm | exact (if_neg (by omega)).symm | (rw [if_pos (by omega)]; done) | (rw [if_neg (by omega)]; done) | (rw [if_pos (by omega)]; rfl) | (rw [if_neg (by omega)]; rfl)) dX7_undo_32 hlocks
  · refine lv_bipush (v := iZ (-2)) hx hb dX7_undo_11 (by decide) ?_
    exact kq_retM hx hb hK hP hS hr rfl (by first | omega | rfl | ((repeat' split) <;> first | rfl | omega) | (subst_vars; first | rfl | omega | ((repeat' split) <;> first | rfl | omega))) (by subst_vars; first | rfl | exact (if_pos (by omega)).symm | exact (if_neg (by omega)).symm | (rw [if_pos (by omega)]; done) | (rw [if_neg (by omega)]; done) | (rw [if_pos (by omega)]; rfl) | (rw [if_neg (by omega)]; rfl)) dX7_undo_13 hlocks
set_option maxHeartbeats 4000000 in
set_option maxRecDepth 100000 in
theorem K_X7_back (l : Launch) (D : va_G) (C : cC) (a b : Nat → Nat) (V : Nat → Nat → Int) (im : Int) (hI : cI V) (h1 : -2147483648 ≤ im ∧ im < 2147483648) (hDD : va_D (fun _ => True) (cW C a V)) : Met l yX7_back wsX7_back ({ frames := 4, cells := 0, slots := 0, locals := 113 }) (va_Pc [.ref (a 0), .int (iZ im)] (cOk D C a b V)) (va_Qi (fun r (_ : Unit) => r = iZ (if 0 ≤ im ∧ im < 2 then (if V (37 + Int.toNat im) 2 = 0 then -2 else f_giv V (37 + Int.toNat im) 39 31 39 0) else -1)) (fun _ t => cPo D C a (if (0 ≤ im ∧ im < 2) ∧ ¬ V (37 + Int.toNat im) 2 = 0 then f_giv V (37 + Int.toNat im) 39 31 else V) t) (cA a)) 0 0 (cA a) := by
  refine Met.ofW (cc := cX7_back) (maxL := 2) (ret := (some .int)) (by decide) rfl ?_
  intro p e s m args below meth c s₁ B hml hv
  obtain ⟨rfl, hP, hK, hN⟩ := hv
  have hx := B.exec
  have hb := B.bytes
  have hr := B.returns
  have hts := atoms_spec (ws := wsX7_back) B.pre
  have hown : s.vm.findClass RX7 = some m.cls := findClass_of_methodNamed B.named
  have hlocks := B.notSynchronized
  have hin_X7 : ∀ w ∈ wsX70, w ∈ wsX7_back := fun _ w_h => (List.mem_cons_of_mem _ (List.mem_append_left _ (List.mem_append_left _ (List.mem_append_left _ (List.mem_append_right _ w_h)))))
  have hin_X1 : ∀ w ∈ wsX10, w ∈ wsX7_back := fun _ w_h => (List.mem_cons_of_mem _ (List.mem_append_left _ (List.mem_append_left _ (List.mem_append_right _ w_h))))
  have hin_X2 : ∀ w ∈ wsX20, w ∈ wsX7_back := fun _ w_h => (List.mem_cons_of_mem _ (List.mem_append_left _ (List.mem_append_right _ w_h)))
  have hin_X3 : ∀ w ∈ wsX30, w ∈ wsX7_back := fun _ w_h => (List.mem_cons_of_mem _ (List.mem_append_right _ w_h))
  have hl := lv_entry ([.ref (a 0), .int (iZ im)]) (n := 2) (Nat.le_of_ble_eq_true rfl)
  rw [lg_entry_eq]
  generalize (lg_sl ([.ref (a 0), .int (iZ im)]) ++ List.replicate (2 - (lg_sl ([.ref (a 0), .int (iZ im)])).length) Slot.unset).toArray = ls at hl ⊢
  replace hl : lv_has ls 2 [(0, .ref (a 0)), (1, .int (iZ im))] := hl
  have hD : va_D (cA a) (cW C a V) := cD_own hDD
  generalize hHe : s.heap = H at hP ⊢
  have hS : va_S (cA a) s.heap H [] := by rw [hHe]; exact va_S.rf
  generalize hlo : ([] : List Loc) = locs at hS ⊢
  clear hHe hlo
  obtain ⟨hto, hto4, hne, htx, hT, hM, hpa, hpi, hki, hsz, hsg, hby⟩ := id hI
  have hnt := hT.now
  have hnm := hM.now
  refine lv_iload_n hx hb dX7_back_0 rfl (lv_at hl 1 rfl) ?_
  refine z_if_lt (x := im) (tgt := 9) hx hb (by omega) dX7_back_1 (by decide) (fun c1 => ?_) (fun c1 => ?_)
  · refine lv_iconst (v := iZ (-1)) hx hb dX7_back_9 (by decide) ?_
    exact kq_retM hx hb hK hP hS hr rfl (by first | exact (if_neg (by omega)).symm | (rw [if_pos (by omega)]; first | exact (if_pos (by omega)).symm | (rw [if_neg (by omega), hr1]))) (by subst_vars; first | rfl | exact (if_pos (by omega)).symm | exact (if_neg (by omega)).symm | (rw [if_pos (by omega)]; done) | (rw [if_neg (by omega)]; done) | (rw [if_pos (by omega)]; rfl) | (rw [if_neg (by omega)]; rfl)) dX7_back_10 hlocks
  · refine W.eq (g2 := F0 m 4 ls []) rfl ?_
    refine lv_iload_n hx hb dX7_back_4 rfl (lv_at hl 1 rfl) ?_
    refine lv_iconst (v := iZ 2) hx hb dX7_back_5 (by decide) ?_
    refine z_icmp_lt (x := im) (y := 2) (tgt := 11) hx hb (by omega) (by omega) dX7_back_6 (by decide) (fun c2 => ?_) (fun c2 => ?_)
    · refine lv_aload_n hx hb dX7_back_11 rfl (lv_at hl 0 rfl) ?_
      refine kq_get (i := 0) hx hb hts hin_X7 hown hK hP (by decide) (cE_0 rfl) rfl 7 (by decide) (hts (.fieldLink RX7 52 "WordFletchers" "images" "[LWordFletchers$Image;") (List.mem_cons_of_mem _ (List.mem_append_left _ (List.mem_append_left _ (List.mem_append_left _ (List.mem_append_left _ (List.mem_append_left _ (List.mem_of_getElem? (i := 0) rfl)))))))) rfl dX7_back_12 ?_
      refine lv_iload_n hx hb dX7_back_15 rfl (lv_at hl 1 rfl) ?_
      refine kq_aldI hx hb hK hP (Int.toNat im) rfl (by omega) dX7_back_16 ?_
      have hki9 := hki _ (isIm_of (i := im) (by omega))
      refine kq_get (i := (37 + (Int.toNat im))) hx hb hts hin_X1 hown hK hP (isIm.l0 (isIm_of (by omega))) (cE_25 (isIm.s0 (isIm_of (by omega)))) rfl 2 (by decide) (hts (.fieldLink RX7 291 "WordFletchers$Image" "kept" "Z") (List.mem_cons_of_mem _ (List.mem_append_left _ (List.mem_append_left _ (List.mem_append_left _ (List.mem_append_left _ (List.mem_append_left _ (List.mem_of_getElem? (i := 1) rfl)))))))) rfl dX7_back_17 ?_
      refine z_if_ne (x := (V (37 + (Int.toNat im)) 2)) (tgt := 26) hx hb (by omega) dX7_back_20 (by decide) (fun c3 => ?_) (fun c3 => ?_)
      · refine lv_aload_n hx hb dX7_back_26 rfl (lv_at hl 0 rfl) ?_
        refine kq_get (i := 0) hx hb hts hin_X7 hown hK hP (by decide) (cE_0 rfl) rfl 7 (by decide) (hts (.fieldLink RX7 52 "WordFletchers" "images" "[LWordFletchers$Image;") (List.mem_cons_of_mem _ (List.mem_append_left _ (List.mem_append_left _ (List.mem_append_left _ (List.mem_append_left _ (List.mem_append_left _ (List.mem_of_getElem? (i := 0) rfl)))))))) rfl dX7_back_27 ?_
        refine lv_iload_n hx hb dX7_back_30 rfl (lv_at hl 1 rfl) ?_
        refine W.eq (g2 := F0 m 31 ls [.int (iZ im), .ref (a 3)]) rfl ?_
        refine kq_aldI hx hb hK hP (Int.toNat im) rfl (by omega) dX7_back_31 ?_
        refine lv_aload_n hx hb dX7_back_32 rfl (lv_at hl 0 rfl) ?_
        refine kq_get (i := 0) hx hb hts hin_X7 hown hK hP (by decide) (cE_0 rfl) rfl 5 (by decide) (hts (.fieldLink RX7 39 "WordFletchers" "moment" "LWordFletchers$Moment;") (List.mem_cons_of_mem _ (List.mem_append_left _ (List.mem_append_left _ (List.mem_append_left _ (List.mem_append_left _ (List.mem_append_left _ (List.mem_of_getElem? (i := 2) rfl)))))))) rfl dX7_back_33 ?_
        refine lv_aload_n hx hb dX7_back_36 rfl (lv_at hl 0 rfl) ?_
        refine kq_get (i := 0) hx hb hts hin_X7 hown hK hP (by decide) (cE_0 rfl) rfl 6 (by decide) (hts (.fieldLink RX7 46 "WordFletchers" "past" "LWordFletchers$Past;") (List.mem_cons_of_mem _ (List.mem_append_left _ (List.mem_append_left _ (List.mem_append_left _ (List.mem_append_left _ (List.mem_append_left _ (List.mem_of_getElem? (i := 3) rfl)))))))) rfl dX7_back_37 ?_
        refine kq_cv (i := (37 + (Int.toNat im))) (As := [.ref (a 39), .ref (a 31)]) (rest := []) ⟨hx, hb, hml, hown, hts⟩ hK hP hN hD hS (isIm.l0 (isIm_of (by omega))) (cE_25 (isIm.s0 (isIm_of (by omega)))) rfl (K_X1_give l D C a b V (37 + (Int.toNat im)) (isIm_of (by omega)) 39 isMo_39 31 isPa_31 (hpi _ (isIm_of (by omega))) hpa rfl (hD.weaken (fun _ _ _ _ => trivial))) (cwV 2 hts gX7_back_X1_give rfl rfl rfl (by decide +kernel) ⟨Nat.le_of_ble_eq_true rfl, Nat.le_of_ble_eq_true rfl⟩) rfl rfl hl.1 (Nat.le_of_ble_eq_true rfl) ⟨Nat.le_of_ble_eq_true rfl, Nat.le_of_ble_eq_true rfl⟩ dX7_back_40 (fun H locs hP hD hS => ?_)
        obtain ⟨V4, hV4⟩ : ∃ z : Nat → Nat → Int, z = (f_giv V (37 + (Int.toNat im)) 39 31) := ⟨_, rfl⟩
        rw [← hV4] at hP hD
        have hr1 := hV4
        refine lv_aload_n hx hb dX7_back_43 rfl (lv_at hl 0 rfl) ?_
        refine kq_get (i := 0) hx hb hts hin_X7 hown hK hP (by decide) (cE_0 rfl) rfl 5 (by decide) (hts (.fieldLink RX7 39 "WordFletchers" "moment" "LWordFletchers$Moment;") (List.mem_cons_of_mem _ (List.mem_append_left _ (List.mem_append_left _ (List.mem_append_left _ (List.mem_append_left _ (List.mem_append_left _ (List.mem_of_getElem? (i := 2) rfl)))))))) rfl dX7_back_44 ?_
        refine kq_get (i := 39) hx hb hts hin_X2 hown hK hP (isMo.l0 isMo_39) (cE_26 (isMo.s0 isMo_39)) rfl 0 (by decide) (hts (.fieldLink RX7 174 "WordFletchers$Moment" "hour" "I") (List.mem_cons_of_mem _ (List.mem_append_left _ (List.mem_append_left _ (List.mem_append_left _ (List.mem_append_left _ (List.mem_append_left _ (List.mem_of_getElem? (i := 4) rfl)))))))) rfl dX7_back_47 ?_
        exact kq_retM hx hb hK hP hS hr rfl (by first | exact (if_neg (by omega)).symm | (rw [if_pos (by omega)]; first | exact (if_pos (by omega)).symm | (rw [if_neg (by omega), hr1]))) (by subst_vars; first | rfl | exact (if_pos (by omega)).symm | exact (if_neg (by omega)).symm | (rw [if_pos (by omega)]; done) | (rw [if_neg (by omega)]; done) | (rw [if_pos (by omega)]; rfl) | (rw [if_neg (by omega)]; rfl)) dX7_back_50 hlocks
      · refine lv_bipush (v := iZ (-2)) hx hb dX7_back_23 (by decide) ?_
        exact kq_retM hx hb hK hP hS hr rfl (by first | exact (if_neg (by omega)).symm | (rw [if_pos (by omega)]; first | exact (if_pos (by omega)).symm | (rw [if_neg (by omega), hr1]))) (by subst_vars; first | rfl | exact (if_pos (by omega)).symm | exact (if_neg (by omega)).symm | (rw [if_pos (by omega)]; done) | (rw [if_neg (by omega)]; done) | (rw [if_pos (by omega)]; rfl) | (rw [if_neg (by omega)]; rfl)) dX7_back_25 hlocks
    · refine W.eq (g2 := F0 m 9 ls []) rfl ?_
      refine lv_iconst (v := iZ (-1)) hx hb dX7_back_9 (by decide) ?_
      exact kq_retM hx hb hK hP hS hr rfl (by first | exact (if_neg (by omega)).symm | (rw [if_pos (by omega)]; first | exact (if_pos (by omega)).symm | (rw [if_neg (by omega), hr1]))) (by subst_vars; first | rfl | exact (if_pos (by omega)).symm | exact (if_neg (by omega)).symm | (rw [if_pos (by omega)]; done) | (rw [if_neg (by omega)]; done) | (rw [if_pos (by omega)]; rfl) | (rw [if_neg (by omega)]; rfl)) dX7_back_10 hlocks
