set_option maxHeartbeats 4000000 in
set_option maxRecDepth 100000 in
theorem K_X5_sortAt (l : Launch) (D : va_G) (C : cC) (a b : Nat → Nat) (V : Nat → Nat → Int) (ii : Int) (h0 : 0 ≤ V 2 1 ∧ V 2 1 ≤ 120) (h1 : 0 ≤ ii ∧ ii ≤ 120) (hky : k_by V) : Met l yX5_sortAt wsX5_sortAt ({ frames := 0, cells := 0, slots := 0, locals := 0 }) (va_Pc [.ref (a 2), .int (iZ ii)] (cOk D C a b V)) (vp_Si (fun r => r = iZ (k_sort V ii))) 0 0 (fun _ => False) := by
  refine Met.ofW (cc := cX5_sortAt) (maxL := 3) (ret := (some .int)) (by decide) rfl ?_
  intro p e s m args below meth c s₁ B hml hv
  obtain ⟨rfl, hP, hK, hN⟩ := hv
  have hx := B.exec
  have hb := B.bytes
  have hr := B.returns
  have hts := atoms_spec (ws := wsX5_sortAt) B.pre
  have hown : s.vm.findClass RX5 = some m.cls := findClass_of_methodNamed B.named
  have hlocks := B.notSynchronized
  have hin_X5 : ∀ w ∈ wsX50, w ∈ wsX5_sortAt := fun _ w_h => (List.mem_cons_of_mem _ (List.mem_append_right _ w_h))
  have hl := lv_entry ([.ref (a 2), .int (iZ ii)]) (n := 3) (Nat.le_of_ble_eq_true rfl)
  rw [lg_entry_eq]
  generalize (lg_sl ([.ref (a 2), .int (iZ ii)]) ++ List.replicate (3 - (lg_sl ([.ref (a 2), .int (iZ ii)])).length) Slot.unset).toArray = ls at hl ⊢
  replace hl : lv_has ls 3 [(0, .ref (a 2)), (1, .int (iZ ii))] := hl
  have hS : va_S (cA a) s.heap s.heap [] := va_S.rf
  refine lv_iload_n hx hb dX5_sortAt_0 rfl (lv_at hl 1 rfl) ?_
  refine lv_aload_n hx hb dX5_sortAt_1 rfl (lv_at hl 0 rfl) ?_
  refine kq_get (i := 2) hx hb hts hin_X5 hown hK hP (by decide) (cE_2 rfl) rfl 1 (by decide) (hts (.fieldLink RX5 21 "WordFletchers$TextReader" "length" "I") (List.mem_cons_of_mem _ (List.mem_append_left _ (List.mem_of_getElem? (i := 0) rfl)))) rfl dX5_sortAt_2 ?_
  refine z_icmp_lt (x := ii) (y := (V 2 1)) (tgt := 10) hx hb (by omega) (by omega) dX5_sortAt_5 (by decide) (fun c1 => ?_) (fun c1 => ?_)
  · have hbb := hky (Int.toNat ii) (by omega)
    refine lv_aload_n hx hb dX5_sortAt_10 rfl (lv_at hl 0 rfl) ?_
    refine kq_get (i := 2) hx hb hts hin_X5 hown hK hP (by decide) (cE_2 rfl) rfl 0 (by decide) (hts (.fieldLink RX5 9 "WordFletchers$TextReader" "bytes" "[I") (List.mem_cons_of_mem _ (List.mem_append_left _ (List.mem_of_getElem? (i := 1) rfl)))) rfl dX5_sortAt_11 ?_
    refine lv_iload_n hx hb dX5_sortAt_14 rfl (lv_at hl 1 rfl) ?_
    refine kq_iald (i := 1) hx hb hK hP (by decide) (n := 120) (cE_1 rfl) (by decide) (Int.toNat ii) rfl (by omega) dX5_sortAt_15 ?_
    refine lv_istore_n (lv' := [(2, .int (iZ (V 1 (Int.toNat ii)))), (0, .ref (a 2)), (1, .int (iZ ii))]) hx hb dX5_sortAt_16 rfl hl (by decide) rfl (fun ls hl => ?_)
    refine W.eq (g2 := F0 m 17 ls []) rfl ?_
    refine lv_iload_n hx hb dX5_sortAt_17 rfl (lv_at hl 0 rfl) ?_
    refine lv_bipush (v := iZ 97) hx hb dX5_sortAt_18 (by decide) ?_
    refine z_icmp_lt (x := (V 1 (Int.toNat ii))) (y := 97) (tgt := 31) hx hb (by omega) (by omega) dX5_sortAt_20 (by decide) (fun c2 => ?_) (fun c2 => ?_)
    · refine lv_iload_n hx hb dX5_sortAt_31 rfl (lv_at hl 0 rfl) ?_
      refine lv_bipush (v := iZ 48) hx hb dX5_sortAt_32 (by decide) ?_
      refine z_icmp_lt (x := (V 1 (Int.toNat ii))) (y := 48) (tgt := 45) hx hb (by omega) (by omega) dX5_sortAt_34 (by decide) (fun c3 => ?_) (fun c3 => ?_)
      · refine lv_iload_n hx hb dX5_sortAt_45 rfl (lv_at hl 0 rfl) ?_
        refine lv_bipush (v := iZ 59) hx hb dX5_sortAt_46 (by decide) ?_
        have K6 : ∀ (v5 : Int), (v5 = (if (V 1 (Int.toNat ii)) = 59 then 3 else 4)) → ∀ ls : Array Slot, lv_has ls 3 [] → W p l e ((headSpec wsX5_sortAt ({ frames := 0, cells := 0, slots := 0, locals := 0 })).room) s m (([.ref (a 2), .int (iZ ii)] : List Value).toArray) below meth c s.heap [] 0 0 (MQ below (vp_Si (fun r => r = iZ (k_sort V ii))) (([.ref (a 2), .int (iZ ii)] : List Value).toArray) s 0 0 (fun _ => False)) (F0 m 56 ls [.int (iZ v5)]) := by
          intro v5 hv5 ls hl
          refine W.eq (g2 := F0 m 56 ls [.int (iZ v5)]) rfl ?_
          exact mq_ret hx hb hr rfl (by unfold k_sort; omega) dX5_sortAt_56 hlocks rfl
        refine z_icmp_ne (x := (V 1 (Int.toNat ii))) (y := 59) (tgt := 55) hx hb (by omega) (by omega) dX5_sortAt_48 (by decide) (fun c4 => ?_) (fun c4 => ?_)
        · refine lv_iconst (v := iZ 4) hx hb dX5_sortAt_55 (by decide) ?_
          exact K6 4 (by first | rfl | (rw [if_neg c4]; done) | omega | (subst_vars; first | rfl | (rw [if_neg c4]; done) | omega)) ls (lv_sub hl [] rfl)
        · refine lv_iconst (v := iZ 3) hx hb dX5_sortAt_51 (by decide) ?_
          refine lv_goto (tgt := 56) hx hb dX5_sortAt_52 (by decide) ?_
          exact K6 3 (by first | rfl | (rw [if_pos c4]; done) | omega | (subst_vars; first | rfl | (rw [if_pos c4]; done) | omega)) ls (lv_sub hl [] rfl)
      · refine lv_iload_n hx hb dX5_sortAt_37 rfl (lv_at hl 0 rfl) ?_
        refine lv_bipush (v := iZ 57) hx hb dX5_sortAt_38 (by decide) ?_
        refine z_icmp_gt (x := (V 1 (Int.toNat ii))) (y := 57) (tgt := 45) hx hb (by omega) (by omega) dX5_sortAt_40 (by decide) (fun c7 => ?_) (fun c7 => ?_)
        · refine lv_iload_n hx hb dX5_sortAt_45 rfl (lv_at hl 0 rfl) ?_
          refine lv_bipush (v := iZ 59) hx hb dX5_sortAt_46 (by decide) ?_
          have K10 : ∀ (v9 : Int), (v9 = (if (V 1 (Int.toNat ii)) = 59 then 3 else 4)) → ∀ ls : Array Slot, lv_has ls 3 [] → W p l e ((headSpec wsX5_sortAt ({ frames := 0, cells := 0, slots := 0, locals := 0 })).room) s m (([.ref (a 2), .int (iZ ii)] : List Value).toArray) below meth c s.heap [] 0 0 (MQ below (vp_Si (fun r => r = iZ (k_sort V ii))) (([.ref (a 2), .int (iZ ii)] : List Value).toArray) s 0 0 (fun _ => False)) (F0 m 56 ls [.int (iZ v9)]) := by
            intro v9 hv9 ls hl
            exact mq_ret hx hb hr rfl (by unfold k_sort; omega) dX5_sortAt_56 hlocks rfl
          refine z_icmp_ne (x := (V 1 (Int.toNat ii))) (y := 59) (tgt := 55) hx hb (by omega) (by omega) dX5_sortAt_48 (by decide) (fun c8 => ?_) (fun c8 => ?_)
          · refine lv_iconst (v := iZ 4) hx hb dX5_sortAt_55 (by decide) ?_
            exact K10 4 (by first | rfl | (rw [if_neg c8]; done) | omega | (subst_vars; first | rfl | (rw [if_neg c8]; done) | omega)) ls (lv_sub hl [] rfl)
          · refine lv_iconst (v := iZ 3) hx hb dX5_sortAt_51 (by decide) ?_
            refine lv_goto (tgt := 56) hx hb dX5_sortAt_52 (by decide) ?_
            exact K10 3 (by first | rfl | (rw [if_pos c8]; done) | omega | (subst_vars; first | rfl | (rw [if_pos c8]; done) | omega)) ls (lv_sub hl [] rfl)
        · refine lv_iconst (v := iZ 2) hx hb dX5_sortAt_43 (by decide) ?_
          refine W.eq (g2 := F0 m 44 ls [.int (iZ 2)]) rfl ?_
          exact mq_ret hx hb hr rfl (by unfold k_sort; omega) dX5_sortAt_44 hlocks rfl
    · refine lv_iload_n hx hb dX5_sortAt_23 rfl (lv_at hl 0 rfl) ?_
      refine lv_bipush (v := iZ 122) hx hb dX5_sortAt_24 (by decide) ?_
      refine z_icmp_gt (x := (V 1 (Int.toNat ii))) (y := 122) (tgt := 31) hx hb (by omega) (by omega) dX5_sortAt_26 (by decide) (fun c11 => ?_) (fun c11 => ?_)
      · refine lv_iload_n hx hb dX5_sortAt_31 rfl (lv_at hl 0 rfl) ?_
        refine lv_bipush (v := iZ 48) hx hb dX5_sortAt_32 (by decide) ?_
        refine z_icmp_lt (x := (V 1 (Int.toNat ii))) (y := 48) (tgt := 45) hx hb (by omega) (by omega) dX5_sortAt_34 (by decide) (fun c12 => ?_) (fun c12 => ?_)
        · refine lv_iload_n hx hb dX5_sortAt_45 rfl (lv_at hl 0 rfl) ?_
          refine lv_bipush (v := iZ 59) hx hb dX5_sortAt_46 (by decide) ?_
          have K15 : ∀ (v14 : Int), (v14 = (if (V 1 (Int.toNat ii)) = 59 then 3 else 4)) → ∀ ls : Array Slot, lv_has ls 3 [] → W p l e ((headSpec wsX5_sortAt ({ frames := 0, cells := 0, slots := 0, locals := 0 })).room) s m (([.ref (a 2), .int (iZ ii)] : List Value).toArray) below meth c s.heap [] 0 0 (MQ below (vp_Si (fun r => r = iZ (k_sort V ii))) (([.ref (a 2), .int (iZ ii)] : List Value).toArray) s 0 0 (fun _ => False)) (F0 m 56 ls [.int (iZ v14)]) := by
            intro v14 hv14 ls hl
            exact mq_ret hx hb hr rfl (by unfold k_sort; omega) dX5_sortAt_56 hlocks rfl
          refine z_icmp_ne (x := (V 1 (Int.toNat ii))) (y := 59) (tgt := 55) hx hb (by omega) (by omega) dX5_sortAt_48 (by decide) (fun c13 => ?_) (fun c13 => ?_)
          · refine lv_iconst (v := iZ 4) hx hb dX5_sortAt_55 (by decide) ?_
            exact K15 4 (by first | rfl | (rw [if_neg c13]; done) | omega | (subst_vars; first | rfl | (rw [if_neg c13]; done) | omega)) ls (lv_sub hl [] rfl)
          · refine lv_iconst (v := iZ 3) hx hb dX5_sortAt_51 (by decide) ?_
            refine W.eq (g2 := F0 m 52 ls [.int (iZ 3)]) rfl ?_
            refine lv_goto (tgt := 56) hx hb dX5_sortAt_52 (by decide) ?_
            exact K15 3 (by first | rfl | (rw [if_pos c13]; done) | omega | (subst_vars; first | rfl | (rw [if_pos c13]; done) | omega)) ls (lv_sub hl [] rfl)
        · refine lv_iload_n hx hb dX5_sortAt_37 rfl (lv_at hl 0 rfl) ?_
          refine lv_bipush (v := iZ 57) hx hb dX5_sortAt_38 (by decide) ?_
          refine z_icmp_gt (x := (V 1 (Int.toNat ii))) (y := 57) (tgt := 45) hx hb (by omega) (by omega) dX5_sortAt_40 (by decide) (fun c16 => ?_) (fun c16 => ?_)
          · refine lv_iload_n hx hb dX5_sortAt_45 rfl (lv_at hl 0 rfl) ?_
            refine lv_bipush (v := iZ 59) hx hb dX5_sortAt_46 (by decide) ?_
            have K19 : ∀ (v18 : Int), (v18 = (if (V 1 (Int.toNat ii)) = 59 then 3 else 4)) → ∀ ls : Array Slot, lv_has ls 3 [] → W p l e ((headSpec wsX5_sortAt ({ frames := 0, cells := 0, slots := 0, locals := 0 })).room) s m (([.ref (a 2), .int (iZ ii)] : List Value).toArray) below meth c s.heap [] 0 0 (MQ below (vp_Si (fun r => r = iZ (k_sort V ii))) (([.ref (a 2), .int (iZ ii)] : List Value).toArray) s 0 0 (fun _ => False)) (F0 m 56 ls [.int (iZ v18)]) := by
              intro v18 hv18 ls hl
              exact mq_ret hx hb hr rfl (by unfold k_sort; omega) dX5_sortAt_56 hlocks rfl
            refine z_icmp_ne (x := (V 1 (Int.toNat ii))) (y := 59) (tgt := 55) hx hb (by omega) (by omega) dX5_sortAt_48 (by decide) (fun c17 => ?_) (fun c17 => ?_)
            · refine lv_iconst (v := iZ 4) hx hb dX5_sortAt_55 (by decide) ?_
              exact K19 4 (by first | rfl | (rw [if_neg c17]; done) | omega | (subst_vars; first | rfl | (rw [if_neg c17]; done) | omega)) ls (lv_sub hl [] rfl)
            · refine lv_iconst (v := iZ 3) hx hb dX5_sortAt_51 (by decide) ?_
              refine lv_goto (tgt := 56) hx hb dX5_sortAt_52 (by decide) ?_
              exact K19 3 (by first | rfl | (rw [if_pos c17]; done) | omega | (subst_vars; first | rfl | (rw [if_pos c17]; done) | omega)) ls (lv_sub hl [] rfl)
          · refine W.eq (g2 := F0 m 43 ls []) rfl ?_
            refine lv_iconst (v := iZ 2) hx hb dX5_sortAt_43 (by decide) ?_
            exact mq_ret hx hb hr rfl (by unfold k_sort; omega) dX5_sortAt_44 hlocks rfl
      · refine lv_iconst (v := iZ 1) hx hb dX5_sortAt_29 (by decide) ?_
        exact mq_ret hx hb hr rfl (by unfold k_sort; omega) dX5_sortAt_30 hlocks rfl
  · refine lv_iconst (v := iZ 0) hx hb dX5_sortAt_8 (by decide) ?_
    exact mq_ret hx hb hr rfl (by unfold k_sort; omega) dX5_sortAt_9 hlocks rfl
set_option maxHeartbeats 20000000 in
set_option maxRecDepth 100000 in
theorem K_X5_stepOverLetters (l : Launch) (D : va_G) (C : cC) (a b : Nat → Nat) (V : Nat → Nat → Int) (hS0 : rdS V) (h5 : V 2 4 < V 2 1) (hDD : va_D (fun _ => True) (cW C a V)) : Met l yX5_stepOverLetters wsX5_stepOverLetters ({ frames := 1, cells := 0, slots := 0, locals := 22 }) (va_Pc [.ref (a 2)] (cOk D C a b V)) (va_Qv (fun (_ : Unit) => True) (fun _ t => cPo D C a (f_sol V) t) (cA a)) 0 0 (cA a) := by
  refine Met.ofW (cc := cX5_stepOverLetters) (maxL := 1) (ret := none) (by decide) rfl ?_
  intro p e s m args below meth c s₁ B hml hv
  obtain ⟨rfl, hP, hK, hN⟩ := hv
  have hx := B.exec
  have hb := B.bytes
  have hr := B.returns
  have hts := atoms_spec (ws := wsX5_stepOverLetters) B.pre
  have hown : s.vm.findClass RX5 = some m.cls := findClass_of_methodNamed B.named
  have hlocks := B.notSynchronized
  have hin_X5 : ∀ w ∈ wsX50, w ∈ wsX5_stepOverLetters := fun _ w_h => (List.mem_cons_of_mem _ (List.mem_append_right _ w_h))
  have hl := lv_entry ([.ref (a 2)]) (n := 1) (Nat.le_of_ble_eq_true rfl)
  rw [lg_entry_eq]
  generalize (lg_sl ([.ref (a 2)]) ++ List.replicate (1 - (lg_sl ([.ref (a 2)])).length) Slot.unset).toArray = ls at hl ⊢
  replace hl : lv_has ls 1 [(0, .ref (a 2))] := hl
  have hD : va_D (cA a) (cW C a V) := cD_own hDD
  generalize hHe : s.heap = H at hP ⊢
  have hS : va_S (cA a) s.heap H [] := by rw [hHe]; exact va_S.rf
  generalize hlo : ([] : List Loc) = locs at hS ⊢
  clear hHe hlo
  obtain ⟨r1, r2, r3, r4, r6⟩ := id hS0
  replace hl : lv_has ls 1 [(0, .ref (a 2))] := lv_sub hl [0] rfl
  replace hP := And.intro hP hS
  clear hS
  revert ls
  revert hP
  revert H locs
  refine z_loopH (σ := (Nat → Nat → Int)) (fun x9 => (V 2 2 ≤ x9 2 2 ∧ x9 2 2 ≤ V 2 1) ∧ (x9 = mU V 2 2 (x9 2 2)) ∧ (k_le V = z_run (fun q => decide (k_sort V q = 1)) (Int.toNat (121 - x9 2 2)) (x9 2 2))) (fun x9 H9 locs9 => va_P D vwCl (cW C a x9) H9 ∧ va_S (cA a) s.heap H9 locs9) (fun x9 => [(0, .ref (a 2))]) 1 (fun x9 => (121 - x9 2 2).toNat) V ⟨(by show V 2 2 ≤ V 2 2 ∧ V 2 2 ≤ V 2 1; omega), (by show V = mU V 2 2 (V 2 2); exact (mU_id _ _ _ rfl).symm), (by show k_le V = z_run (fun q => decide (k_sort V q = 1)) (Int.toNat (121 - V 2 2)) (V 2 2); rfl)⟩ ?_
  rintro Va hI9 ih0 H locs hPS ls hl
  have hP : va_P D vwCl (cW C a Va) H := hPS.1
  have hS : va_S (cA a) s.heap H locs := hPS.2
  clear hPS
  have hD : va_D (cA a) (cW C a Va) := cD_re hD
  obtain ⟨i1, i2, i3⟩ := hI9
  replace i1 : V 2 2 ≤ Va 2 2 ∧ Va 2 2 ≤ V 2 1 := i1
  replace i2 : Va = mU V 2 2 (Va 2 2) := i2
  replace i3 : k_le V = z_run (fun q => decide (k_sort V q = 1)) (Int.toNat (121 - Va 2 2)) (Va 2 2) := i3
  replace hl : lv_has ls 1 [(0, .ref (a 2))] := hl
  have e21 : Va 2 1 = V 2 1 := by rw [i2]; rfl
  have e24 : Va 2 4 = V 2 4 := by rw [i2]; rfl
  have e1 : Va 1 = V 1 := by rw [i2]; rfl
  have eks : ∀ i, k_sort Va i = k_sort V i := fun i => by unfold k_sort; rw [e21, e1]
  have kb : k_by Va := fun k hk => by rw [e1]; exact r6 k hk
  have ksl := k_sort_lt V (Va 2 2)
  have hen : ¬ (Va 2 2 < V 2 1 ∧ k_sort V (Va 2 2) = 1) → k_le V = Va 2 2 := fun h9 => by rw [i3, z_run_step _ 121 _ (by omega)]; exact if_neg (fun h8 => h9 ⟨ksl (by have := of_decide_eq_true h8; omega), of_decide_eq_true h8⟩)
  refine lv_aload_n hx hb dX5_stepOverLetters_0 rfl (lv_at hl 0 rfl) ?_
  refine kq_get (i := 2) hx hb hts hin_X5 hown hK hP (by decide) (cE_2 rfl) rfl 2 (by decide) (hts (.fieldLink RX5 25 "WordFletchers$TextReader" "next" "I") (List.mem_cons_of_mem _ (List.mem_append_left _ (List.mem_of_getElem? (i := 0) rfl)))) rfl dX5_stepOverLetters_1 ?_
  refine lv_aload_n hx hb dX5_stepOverLetters_4 rfl (lv_at hl 0 rfl) ?_
  refine kq_get (i := 2) hx hb hts hin_X5 hown hK hP (by decide) (cE_2 rfl) rfl 1 (by decide) (hts (.fieldLink RX5 21 "WordFletchers$TextReader" "length" "I") (List.mem_cons_of_mem _ (List.mem_append_left _ (List.mem_of_getElem? (i := 1) rfl)))) rfl dX5_stepOverLetters_5 ?_
  refine z_icmp_ge (x := (Va 2 2)) (y := (Va 2 1)) (tgt := 36) hx hb (by omega) (by omega) dX5_stepOverLetters_8 (by decide) (fun c1 => ?_) (fun c1 => ?_)
  · have ke := hen (by omega)
    refine lv_aload_n hx hb dX5_stepOverLetters_36 rfl (lv_at hl 0 rfl) ?_
    refine W.eq (g2 := F0 m 37 ls [.ref (a 2)]) rfl ?_
    refine lv_aload_n hx hb dX5_stepOverLetters_37 rfl (lv_at hl 0 rfl) ?_
    refine kq_get (i := 2) hx hb hts hin_X5 hown hK hP (by decide) (cE_2 rfl) rfl 2 (by decide) (hts (.fieldLink RX5 25 "WordFletchers$TextReader" "next" "I") (List.mem_cons_of_mem _ (List.mem_append_left _ (List.mem_of_getElem? (i := 0) rfl)))) rfl dX5_stepOverLetters_38 ?_
    refine lv_aload_n hx hb dX5_stepOverLetters_41 rfl (lv_at hl 0 rfl) ?_
    refine kq_get (i := 2) hx hb hts hin_X5 hown hK hP (by decide) (cE_2 rfl) rfl 4 (by decide) (hts (.fieldLink RX5 43 "WordFletchers$TextReader" "start" "I") (List.mem_cons_of_mem _ (List.mem_append_left _ (List.mem_of_getElem? (i := 2) rfl)))) rfl dX5_stepOverLetters_42 ?_
    refine z_isub hx hb dX5_stepOverLetters_45 ?_
    refine lv_iconst (v := iZ 1) hx hb dX5_stepOverLetters_46 (by decide) ?_
    have K4 : ∀ (v3 : Int), (v3 = (if ((Va 2 2) - (Va 2 4)) = 1 then (Va 1 (Int.toNat (Va 2 4))) else 0)) → ∀ ls : Array Slot, lv_has ls 1 [] → W p l e ((headSpec wsX5_stepOverLetters ({ frames := 1, cells := 0, slots := 0, locals := 22 })).room) s m (([.ref (a 2)] : List Value).toArray) below meth c H locs 0 0 (MQ below (va_Qv (fun (_ : Unit) => True) (fun _ t => cPo D C a (f_sol V) t) (cA a)) (([.ref (a 2)] : List Value).toArray) s 0 0 (cA a)) (F0 m 63 ls [.int (iZ v3), .ref (a 2)]) := by
      intro v3 hv3 ls hl
      refine kq_put (ty := .int) (i := 2) hx hb hts hin_X5 hown tyX5 tyX5_ok nmX5 hK hP hD hS (by decide) (cE_2 rfl) rfl 5 (by decide) (hts (.fieldLink RX5 46 "WordFletchers$TextReader" "value" "I") (List.mem_cons_of_mem _ (List.mem_append_left _ (List.mem_of_getElem? (i := 4) rfl)))) rfl (by decide +kernel) rfl rfl (Nat.le_of_ble_eq_true rfl) rfl dX5_stepOverLetters_63 (fun H locs hP hD hS => ?_)
      obtain ⟨V5, hV5⟩ : ∃ z : Nat → Nat → Int, z = (mU Va 2 5 v3) := ⟨_, rfl⟩
      rw [← hV5] at hP hD
      exact kq_retV hx hb hK hP hS hr (by unfold f_sol; rw [ke, ← i2, ← e24, ← e1]; subst_vars; rfl) dX5_stepOverLetters_66 hlocks
    refine z_icmp_ne (x := ((Va 2 2) - (Va 2 4))) (y := 1) (tgt := 62) hx hb (by omega) (by omega) dX5_stepOverLetters_47 (by decide) (fun c2 => ?_) (fun c2 => ?_)
    · refine lv_iconst (v := iZ 0) hx hb dX5_stepOverLetters_62 (by decide) ?_
      exact K4 0 (by first | rfl | (rw [if_neg c2]; done) | omega | (subst_vars; first | rfl | (rw [if_neg c2]; done) | omega)) ls (lv_sub hl [] rfl)
    · refine lv_aload_n hx hb dX5_stepOverLetters_50 rfl (lv_at hl 0 rfl) ?_
      refine kq_get (i := 2) hx hb hts hin_X5 hown hK hP (by decide) (cE_2 rfl) rfl 0 (by decide) (hts (.fieldLink RX5 9 "WordFletchers$TextReader" "bytes" "[I") (List.mem_cons_of_mem _ (List.mem_append_left _ (List.mem_of_getElem? (i := 3) rfl)))) rfl dX5_stepOverLetters_51 ?_
      refine lv_aload_n hx hb dX5_stepOverLetters_54 rfl (lv_at hl 0 rfl) ?_
      refine kq_get (i := 2) hx hb hts hin_X5 hown hK hP (by decide) (cE_2 rfl) rfl 4 (by decide) (hts (.fieldLink RX5 43 "WordFletchers$TextReader" "start" "I") (List.mem_cons_of_mem _ (List.mem_append_left _ (List.mem_of_getElem? (i := 2) rfl)))) rfl dX5_stepOverLetters_55 ?_
      refine W.eq (g2 := F0 m 58 ls [.int (iZ (Va 2 4)), .ref (a 1), .ref (a 2)]) rfl ?_
      refine kq_iald (i := 1) hx hb hK hP (by decide) (n := 120) (cE_1 rfl) (by decide) (Int.toNat (Va 2 4)) rfl (by omega) dX5_stepOverLetters_58 ?_
      refine lv_goto (tgt := 63) hx hb dX5_stepOverLetters_59 (by decide) ?_
      exact K4 (Va 1 (Int.toNat (Va 2 4))) (by first | rfl | (rw [if_pos c2]; done) | omega | (subst_vars; first | rfl | (rw [if_pos c2]; done) | omega)) ls (lv_sub hl [] rfl)
  · refine lv_aload_n hx hb dX5_stepOverLetters_11 rfl (lv_at hl 0 rfl) ?_
    refine lv_aload_n hx hb dX5_stepOverLetters_12 rfl (lv_at hl 0 rfl) ?_
    refine kq_get (i := 2) hx hb hts hin_X5 hown hK hP (by decide) (cE_2 rfl) rfl 2 (by decide) (hts (.fieldLink RX5 25 "WordFletchers$TextReader" "next" "I") (List.mem_cons_of_mem _ (List.mem_append_left _ (List.mem_of_getElem? (i := 0) rfl)))) rfl dX5_stepOverLetters_13 ?_
    refine kq_ci (i := 2) (As := [.int (iZ (Va 2 2))]) (rest := []) ⟨hx, hb, hml, hown, hts⟩ hK hP hN hS (by decide) (cE_2 rfl) rfl (K_X5_sortAt l D C a b Va (Va 2 2) (by omega) (by omega) (by assumption)) (cwV 1 hts gX5_stepOverLetters_X5_sortAt rfl rfl rfl (by decide +kernel) ⟨Nat.le_of_ble_eq_true rfl, Nat.le_of_ble_eq_true rfl⟩) rfl rfl hl.1 (Nat.le_of_ble_eq_true rfl) ⟨Nat.le_of_ble_eq_true rfl, Nat.le_of_ble_eq_true rfl⟩ dX5_stepOverLetters_16 ?_
    have hkd9 := k_sort_bd Va (Va 2 2)
    refine z_nm (fun ks hks => ?_)
    have hks9 : ks = k_sort V (Va 2 2) := by rw [hks, eks]
    refine lv_iconst (v := iZ 1) hx hb dX5_stepOverLetters_19 (by decide) ?_
    refine z_icmp_ne (x := ks) (y := 1) (tgt := 36) hx hb (by omega) (by omega) dX5_stepOverLetters_20 (by decide) (fun c6 => ?_) (fun c6 => ?_)
    · have ke := hen (by omega)
      refine lv_aload_n hx hb dX5_stepOverLetters_36 rfl (lv_at hl 0 rfl) ?_
      refine lv_aload_n hx hb dX5_stepOverLetters_37 rfl (lv_at hl 0 rfl) ?_
      refine W.eq (g2 := F0 m 38 ls [.ref (a 2), .ref (a 2)]) rfl ?_
      refine kq_get (i := 2) hx hb hts hin_X5 hown hK hP (by decide) (cE_2 rfl) rfl 2 (by decide) (hts (.fieldLink RX5 25 "WordFletchers$TextReader" "next" "I") (List.mem_cons_of_mem _ (List.mem_append_left _ (List.mem_of_getElem? (i := 0) rfl)))) rfl dX5_stepOverLetters_38 ?_
      refine lv_aload_n hx hb dX5_stepOverLetters_41 rfl (lv_at hl 0 rfl) ?_
      refine kq_get (i := 2) hx hb hts hin_X5 hown hK hP (by decide) (cE_2 rfl) rfl 4 (by decide) (hts (.fieldLink RX5 43 "WordFletchers$TextReader" "start" "I") (List.mem_cons_of_mem _ (List.mem_append_left _ (List.mem_of_getElem? (i := 2) rfl)))) rfl dX5_stepOverLetters_42 ?_
      refine z_isub hx hb dX5_stepOverLetters_45 ?_
      refine lv_iconst (v := iZ 1) hx hb dX5_stepOverLetters_46 (by decide) ?_
      have K9 : ∀ (v8 : Int), (v8 = (if ((Va 2 2) - (Va 2 4)) = 1 then (Va 1 (Int.toNat (Va 2 4))) else 0)) → ∀ ls : Array Slot, lv_has ls 1 [] → W p l e ((headSpec wsX5_stepOverLetters ({ frames := 1, cells := 0, slots := 0, locals := 22 })).room) s m (([.ref (a 2)] : List Value).toArray) below meth c H locs 0 0 (MQ below (va_Qv (fun (_ : Unit) => True) (fun _ t => cPo D C a (f_sol V) t) (cA a)) (([.ref (a 2)] : List Value).toArray) s 0 0 (cA a)) (F0 m 63 ls [.int (iZ v8), .ref (a 2)]) := by
        intro v8 hv8 ls hl
        refine kq_put (ty := .int) (i := 2) hx hb hts hin_X5 hown tyX5 tyX5_ok nmX5 hK hP hD hS (by decide) (cE_2 rfl) rfl 5 (by decide) (hts (.fieldLink RX5 46 "WordFletchers$TextReader" "value" "I") (List.mem_cons_of_mem _ (List.mem_append_left _ (List.mem_of_getElem? (i := 4) rfl)))) rfl (by decide +kernel) rfl rfl (Nat.le_of_ble_eq_true rfl) rfl dX5_stepOverLetters_63 (fun H locs hP hD hS => ?_)
        obtain ⟨V10, hV10⟩ : ∃ z : Nat → Nat → Int, z = (mU Va 2 5 v8) := ⟨_, rfl⟩
        rw [← hV10] at hP hD
        exact kq_retV hx hb hK hP hS hr (by unfold f_sol; rw [ke, ← i2, ← e24, ← e1]; subst_vars; rfl) dX5_stepOverLetters_66 hlocks
      refine z_icmp_ne (x := ((Va 2 2) - (Va 2 4))) (y := 1) (tgt := 62) hx hb (by omega) (by omega) dX5_stepOverLetters_47 (by decide) (fun c7 => ?_) (fun c7 => ?_)
      · refine lv_iconst (v := iZ 0) hx hb dX5_stepOverLetters_62 (by decide) ?_
        exact K9 0 (by first | rfl | (rw [if_neg c7]; done) | omega | (subst_vars; first | rfl | (rw [if_neg c7]; done) | omega)) ls (lv_sub hl [] rfl)
      · refine lv_aload_n hx hb dX5_stepOverLetters_50 rfl (lv_at hl 0 rfl) ?_
        refine kq_get (i := 2) hx hb hts hin_X5 hown hK hP (by decide) (cE_2 rfl) rfl 0 (by decide) (hts (.fieldLink RX5 9 "WordFletchers$TextReader" "bytes" "[I") (List.mem_cons_of_mem _ (List.mem_append_left _ (List.mem_of_getElem? (i := 3) rfl)))) rfl dX5_stepOverLetters_51 ?_
        refine lv_aload_n hx hb dX5_stepOverLetters_54 rfl (lv_at hl 0 rfl) ?_
        refine kq_get (i := 2) hx hb hts hin_X5 hown hK hP (by decide) (cE_2 rfl) rfl 4 (by decide) (hts (.fieldLink RX5 43 "WordFletchers$TextReader" "start" "I") (List.mem_cons_of_mem _ (List.mem_append_left _ (List.mem_of_getElem? (i := 2) rfl)))) rfl dX5_stepOverLetters_55 ?_
        refine kq_iald (i := 1) hx hb hK hP (by decide) (n := 120) (cE_1 rfl) (by decide) (Int.toNat (Va 2 4)) rfl (by omega) dX5_stepOverLetters_58 ?_
        refine W.eq (g2 := F0 m 59 ls [.int (iZ (Va 1 (Int.toNat (Va 2 4)))), .ref (a 2)]) rfl ?_
        refine lv_goto (tgt := 63) hx hb dX5_stepOverLetters_59 (by decide) ?_
        exact K9 (Va 1 (Int.toNat (Va 2 4))) (by first | rfl | (rw [if_pos c7]; done) | omega | (subst_vars; first | rfl | (rw [if_pos c7]; done) | omega)) ls (lv_sub hl [] rfl)
    · refine lv_aload_n hx hb dX5_stepOverLetters_23 rfl (lv_at hl 0 rfl) ?_
      refine lv_dup hx hb dX5_stepOverLetters_24 rfl ?_
      refine kq_get (i := 2) hx hb hts hin_X5 hown hK hP (by decide) (cE_2 rfl) rfl 2 (by decide) (hts (.fieldLink RX5 25 "WordFletchers$TextReader" "next" "I") (List.mem_cons_of_mem _ (List.mem_append_left _ (List.mem_of_getElem? (i := 0) rfl)))) rfl dX5_stepOverLetters_25 ?_
      refine lv_iconst (v := iZ 1) hx hb dX5_stepOverLetters_28 (by decide) ?_
      refine z_iadd hx hb dX5_stepOverLetters_29 ?_
      refine kq_put (ty := .int) (i := 2) hx hb hts hin_X5 hown tyX5 tyX5_ok nmX5 hK hP hD hS (by decide) (cE_2 rfl) rfl 2 (by decide) (hts (.fieldLink RX5 25 "WordFletchers$TextReader" "next" "I") (List.mem_cons_of_mem _ (List.mem_append_left _ (List.mem_of_getElem? (i := 0) rfl)))) rfl (by decide +kernel) rfl rfl (Nat.le_of_ble_eq_true rfl) rfl dX5_stepOverLetters_30 (fun H locs hP hD hS => ?_)
      obtain ⟨V11, hV11⟩ : ∃ z : Nat → Nat → Int, z = (mU Va 2 2 ((Va 2 2) + 1)) := ⟨_, rfl⟩
      rw [← hV11] at hP hD
      have en : V11 2 2 = Va 2 2 + 1 := by rw [hV11, mU_eq]
      have ew : V11 = mU V 2 2 (Va 2 2 + 1) := by rw [hV11]; rw [i2]; exact mU_mU _ _ _ _ _
      refine lv_goto (tgt := 0) hx hb dX5_stepOverLetters_33 (by decide) ?_
      exact ih0 V11 ⟨(by show V 2 2 ≤ V11 2 2 ∧ V11 2 2 ≤ V 2 1; rw [en]; omega), (by show V11 = mU V 2 2 (V11 2 2); rw [en]; exact ew), (by show k_le V = z_run (fun q => decide (k_sort V q = 1)) (Int.toNat (121 - V11 2 2)) (V11 2 2); rw [i3, z_run_step _ 121 _ (by omega), en]; exact if_pos (decide_eq_true (by omega)))⟩ (by show (121 - V11 2 2).toNat < (121 - Va 2 2).toNat; rw [en]; omega) H locs ⟨hP, hS⟩ ls (lv_sub hl [0] rfl)
set_option maxHeartbeats 20000000 in
set_option maxRecDepth 100000 in
theorem K_X5_stepOverDigits (l : Launch) (D : va_G) (C : cC) (a b : Nat → Nat) (V : Nat → Nat → Int) (hS0 : rdS V) (h5 : V 2 4 < V 2 1) (hDD : va_D (fun _ => True) (cW C a V)) : Met l yX5_stepOverDigits wsX5_stepOverDigits ({ frames := 1, cells := 0, slots := 0, locals := 24 }) (va_Pc [.ref (a 2)] (cOk D C a b V)) (va_Qv (fun (_ : Unit) => True) (fun _ t => cPo D C a (f_sod V) t) (cA a)) 0 0 (cA a) := by
  refine Met.ofW (cc := cX5_stepOverDigits) (maxL := 2) (ret := none) (by decide) rfl ?_
  intro p e s m args below meth c s₁ B hml hv
  obtain ⟨rfl, hP, hK, hN⟩ := hv
  have hx := B.exec
  have hb := B.bytes
  have hr := B.returns
  have hts := atoms_spec (ws := wsX5_stepOverDigits) B.pre
  have hown : s.vm.findClass RX5 = some m.cls := findClass_of_methodNamed B.named
  have hlocks := B.notSynchronized
  have hin_X5 : ∀ w ∈ wsX50, w ∈ wsX5_stepOverDigits := fun _ w_h => (List.mem_cons_of_mem _ (List.mem_append_right _ w_h))
  have hl := lv_entry ([.ref (a 2)]) (n := 2) (Nat.le_of_ble_eq_true rfl)
  rw [lg_entry_eq]
  generalize (lg_sl ([.ref (a 2)]) ++ List.replicate (2 - (lg_sl ([.ref (a 2)])).length) Slot.unset).toArray = ls at hl ⊢
  replace hl : lv_has ls 2 [(0, .ref (a 2))] := hl
  have hD : va_D (cA a) (cW C a V) := cD_own hDD
  generalize hHe : s.heap = H at hP ⊢
  have hS : va_S (cA a) s.heap H [] := by rw [hHe]; exact va_S.rf
  generalize hlo : ([] : List Loc) = locs at hS ⊢
  clear hHe hlo
  obtain ⟨r1, r2, r3, r4, r6⟩ := id hS0
  refine lv_aload_n hx hb dX5_stepOverDigits_0 rfl (lv_at hl 0 rfl) ?_
  refine lv_iconst (v := iZ 0) hx hb dX5_stepOverDigits_1 (by decide) ?_
  refine W.eq (g2 := F0 m 2 ls [.int (iZ 0), .ref (a 2)]) rfl ?_
  refine kq_put (ty := .int) (i := 2) hx hb hts hin_X5 hown tyX5 tyX5_ok nmX5 hK hP hD hS (by decide) (cE_2 rfl) rfl 5 (by decide) (hts (.fieldLink RX5 46 "WordFletchers$TextReader" "value" "I") (List.mem_cons_of_mem _ (List.mem_append_left _ (List.mem_of_getElem? (i := 0) rfl)))) rfl (by decide +kernel) rfl rfl (Nat.le_of_ble_eq_true rfl) rfl dX5_stepOverDigits_2 (fun H locs hP hD hS => ?_)
  obtain ⟨V1, hV1⟩ : ∃ z : Nat → Nat → Int, z = (mU V 2 5 0) := ⟨_, rfl⟩
  rw [← hV1] at hP hD
  have w2 : V1 = mU V 2 5 0 := hV1
  have w22 : V1 2 2 = V 2 2 := by rw [hV1]; rfl
  have w25 : V1 2 5 = 0 := by rw [hV1, mU_eq]
  replace hl : lv_has ls 2 [(0, .ref (a 2))] := lv_sub hl [0] rfl
  replace hP := And.intro hP hS
  clear hS
  revert ls
  revert hP
  revert H locs
  refine z_loopH (σ := (Nat → Nat → Int)) (fun x9 => ((V 2 2 ≤ x9 2 2 ∧ x9 2 2 ≤ V 2 1) ∧ (0 ≤ x9 2 5 ∧ x9 2 5 ≤ 100)) ∧ (x9 = mU (mU V 2 5 (x9 2 5)) 2 2 (x9 2 2)) ∧ (k_de V = z_run (fun q => decide (k_sort V q = 2)) (Int.toNat (121 - x9 2 2)) (x9 2 2)) ∧ (k_dv V = k_val V (Int.toNat (121 - x9 2 2)) (x9 2 2) (x9 2 5))) (fun x9 H9 locs9 => va_P D vwCl (cW C a x9) H9 ∧ va_S (cA a) s.heap H9 locs9) (fun x9 => [(0, .ref (a 2))]) 2 (fun x9 => (121 - x9 2 2).toNat) V1 ⟨(by show (V 2 2 ≤ V1 2 2 ∧ V1 2 2 ≤ V 2 1) ∧ (0 ≤ V1 2 5 ∧ V1 2 5 ≤ 100); rw [w22, w25]; omega), (by show V1 = mU (mU V 2 5 (V1 2 5)) 2 2 (V1 2 2); rw [w22, w25]; rw [show mU V 2 5 0 = V1 from w2.symm]; exact (mU_id _ _ _ w22.symm).symm), (by show k_de V = z_run (fun q => decide (k_sort V q = 2)) (Int.toNat (121 - V1 2 2)) (V1 2 2); rw [w22]; rfl), (by show k_dv V = k_val V (Int.toNat (121 - V1 2 2)) (V1 2 2) (V1 2 5); rw [w22, w25]; rfl)⟩ ?_
  rintro Va hI9 ih5 H locs hPS ls hl
  have hP : va_P D vwCl (cW C a Va) H := hPS.1
  have hS : va_S (cA a) s.heap H locs := hPS.2
  clear hPS
  have hD : va_D (cA a) (cW C a Va) := cD_re hD
  obtain ⟨i1, i2, i3, i4⟩ := hI9
  replace i1 : (V 2 2 ≤ Va 2 2 ∧ Va 2 2 ≤ V 2 1) ∧ (0 ≤ Va 2 5 ∧ Va 2 5 ≤ 100) := i1
  replace i2 : Va = mU (mU V 2 5 (Va 2 5)) 2 2 (Va 2 2) := i2
  replace i3 : k_de V = z_run (fun q => decide (k_sort V q = 2)) (Int.toNat (121 - Va 2 2)) (Va 2 2) := i3
  replace i4 : k_dv V = k_val V (Int.toNat (121 - Va 2 2)) (Va 2 2) (Va 2 5) := i4
  replace hl : lv_has ls 2 [(0, .ref (a 2))] := hl
  have e21 : Va 2 1 = V 2 1 := by rw [i2]; rfl
  have e24 : Va 2 4 = V 2 4 := by rw [i2]; rfl
  have e1 : Va 1 = V 1 := by rw [i2]; rfl
  have eks : ∀ i, k_sort Va i = k_sort V i := fun i => by unfold k_sort; rw [e21, e1]
  have kb : k_by Va := fun k hk => by rw [e1]; exact r6 k hk
  have ksl := k_sort_lt V (Va 2 2)
  have hen : ¬ (Va 2 2 < V 2 1 ∧ k_sort V (Va 2 2) = 2) → ¬ k_sort V (Va 2 2) = 2 := fun h9 h8 => h9 ⟨ksl (by omega), h8⟩
  have hbv : Va 2 2 < 120 → 0 ≤ Va 1 (Int.toNat (Va 2 2)) ∧ Va 1 (Int.toNat (Va 2 2)) ≤ 255 := fun h9 => kb _ (by omega)
  have hbs : 0 ≤ Va 1 (Int.toNat (Va 2 4)) ∧ Va 1 (Int.toNat (Va 2 4)) ≤ 255 := kb _ (by omega)
  have hv9 : Va 1 (Int.toNat (Va 2 2)) = V 1 (Int.toNat (Va 2 2)) := by rw [e1]
  have hd9 := k_sort_2 (V := V) (i := Va 2 2)
  refine lv_aload_n hx hb dX5_stepOverDigits_5 rfl (lv_at hl 0 rfl) ?_
  refine kq_get (i := 2) hx hb hts hin_X5 hown hK hP (by decide) (cE_2 rfl) rfl 2 (by decide) (hts (.fieldLink RX5 25 "WordFletchers$TextReader" "next" "I") (List.mem_cons_of_mem _ (List.mem_append_left _ (List.mem_of_getElem? (i := 1) rfl)))) rfl dX5_stepOverDigits_6 ?_
  refine lv_aload_n hx hb dX5_stepOverDigits_9 rfl (lv_at hl 0 rfl) ?_
  refine kq_get (i := 2) hx hb hts hin_X5 hown hK hP (by decide) (cE_2 rfl) rfl 1 (by decide) (hts (.fieldLink RX5 21 "WordFletchers$TextReader" "length" "I") (List.mem_cons_of_mem _ (List.mem_append_left _ (List.mem_of_getElem? (i := 2) rfl)))) rfl dX5_stepOverDigits_10 ?_
  refine z_icmp_ge (x := (Va 2 2)) (y := (Va 2 1)) (tgt := 70) hx hb (by omega) (by omega) dX5_stepOverDigits_13 (by decide) (fun c2 => ?_) (fun c2 => ?_)
  · have hen9 := hen (by omega)
    have ke : k_de V = Va 2 2 := by rw [i3, z_run_step _ 121 _ (by omega)]; exact if_neg (fun h8 => hen9 (of_decide_eq_true h8))
    have kv : k_dv V = Va 2 5 := by rw [i4, k_val_step _ _ (by omega)]; exact if_neg hen9
    refine lv_aload_n hx hb dX5_stepOverDigits_70 rfl (lv_at hl 0 rfl) ?_
    refine kq_get (i := 2) hx hb hts hin_X5 hown hK hP (by decide) (cE_2 rfl) rfl 0 (by decide) (hts (.fieldLink RX5 9 "WordFletchers$TextReader" "bytes" "[I") (List.mem_cons_of_mem _ (List.mem_append_left _ (List.mem_of_getElem? (i := 3) rfl)))) rfl dX5_stepOverDigits_71 ?_
    refine lv_aload_n hx hb dX5_stepOverDigits_74 rfl (lv_at hl 0 rfl) ?_
    refine kq_get (i := 2) hx hb hts hin_X5 hown hK hP (by decide) (cE_2 rfl) rfl 4 (by decide) (hts (.fieldLink RX5 43 "WordFletchers$TextReader" "start" "I") (List.mem_cons_of_mem _ (List.mem_append_left _ (List.mem_of_getElem? (i := 8) rfl)))) rfl dX5_stepOverDigits_75 ?_
    refine kq_iald (i := 1) hx hb hK hP (by decide) (n := 120) (cE_1 rfl) (by decide) (Int.toNat (Va 2 4)) rfl (by omega) dX5_stepOverDigits_78 ?_
    refine lv_bipush (v := iZ 48) hx hb dX5_stepOverDigits_79 (by decide) ?_
    refine W.eq (g2 := F0 m 81 ls [.int (iZ 48), .int (iZ (Va 1 (Int.toNat (Va 2 4))))]) rfl ?_
    have K6 : ∀ (v5 : Int), (v5 = (if (Va 1 (Int.toNat (Va 2 4))) = 48 then (if ((Va 2 2) - (Va 2 4)) ≤ 1 then 0 else 1) else 0)) → ∀ ls : Array Slot, lv_has ls 2 [(0, .ref (a 2))] → W p l e ((headSpec wsX5_stepOverDigits ({ frames := 1, cells := 0, slots := 0, locals := 24 })).room) s m (([.ref (a 2)] : List Value).toArray) below meth c H locs 0 0 (MQ below (va_Qv (fun (_ : Unit) => True) (fun _ t => cPo D C a (f_sod V) t) (cA a)) (([.ref (a 2)] : List Value).toArray) s 0 0 (cA a)) (F0 m 102 ls [.int (iZ v5)]) := by
      intro v5 hv5 ls hl
      refine W.eq (g2 := F0 m 102 ls [.int (iZ v5)]) rfl ?_
      refine lv_istore_n (lv' := [(1, .int (iZ v5)), (0, .ref (a 2))]) hx hb dX5_stepOverDigits_102 rfl hl (by decide) rfl (fun ls hl => ?_)
      refine lv_aload_n hx hb dX5_stepOverDigits_103 rfl (lv_at hl 1 rfl) ?_
      refine kq_get (i := 2) hx hb hts hin_X5 hown hK hP (by decide) (cE_2 rfl) rfl 5 (by decide) (hts (.fieldLink RX5 46 "WordFletchers$TextReader" "value" "I") (List.mem_cons_of_mem _ (List.mem_append_left _ (List.mem_of_getElem? (i := 0) rfl)))) rfl dX5_stepOverDigits_104 ?_
      refine lv_bipush (v := iZ 99) hx hb dX5_stepOverDigits_107 (by decide) ?_
      refine z_icmp_gt (x := (Va 2 5)) (y := 99) (tgt := 116) hx hb (by omega) (by omega) dX5_stepOverDigits_109 (by decide) (fun c7 => ?_) (fun c7 => ?_)
      · refine lv_aload_n hx hb dX5_stepOverDigits_116 rfl (lv_at hl 1 rfl) ?_
        refine lv_iconst (v := iZ 4) hx hb dX5_stepOverDigits_117 (by decide) ?_
        refine kq_put (ty := .int) (i := 2) hx hb hts hin_X5 hown tyX5 tyX5_ok nmX5 hK hP hD hS (by decide) (cE_2 rfl) rfl 3 (by decide) (hts (.fieldLink RX5 36 "WordFletchers$TextReader" "sort" "I") (List.mem_cons_of_mem _ (List.mem_append_left _ (List.mem_of_getElem? (i := 9) rfl)))) rfl (by decide +kernel) rfl rfl (Nat.le_of_ble_eq_true rfl) rfl dX5_stepOverDigits_118 (fun H locs hP hD hS => ?_)
        obtain ⟨V11, hV11⟩ : ∃ z : Nat → Nat → Int, z = (mU Va 2 3 4) := ⟨_, rfl⟩
        rw [← hV11] at hP hD
        exact kq_retV hx hb hK hP hS hr (by unfold f_sod; rw [ke, kv, ← i2, ← e24, ← e1]; first | (rw [if_pos (by omega)]; assumption) | exact (if_neg (by omega)).symm) dX5_stepOverDigits_121 hlocks
      · refine lv_iload_n hx hb dX5_stepOverDigits_112 rfl (lv_at hl 0 rfl) ?_
        refine z_if_eq (x := v5) (tgt := 121) hx hb (by omega) dX5_stepOverDigits_113 (by decide) (fun c12 => ?_) (fun c12 => ?_)
        · exact kq_retV hx hb hK hP hS hr (by unfold f_sod; rw [ke, kv, ← i2, ← e24, ← e1]; first | (rw [if_pos (by omega)]; assumption) | exact (if_neg (by omega)).symm) dX5_stepOverDigits_121 hlocks
        · refine lv_aload_n hx hb dX5_stepOverDigits_116 rfl (lv_at hl 1 rfl) ?_
          refine W.eq (g2 := F0 m 117 ls [.ref (a 2)]) rfl ?_
          refine lv_iconst (v := iZ 4) hx hb dX5_stepOverDigits_117 (by decide) ?_
          refine kq_put (ty := .int) (i := 2) hx hb hts hin_X5 hown tyX5 tyX5_ok nmX5 hK hP hD hS (by decide) (cE_2 rfl) rfl 3 (by decide) (hts (.fieldLink RX5 36 "WordFletchers$TextReader" "sort" "I") (List.mem_cons_of_mem _ (List.mem_append_left _ (List.mem_of_getElem? (i := 9) rfl)))) rfl (by decide +kernel) rfl rfl (Nat.le_of_ble_eq_true rfl) rfl dX5_stepOverDigits_118 (fun H locs hP hD hS => ?_)
          obtain ⟨V14, hV14⟩ : ∃ z : Nat → Nat → Int, z = (mU Va 2 3 4) := ⟨_, rfl⟩
          rw [← hV14] at hP hD
          exact kq_retV hx hb hK hP hS hr (by unfold f_sod; rw [ke, kv, ← i2, ← e24, ← e1]; first | (rw [if_pos (by omega)]; assumption) | exact (if_neg (by omega)).symm) dX5_stepOverDigits_121 hlocks
    refine z_icmp_ne (x := (Va 1 (Int.toNat (Va 2 4)))) (y := 48) (tgt := 101) hx hb (by omega) (by omega) dX5_stepOverDigits_81 (by decide) (fun c3 => ?_) (fun c3 => ?_)
    · refine lv_iconst (v := iZ 0) hx hb dX5_stepOverDigits_101 (by decide) ?_
      exact K6 0 (by first | rfl | (rw [if_neg c3]; done) | omega | (subst_vars; first | rfl | (rw [if_neg c3]; done) | omega)) ls (lv_sub hl [0] rfl)
    · refine lv_aload_n hx hb dX5_stepOverDigits_84 rfl (lv_at hl 0 rfl) ?_
      refine kq_get (i := 2) hx hb hts hin_X5 hown hK hP (by decide) (cE_2 rfl) rfl 2 (by decide) (hts (.fieldLink RX5 25 "WordFletchers$TextReader" "next" "I") (List.mem_cons_of_mem _ (List.mem_append_left _ (List.mem_of_getElem? (i := 1) rfl)))) rfl dX5_stepOverDigits_85 ?_
      refine lv_aload_n hx hb dX5_stepOverDigits_88 rfl (lv_at hl 0 rfl) ?_
      refine kq_get (i := 2) hx hb hts hin_X5 hown hK hP (by decide) (cE_2 rfl) rfl 4 (by decide) (hts (.fieldLink RX5 43 "WordFletchers$TextReader" "start" "I") (List.mem_cons_of_mem _ (List.mem_append_left _ (List.mem_of_getElem? (i := 8) rfl)))) rfl dX5_stepOverDigits_89 ?_
      refine z_isub hx hb dX5_stepOverDigits_92 ?_
      refine lv_iconst (v := iZ 1) hx hb dX5_stepOverDigits_93 (by decide) ?_
      refine z_icmp_le (x := ((Va 2 2) - (Va 2 4))) (y := 1) (tgt := 101) hx hb (by omega) (by omega) dX5_stepOverDigits_94 (by decide) (fun c4 => ?_) (fun c4 => ?_)
      · refine lv_iconst (v := iZ 0) hx hb dX5_stepOverDigits_101 (by decide) ?_
        exact K6 0 (by first | rfl | (rw [if_pos c3, if_pos c4]; done) | omega | (subst_vars; first | rfl | (rw [if_pos c3, if_pos c4]; done) | omega)) ls (lv_sub hl [0] rfl)
      · refine lv_iconst (v := iZ 1) hx hb dX5_stepOverDigits_97 (by decide) ?_
        refine lv_goto (tgt := 102) hx hb dX5_stepOverDigits_98 (by decide) ?_
        exact K6 1 (by first | rfl | (rw [if_pos c3, if_neg c4]; done) | omega | (subst_vars; first | rfl | (rw [if_pos c3, if_neg c4]; done) | omega)) ls (lv_sub hl [0] rfl)
  · refine lv_aload_n hx hb dX5_stepOverDigits_16 rfl (lv_at hl 0 rfl) ?_
    refine lv_aload_n hx hb dX5_stepOverDigits_17 rfl (lv_at hl 0 rfl) ?_
    refine kq_get (i := 2) hx hb hts hin_X5 hown hK hP (by decide) (cE_2 rfl) rfl 2 (by decide) (hts (.fieldLink RX5 25 "WordFletchers$TextReader" "next" "I") (List.mem_cons_of_mem _ (List.mem_append_left _ (List.mem_of_getElem? (i := 1) rfl)))) rfl dX5_stepOverDigits_18 ?_
    refine kq_ci (i := 2) (As := [.int (iZ (Va 2 2))]) (rest := []) ⟨hx, hb, hml, hown, hts⟩ hK hP hN hS (by decide) (cE_2 rfl) rfl (K_X5_sortAt l D C a b Va (Va 2 2) (by omega) (by omega) (by assumption)) (cwV 1 hts gX5_stepOverDigits_X5_sortAt rfl rfl rfl (by decide +kernel) ⟨Nat.le_of_ble_eq_true rfl, Nat.le_of_ble_eq_true rfl⟩) rfl rfl hl.1 (Nat.le_of_ble_eq_true rfl) ⟨Nat.le_of_ble_eq_true rfl, Nat.le_of_ble_eq_true rfl⟩ dX5_stepOverDigits_21 ?_
    have hkd9 := k_sort_bd Va (Va 2 2)
    refine z_nm (fun ks hks => ?_)
    have hks9 : ks = k_sort V (Va 2 2) := by rw [hks, eks]
    refine lv_iconst (v := iZ 2) hx hb dX5_stepOverDigits_24 (by decide) ?_
    refine z_icmp_ne (x := ks) (y := 2) (tgt := 70) hx hb (by omega) (by omega) dX5_stepOverDigits_25 (by decide) (fun c15 => ?_) (fun c15 => ?_)
    · have hen9 := hen (by omega)
      have ke : k_de V = Va 2 2 := by rw [i3, z_run_step _ 121 _ (by omega)]; exact if_neg (fun h8 => hen9 (of_decide_eq_true h8))
      have kv : k_dv V = Va 2 5 := by rw [i4, k_val_step _ _ (by omega)]; exact if_neg hen9
      refine lv_aload_n hx hb dX5_stepOverDigits_70 rfl (lv_at hl 0 rfl) ?_
      refine kq_get (i := 2) hx hb hts hin_X5 hown hK hP (by decide) (cE_2 rfl) rfl 0 (by decide) (hts (.fieldLink RX5 9 "WordFletchers$TextReader" "bytes" "[I") (List.mem_cons_of_mem _ (List.mem_append_left _ (List.mem_of_getElem? (i := 3) rfl)))) rfl dX5_stepOverDigits_71 ?_
      refine lv_aload_n hx hb dX5_stepOverDigits_74 rfl (lv_at hl 0 rfl) ?_
      refine W.eq (g2 := F0 m 75 ls [.ref (a 2), .ref (a 1)]) rfl ?_
      refine kq_get (i := 2) hx hb hts hin_X5 hown hK hP (by decide) (cE_2 rfl) rfl 4 (by decide) (hts (.fieldLink RX5 43 "WordFletchers$TextReader" "start" "I") (List.mem_cons_of_mem _ (List.mem_append_left _ (List.mem_of_getElem? (i := 8) rfl)))) rfl dX5_stepOverDigits_75 ?_
      refine kq_iald (i := 1) hx hb hK hP (by decide) (n := 120) (cE_1 rfl) (by decide) (Int.toNat (Va 2 4)) rfl (by omega) dX5_stepOverDigits_78 ?_
      refine lv_bipush (v := iZ 48) hx hb dX5_stepOverDigits_79 (by decide) ?_
      have K19 : ∀ (v18 : Int), (v18 = (if (Va 1 (Int.toNat (Va 2 4))) = 48 then (if ((Va 2 2) - (Va 2 4)) ≤ 1 then 0 else 1) else 0)) → ∀ ls : Array Slot, lv_has ls 2 [(0, .ref (a 2))] → W p l e ((headSpec wsX5_stepOverDigits ({ frames := 1, cells := 0, slots := 0, locals := 24 })).room) s m (([.ref (a 2)] : List Value).toArray) below meth c H locs 0 0 (MQ below (va_Qv (fun (_ : Unit) => True) (fun _ t => cPo D C a (f_sod V) t) (cA a)) (([.ref (a 2)] : List Value).toArray) s 0 0 (cA a)) (F0 m 102 ls [.int (iZ v18)]) := by
        intro v18 hv18 ls hl
        refine lv_istore_n (lv' := [(1, .int (iZ v18)), (0, .ref (a 2))]) hx hb dX5_stepOverDigits_102 rfl hl (by decide) rfl (fun ls hl => ?_)
        refine lv_aload_n hx hb dX5_stepOverDigits_103 rfl (lv_at hl 1 rfl) ?_
        refine kq_get (i := 2) hx hb hts hin_X5 hown hK hP (by decide) (cE_2 rfl) rfl 5 (by decide) (hts (.fieldLink RX5 46 "WordFletchers$TextReader" "value" "I") (List.mem_cons_of_mem _ (List.mem_append_left _ (List.mem_of_getElem? (i := 0) rfl)))) rfl dX5_stepOverDigits_104 ?_
        refine lv_bipush (v := iZ 99) hx hb dX5_stepOverDigits_107 (by decide) ?_
        refine z_icmp_gt (x := (Va 2 5)) (y := 99) (tgt := 116) hx hb (by omega) (by omega) dX5_stepOverDigits_109 (by decide) (fun c20 => ?_) (fun c20 => ?_)
        · refine lv_aload_n hx hb dX5_stepOverDigits_116 rfl (lv_at hl 1 rfl) ?_
          refine lv_iconst (v := iZ 4) hx hb dX5_stepOverDigits_117 (by decide) ?_
          refine kq_put (ty := .int) (i := 2) hx hb hts hin_X5 hown tyX5 tyX5_ok nmX5 hK hP hD hS (by decide) (cE_2 rfl) rfl 3 (by decide) (hts (.fieldLink RX5 36 "WordFletchers$TextReader" "sort" "I") (List.mem_cons_of_mem _ (List.mem_append_left _ (List.mem_of_getElem? (i := 9) rfl)))) rfl (by decide +kernel) rfl rfl (Nat.le_of_ble_eq_true rfl) rfl dX5_stepOverDigits_118 (fun H locs hP hD hS => ?_)
          obtain ⟨V24, hV24⟩ : ∃ z : Nat → Nat → Int, z = (mU Va 2 3 4) := ⟨_, rfl⟩
          rw [← hV24] at hP hD
          exact kq_retV hx hb hK hP hS hr (by unfold f_sod; rw [ke, kv, ← i2, ← e24, ← e1]; first | (rw [if_pos (by omega)]; assumption) | exact (if_neg (by omega)).symm) dX5_stepOverDigits_121 hlocks
        · refine lv_iload_n hx hb dX5_stepOverDigits_112 rfl (lv_at hl 0 rfl) ?_
          refine z_if_eq (x := v18) (tgt := 121) hx hb (by omega) dX5_stepOverDigits_113 (by decide) (fun c25 => ?_) (fun c25 => ?_)
          · exact kq_retV hx hb hK hP hS hr (by unfold f_sod; rw [ke, kv, ← i2, ← e24, ← e1]; first | (rw [if_pos (by omega)]; assumption) | exact (if_neg (by omega)).symm) dX5_stepOverDigits_121 hlocks
          · refine lv_aload_n hx hb dX5_stepOverDigits_116 rfl (lv_at hl 1 rfl) ?_
            refine lv_iconst (v := iZ 4) hx hb dX5_stepOverDigits_117 (by decide) ?_
            refine kq_put (ty := .int) (i := 2) hx hb hts hin_X5 hown tyX5 tyX5_ok nmX5 hK hP hD hS (by decide) (cE_2 rfl) rfl 3 (by decide) (hts (.fieldLink RX5 36 "WordFletchers$TextReader" "sort" "I") (List.mem_cons_of_mem _ (List.mem_append_left _ (List.mem_of_getElem? (i := 9) rfl)))) rfl (by decide +kernel) rfl rfl (Nat.le_of_ble_eq_true rfl) rfl dX5_stepOverDigits_118 (fun H locs hP hD hS => ?_)
            obtain ⟨V27, hV27⟩ : ∃ z : Nat → Nat → Int, z = (mU Va 2 3 4) := ⟨_, rfl⟩
            rw [← hV27] at hP hD
            exact kq_retV hx hb hK hP hS hr (by unfold f_sod; rw [ke, kv, ← i2, ← e24, ← e1]; first | (rw [if_pos (by omega)]; assumption) | exact (if_neg (by omega)).symm) dX5_stepOverDigits_121 hlocks
      refine z_icmp_ne (x := (Va 1 (Int.toNat (Va 2 4)))) (y := 48) (tgt := 101) hx hb (by omega) (by omega) dX5_stepOverDigits_81 (by decide) (fun c16 => ?_) (fun c16 => ?_)
      · refine lv_iconst (v := iZ 0) hx hb dX5_stepOverDigits_101 (by decide) ?_
        exact K19 0 (by first | rfl | (rw [if_neg c16]; done) | omega | (subst_vars; first | rfl | (rw [if_neg c16]; done) | omega)) ls (lv_sub hl [0] rfl)
      · refine lv_aload_n hx hb dX5_stepOverDigits_84 rfl (lv_at hl 0 rfl) ?_
        refine kq_get (i := 2) hx hb hts hin_X5 hown hK hP (by decide) (cE_2 rfl) rfl 2 (by decide) (hts (.fieldLink RX5 25 "WordFletchers$TextReader" "next" "I") (List.mem_cons_of_mem _ (List.mem_append_left _ (List.mem_of_getElem? (i := 1) rfl)))) rfl dX5_stepOverDigits_85 ?_
        refine lv_aload_n hx hb dX5_stepOverDigits_88 rfl (lv_at hl 0 rfl) ?_
        refine kq_get (i := 2) hx hb hts hin_X5 hown hK hP (by decide) (cE_2 rfl) rfl 4 (by decide) (hts (.fieldLink RX5 43 "WordFletchers$TextReader" "start" "I") (List.mem_cons_of_mem _ (List.mem_append_left _ (List.mem_of_getElem? (i := 8) rfl)))) rfl dX5_stepOverDigits_89 ?_
        refine z_isub hx hb dX5_stepOverDigits_92 ?_
        refine lv_iconst (v := iZ 1) hx hb dX5_stepOverDigits_93 (by decide) ?_
        refine z_icmp_le (x := ((Va 2 2) - (Va 2 4))) (y := 1) (tgt := 101) hx hb (by omega) (by omega) dX5_stepOverDigits_94 (by decide) (fun c17 => ?_) (fun c17 => ?_)
        · refine W.eq (g2 := F0 m 101 ls []) rfl ?_
          refine lv_iconst (v := iZ 0) hx hb dX5_stepOverDigits_101 (by decide) ?_
          exact K19 0 (by first | rfl | (rw [if_pos c16, if_pos c17]; done) | omega | (subst_vars; first | rfl | (rw [if_pos c16, if_pos c17]; done) | omega)) ls (lv_sub hl [0] rfl)
        · refine lv_iconst (v := iZ 1) hx hb dX5_stepOverDigits_97 (by decide) ?_
          refine lv_goto (tgt := 102) hx hb dX5_stepOverDigits_98 (by decide) ?_
          exact K19 1 (by first | rfl | (rw [if_pos c16, if_neg c17]; done) | omega | (subst_vars; first | rfl | (rw [if_pos c16, if_neg c17]; done) | omega)) ls (lv_sub hl [0] rfl)
    · refine lv_aload_n hx hb dX5_stepOverDigits_28 rfl (lv_at hl 0 rfl) ?_
      refine lv_bipush (v := iZ 100) hx hb dX5_stepOverDigits_29 (by decide) ?_
      refine lv_aload_n hx hb dX5_stepOverDigits_31 rfl (lv_at hl 0 rfl) ?_
      refine kq_get (i := 2) hx hb hts hin_X5 hown hK hP (by decide) (cE_2 rfl) rfl 5 (by decide) (hts (.fieldLink RX5 46 "WordFletchers$TextReader" "value" "I") (List.mem_cons_of_mem _ (List.mem_append_left _ (List.mem_of_getElem? (i := 0) rfl)))) rfl dX5_stepOverDigits_32 ?_
      refine lv_bipush (v := iZ 10) hx hb dX5_stepOverDigits_35 (by decide) ?_
      refine z_imul hx hb dX5_stepOverDigits_37 ?_
      refine W.eq (g2 := F0 m 38 ls [.int (iZ ((Va 2 5) * 10)), .int (iZ 100), .ref (a 2)]) rfl ?_
      refine lv_aload_n hx hb dX5_stepOverDigits_38 rfl (lv_at hl 0 rfl) ?_
      refine kq_get (i := 2) hx hb hts hin_X5 hown hK hP (by decide) (cE_2 rfl) rfl 0 (by decide) (hts (.fieldLink RX5 9 "WordFletchers$TextReader" "bytes" "[I") (List.mem_cons_of_mem _ (List.mem_append_left _ (List.mem_of_getElem? (i := 3) rfl)))) rfl dX5_stepOverDigits_39 ?_
      refine lv_aload_n hx hb dX5_stepOverDigits_42 rfl (lv_at hl 0 rfl) ?_
      refine kq_get (i := 2) hx hb hts hin_X5 hown hK hP (by decide) (cE_2 rfl) rfl 2 (by decide) (hts (.fieldLink RX5 25 "WordFletchers$TextReader" "next" "I") (List.mem_cons_of_mem _ (List.mem_append_left _ (List.mem_of_getElem? (i := 1) rfl)))) rfl dX5_stepOverDigits_43 ?_
      refine kq_iald (i := 1) hx hb hK hP (by decide) (n := 120) (cE_1 rfl) (by decide) (Int.toNat (Va 2 2)) rfl (by omega) dX5_stepOverDigits_46 ?_
      refine z_iadd hx hb dX5_stepOverDigits_47 ?_
      refine lv_bipush (v := iZ 48) hx hb dX5_stepOverDigits_48 (by decide) ?_
      refine z_isub hx hb dX5_stepOverDigits_50 ?_
      refine kq_min (x := 100) (y := ((((Va 2 5) * 10) + (Va 1 (Int.toNat (Va 2 2)))) - 48)) hx hb (hml.trans hl.1.symm) hown (hts (.methodLink RX5 15 Lib.Math.min.name) (List.mem_cons_of_mem _ (List.mem_append_left _ (List.mem_of_getElem? (i := 4) rfl)))) (hts (.static Lib.Math.min.name) (List.mem_cons_of_mem _ (List.mem_append_left _ (List.mem_of_getElem? (i := 5) rfl)))) (hts (.initialized "java/lang/Math") (List.mem_cons_of_mem _ (List.mem_append_left _ (List.mem_of_getElem? (i := 6) rfl)))) (hts (.code Lib.Math.min.name Lib.Math.min.code 2 (some .int)) (List.mem_cons_of_mem _ (List.mem_append_left _ (List.mem_of_getElem? (i := 7) rfl)))) (Nat.le_of_ble_eq_true rfl) (Nat.le_of_ble_eq_true rfl) (Nat.le_of_ble_eq_true rfl) (Nat.le_of_ble_eq_true rfl) (by omega) (by omega) dX5_stepOverDigits_51 ?_
      refine kq_put (ty := .int) (i := 2) hx hb hts hin_X5 hown tyX5 tyX5_ok nmX5 hK hP hD hS (by decide) (cE_2 rfl) rfl 5 (by decide) (hts (.fieldLink RX5 46 "WordFletchers$TextReader" "value" "I") (List.mem_cons_of_mem _ (List.mem_append_left _ (List.mem_of_getElem? (i := 0) rfl)))) rfl (by decide +kernel) rfl rfl (Nat.le_of_ble_eq_true rfl) rfl dX5_stepOverDigits_54 (fun H locs hP hD hS => ?_)
      obtain ⟨V28, hV28⟩ : ∃ z : Nat → Nat → Int, z = (mU Va 2 5 (if ((((Va 2 5) * 10) + (Va 1 (Int.toNat (Va 2 2)))) - 48) < 100 then ((((Va 2 5) * 10) + (Va 1 (Int.toNat (Va 2 2)))) - 48) else 100)) := ⟨_, rfl⟩
      rw [← hV28] at hP hD
      have eb : V28 2 5 = (if Va 2 5 * 10 + V 1 (Int.toNat (Va 2 2)) - 48 < 100 then Va 2 5 * 10 + V 1 (Int.toNat (Va 2 2)) - 48 else 100) := by rw [hV28, mU_eq, ← hv9]
      have eb2 : V28 2 2 = Va 2 2 := by rw [hV28]; rfl
      have hr54 := hV28
      refine lv_aload_n hx hb dX5_stepOverDigits_57 rfl (lv_at hl 0 rfl) ?_
      refine lv_dup hx hb dX5_stepOverDigits_58 rfl ?_
      refine W.eq (g2 := F0 m 59 ls [.ref (a 2), .ref (a 2)]) rfl ?_
      refine kq_get (i := 2) hx hb hts hin_X5 hown hK hP (by decide) (cE_2 rfl) rfl 2 (by decide) (hts (.fieldLink RX5 25 "WordFletchers$TextReader" "next" "I") (List.mem_cons_of_mem _ (List.mem_append_left _ (List.mem_of_getElem? (i := 1) rfl)))) rfl dX5_stepOverDigits_59 ?_
      refine lv_iconst (v := iZ 1) hx hb dX5_stepOverDigits_62 (by decide) ?_
      refine z_iadd hx hb dX5_stepOverDigits_63 ?_
      refine kq_put (ty := .int) (i := 2) hx hb hts hin_X5 hown tyX5 tyX5_ok nmX5 hK hP hD hS (by decide) (cE_2 rfl) rfl 2 (by decide) (hts (.fieldLink RX5 25 "WordFletchers$TextReader" "next" "I") (List.mem_cons_of_mem _ (List.mem_append_left _ (List.mem_of_getElem? (i := 1) rfl)))) rfl (by decide +kernel) rfl rfl (Nat.le_of_ble_eq_true rfl) rfl dX5_stepOverDigits_64 (fun H locs hP hD hS => ?_)
      obtain ⟨V29, hV29⟩ : ∃ z : Nat → Nat → Int, z = (mU V28 2 2 ((V28 2 2) + 1)) := ⟨_, rfl⟩
      rw [← hV29] at hP hD
      have en : V29 2 2 = Va 2 2 + 1 := by rw [hV29, mU_eq, eb2]
      have en5 : V29 2 5 = (if Va 2 5 * 10 + V 1 (Int.toNat (Va 2 2)) - 48 < 100 then Va 2 5 * 10 + V 1 (Int.toNat (Va 2 2)) - 48 else 100) := by rw [← eb, hV29]; rfl
      have ew : V29 = mU (mU V 2 5 (if Va 2 5 * 10 + V 1 (Int.toNat (Va 2 2)) - 48 < 100 then Va 2 5 * 10 + V 1 (Int.toNat (Va 2 2)) - 48 else 100)) 2 2 (Va 2 2 + 1) := by rw [← eb, ← eb2, hV29, hr54]; exact sod_st i2 _ _
      refine lv_goto (tgt := 5) hx hb dX5_stepOverDigits_67 (by decide) ?_
      exact ih5 V29 ⟨(by show (V 2 2 ≤ V29 2 2 ∧ V29 2 2 ≤ V 2 1) ∧ (0 ≤ V29 2 5 ∧ V29 2 5 ≤ 100); rw [en, en5]; omega), (by show V29 = mU (mU V 2 5 (V29 2 5)) 2 2 (V29 2 2); rw [en, en5]; exact ew), (by show k_de V = z_run (fun q => decide (k_sort V q = 2)) (Int.toNat (121 - V29 2 2)) (V29 2 2); rw [i3, z_run_step _ 121 _ (by omega), en]; exact if_pos (decide_eq_true (by omega))), (by show k_dv V = k_val V (Int.toNat (121 - V29 2 2)) (V29 2 2) (V29 2 5); rw [i4, k_val_step _ _ (by omega), en, en5]; exact if_pos (by omega))⟩ (by show (121 - V29 2 2).toNat < (121 - Va 2 2).toNat; rw [en]; omega) H locs ⟨hP, hS⟩ ls (lv_sub hl [0] rfl)
set_option maxHeartbeats 20000000 in
set_option maxRecDepth 100000 in
theorem K_X5_step (l : Launch) (D : va_G) (C : cC) (a b : Nat → Nat) (V : Nat → Nat → Int) (hH : rdH V) (hDD : va_D (fun _ => True) (cW C a V)) : Met l yX5_step wsX5_step ({ frames := 2, cells := 0, slots := 0, locals := 45 }) (va_Pc [.ref (a 2)] (cOk D C a b V)) (va_Qv (fun (_ : Unit) => True) (fun _ t => cPo D C a (f_kst V) t) (cA a)) 0 0 (cA a) := by
  refine Met.ofW (cc := cX5_step) (maxL := 1) (ret := none) (by decide) rfl ?_
  intro p e s m args below meth c s₁ B hml hv
  obtain ⟨rfl, hP, hK, hN⟩ := hv
  have hx := B.exec
  have hb := B.bytes
  have hr := B.returns
  have hts := atoms_spec (ws := wsX5_step) B.pre
  have hown : s.vm.findClass RX5 = some m.cls := findClass_of_methodNamed B.named
  have hlocks := B.notSynchronized
  have hin_X5 : ∀ w ∈ wsX50, w ∈ wsX5_step := fun _ w_h => (List.mem_cons_of_mem _ (List.mem_append_right _ w_h))
  have hl := lv_entry ([.ref (a 2)]) (n := 1) (Nat.le_of_ble_eq_true rfl)
  rw [lg_entry_eq]
  generalize (lg_sl ([.ref (a 2)]) ++ List.replicate (1 - (lg_sl ([.ref (a 2)])).length) Slot.unset).toArray = ls at hl ⊢
  replace hl : lv_has ls 1 [(0, .ref (a 2))] := hl
  have hD : va_D (cA a) (cW C a V) := cD_own hDD
  generalize hHe : s.heap = H at hP ⊢
  have hS : va_S (cA a) s.heap H [] := by rw [hHe]; exact va_S.rf
  generalize hlo : ([] : List Loc) = locs at hS ⊢
  clear hHe hlo
  obtain ⟨r1, r2, r6⟩ := id hH
  replace hl : lv_has ls 1 [(0, .ref (a 2))] := lv_sub hl [0] rfl
  replace hP := And.intro hP hS
  clear hS
  revert ls
  revert hP
  revert H locs
  refine z_loopH (σ := (Nat → Nat → Int)) (fun x9 => (V 2 2 ≤ x9 2 2 ∧ x9 2 2 ≤ V 2 1) ∧ (x9 = mU V 2 2 (x9 2 2)) ∧ (k_a1 V = z_run (fun q => decide (q < V 2 1 ∧ V 1 (Int.toNat q) = 32)) (Int.toNat (121 - x9 2 2)) (x9 2 2))) (fun x9 H9 locs9 => va_P D vwCl (cW C a x9) H9 ∧ va_S (cA a) s.heap H9 locs9) (fun x9 => [(0, .ref (a 2))]) 1 (fun x9 => (121 - x9 2 2).toNat) V ⟨(by show V 2 2 ≤ V 2 2 ∧ V 2 2 ≤ V 2 1; omega), (by show V = mU V 2 2 (V 2 2); exact (mU_id _ _ _ rfl).symm), (by show k_a1 V = z_run (fun q => decide (q < V 2 1 ∧ V 1 (Int.toNat q) = 32)) (Int.toNat (121 - V 2 2)) (V 2 2); rfl)⟩ ?_
  rintro Va hI9 ih0 H locs hPS ls hl
  have hP : va_P D vwCl (cW C a Va) H := hPS.1
  have hS : va_S (cA a) s.heap H locs := hPS.2
  clear hPS
  have hD : va_D (cA a) (cW C a Va) := cD_re hD
  obtain ⟨i1, i2, i3⟩ := hI9
  replace i1 : V 2 2 ≤ Va 2 2 ∧ Va 2 2 ≤ V 2 1 := i1
  replace i2 : Va = mU V 2 2 (Va 2 2) := i2
  replace i3 : k_a1 V = z_run (fun q => decide (q < V 2 1 ∧ V 1 (Int.toNat q) = 32)) (Int.toNat (121 - Va 2 2)) (Va 2 2) := i3
  replace hl : lv_has ls 1 [(0, .ref (a 2))] := hl
  have e21 : Va 2 1 = V 2 1 := by rw [i2]; rfl
  have e1 : Va 1 = V 1 := by rw [i2]; rfl
  have kb : k_by Va := fun k hk => by rw [e1]; exact r6 k hk
  have hbv : Va 2 2 < 120 → 0 ≤ Va 1 (Int.toNat (Va 2 2)) ∧ Va 1 (Int.toNat (Va 2 2)) ≤ 255 := fun h9 => kb _ (by omega)
  have hv9 : Va 1 (Int.toNat (Va 2 2)) = V 1 (Int.toNat (Va 2 2)) := by rw [e1]
  have hen : ¬ (Va 2 2 < V 2 1 ∧ V 1 (Int.toNat (Va 2 2)) = 32) → k_a1 V = Va 2 2 := fun h9 => by rw [i3, z_run_step _ 121 _ (by omega)]; exact if_neg (fun h8 => h9 (of_decide_eq_true h8))
  refine lv_aload_n hx hb dX5_step_0 rfl (lv_at hl 0 rfl) ?_
  refine kq_get (i := 2) hx hb hts hin_X5 hown hK hP (by decide) (cE_2 rfl) rfl 2 (by decide) (hts (.fieldLink RX5 25 "WordFletchers$TextReader" "next" "I") (List.mem_cons_of_mem _ (List.mem_append_left _ (List.mem_of_getElem? (i := 0) rfl)))) rfl dX5_step_1 ?_
  refine lv_aload_n hx hb dX5_step_4 rfl (lv_at hl 0 rfl) ?_
  refine kq_get (i := 2) hx hb hts hin_X5 hown hK hP (by decide) (cE_2 rfl) rfl 1 (by decide) (hts (.fieldLink RX5 21 "WordFletchers$TextReader" "length" "I") (List.mem_cons_of_mem _ (List.mem_append_left _ (List.mem_of_getElem? (i := 1) rfl)))) rfl dX5_step_5 ?_
  refine z_icmp_ge (x := (Va 2 2)) (y := (Va 2 1)) (tgt := 38) hx hb (by omega) (by omega) dX5_step_8 (by decide) (fun c1 => ?_) (fun c1 => ?_)
  · have ke := hen (by omega)
    refine lv_aload_n hx hb dX5_step_38 rfl (lv_at hl 0 rfl) ?_
    refine lv_aload_n hx hb dX5_step_39 rfl (lv_at hl 0 rfl) ?_
    refine W.eq (g2 := F0 m 40 ls [.ref (a 2), .ref (a 2)]) rfl ?_
    refine kq_get (i := 2) hx hb hts hin_X5 hown hK hP (by decide) (cE_2 rfl) rfl 2 (by decide) (hts (.fieldLink RX5 25 "WordFletchers$TextReader" "next" "I") (List.mem_cons_of_mem _ (List.mem_append_left _ (List.mem_of_getElem? (i := 0) rfl)))) rfl dX5_step_40 ?_
    refine kq_put (ty := .int) (i := 2) hx hb hts hin_X5 hown tyX5 tyX5_ok nmX5 hK hP hD hS (by decide) (cE_2 rfl) rfl 4 (by decide) (hts (.fieldLink RX5 43 "WordFletchers$TextReader" "start" "I") (List.mem_cons_of_mem _ (List.mem_append_left _ (List.mem_of_getElem? (i := 3) rfl)))) rfl (by decide +kernel) rfl rfl (Nat.le_of_ble_eq_true rfl) rfl dX5_step_43 (fun H locs hP hD hS => ?_)
    obtain ⟨V2, hV2⟩ : ∃ z : Nat → Nat → Int, z = (mU Va 2 4 (Va 2 2)) := ⟨_, rfl⟩
    rw [← hV2] at hP hD
    have s22 : V2 2 2 = Va 2 2 := by rw [hV2]; rfl
    have s21 : V2 2 1 = V 2 1 := by rw [hV2, ← e21]; rfl
    have s1 : V2 1 = V 1 := by rw [hV2, ← e1]; rfl
    have sks : ∀ i, k_sort V2 i = k_sort V i := fun i => by unfold k_sort; rw [s21, s1]
    have kb2 : k_by V2 := fun k hk => by rw [s1]; exact r6 k hk
    have hr43 := hV2
    refine lv_aload_n hx hb dX5_step_46 rfl (lv_at hl 0 rfl) ?_
    refine lv_aload_n hx hb dX5_step_47 rfl (lv_at hl 0 rfl) ?_
    refine lv_aload_n hx hb dX5_step_48 rfl (lv_at hl 0 rfl) ?_
    refine kq_get (i := 2) hx hb hts hin_X5 hown hK hP (by decide) (cE_2 rfl) rfl 2 (by decide) (hts (.fieldLink RX5 25 "WordFletchers$TextReader" "next" "I") (List.mem_cons_of_mem _ (List.mem_append_left _ (List.mem_of_getElem? (i := 0) rfl)))) rfl dX5_step_49 ?_
    refine kq_ci (i := 2) (As := [.int (iZ (V2 2 2))]) (rest := [.ref (a 2)]) ⟨hx, hb, hml, hown, hts⟩ hK hP hN hS (by decide) (cE_2 rfl) rfl (K_X5_sortAt l D C a b V2 (V2 2 2) (by omega) (by omega) (by assumption)) (cwV 1 hts gX5_step_X5_sortAt rfl rfl rfl (by decide +kernel) ⟨Nat.le_of_ble_eq_true rfl, Nat.le_of_ble_eq_true rfl⟩) rfl rfl hl.1 (Nat.le_of_ble_eq_true rfl) ⟨Nat.le_of_ble_eq_true rfl, Nat.le_of_ble_eq_true rfl⟩ dX5_step_52 ?_
    have hkd9 := k_sort_bd V2 (V2 2 2)
    refine z_nm (fun ks hks => ?_)
    have hks9 : ks = k_sort V (Va 2 2) := by rw [hks, s22, sks]
    refine kq_put (ty := .int) (i := 2) hx hb hts hin_X5 hown tyX5 tyX5_ok nmX5 hK hP hD hS (by decide) (cE_2 rfl) rfl 3 (by decide) (hts (.fieldLink RX5 36 "WordFletchers$TextReader" "sort" "I") (List.mem_cons_of_mem _ (List.mem_append_left _ (List.mem_of_getElem? (i := 4) rfl)))) rfl (by decide +kernel) rfl rfl (Nat.le_of_ble_eq_true rfl) rfl dX5_step_55 (fun H locs hP hD hS => ?_)
    obtain ⟨V3, hV3⟩ : ∃ z : Nat → Nat → Int, z = (mU V2 2 3 ks) := ⟨_, rfl⟩
    rw [← hV3] at hP hD
    have ea : V3 = k_at V := by unfold k_at; rw [ke, ← i2, ← hks9, hV3, hr43]
    have hS0 : rdS V3 := by rw [ea]; exact rdS_at hH
    have e23 : V3 2 3 = ks := by rw [hV3, mU_eq]
    have e22 : V3 2 2 = Va 2 2 := by rw [← s22, hV3]; rfl
    have h55 : ¬ ks = 0 → V3 2 4 < V3 2 1 := fun h9 => by have t := k_sort_lt V (Va 2 2) (by omega); rw [show V3 2 4 = Va 2 2 from by rw [hV3, hr43]; rfl, show V3 2 1 = V 2 1 from by rw [← s21, hV3]; rfl]; exact t
    refine lv_aload_n hx hb dX5_step_58 rfl (lv_at hl 0 rfl) ?_
    refine kq_get (i := 2) hx hb hts hin_X5 hown hK hP (by decide) (cE_2 rfl) rfl 3 (by decide) (hts (.fieldLink RX5 36 "WordFletchers$TextReader" "sort" "I") (List.mem_cons_of_mem _ (List.mem_append_left _ (List.mem_of_getElem? (i := 4) rfl)))) rfl dX5_step_59 ?_
    refine lv_iconst (v := iZ 1) hx hb dX5_step_62 (by decide) ?_
    refine z_icmp_ne (x := (V3 2 3)) (y := 1) (tgt := 73) hx hb (by omega) (by omega) dX5_step_63 (by decide) (fun c4 => ?_) (fun c4 => ?_)
    · refine W.eq (g2 := F0 m 73 ls []) rfl ?_
      refine lv_aload_n hx hb dX5_step_73 rfl (lv_at hl 0 rfl) ?_
      refine kq_get (i := 2) hx hb hts hin_X5 hown hK hP (by decide) (cE_2 rfl) rfl 3 (by decide) (hts (.fieldLink RX5 36 "WordFletchers$TextReader" "sort" "I") (List.mem_cons_of_mem _ (List.mem_append_left _ (List.mem_of_getElem? (i := 4) rfl)))) rfl dX5_step_74 ?_
      refine lv_iconst (v := iZ 2) hx hb dX5_step_77 (by decide) ?_
      refine z_icmp_ne (x := (V3 2 3)) (y := 2) (tgt := 88) hx hb (by omega) (by omega) dX5_step_78 (by decide) (fun c5 => ?_) (fun c5 => ?_)
      · refine lv_aload_n hx hb dX5_step_88 rfl (lv_at hl 0 rfl) ?_
        refine kq_get (i := 2) hx hb hts hin_X5 hown hK hP (by decide) (cE_2 rfl) rfl 3 (by decide) (hts (.fieldLink RX5 36 "WordFletchers$TextReader" "sort" "I") (List.mem_cons_of_mem _ (List.mem_append_left _ (List.mem_of_getElem? (i := 4) rfl)))) rfl dX5_step_89 ?_
        refine z_if_eq (x := (V3 2 3)) (tgt := 105) hx hb (by omega) dX5_step_92 (by decide) (fun c6 => ?_) (fun c6 => ?_)
        · exact kq_retV hx hb hK hP hS hr (by unfold f_kst; rw [ke, ← hks9, ← ea]; first | (rw [if_pos (by omega)]; assumption) | (refine Eq.trans ?_ (if_neg (by omega)).symm; first | (refine Eq.trans ?_ (if_pos (by omega)).symm; assumption) | (refine Eq.trans ?_ (if_neg (by omega)).symm; first | exact (if_pos (by omega)).symm | (refine Eq.trans ?_ (if_neg (by omega)).symm; rw [← e22]; assumption)))) dX5_step_105 hlocks
        · refine lv_aload_n hx hb dX5_step_95 rfl (lv_at hl 0 rfl) ?_
          refine lv_dup hx hb dX5_step_96 rfl ?_
          refine kq_get (i := 2) hx hb hts hin_X5 hown hK hP (by decide) (cE_2 rfl) rfl 2 (by decide) (hts (.fieldLink RX5 25 "WordFletchers$TextReader" "next" "I") (List.mem_cons_of_mem _ (List.mem_append_left _ (List.mem_of_getElem? (i := 0) rfl)))) rfl dX5_step_97 ?_
          refine lv_iconst (v := iZ 1) hx hb dX5_step_100 (by decide) ?_
          refine W.eq (g2 := F0 m 101 ls [.int (iZ 1), .int (iZ (V3 2 2)), .ref (a 2)]) rfl ?_
          refine z_iadd hx hb dX5_step_101 ?_
          refine kq_put (ty := .int) (i := 2) hx hb hts hin_X5 hown tyX5 tyX5_ok nmX5 hK hP hD hS (by decide) (cE_2 rfl) rfl 2 (by decide) (hts (.fieldLink RX5 25 "WordFletchers$TextReader" "next" "I") (List.mem_cons_of_mem _ (List.mem_append_left _ (List.mem_of_getElem? (i := 0) rfl)))) rfl (by decide +kernel) rfl rfl (Nat.le_of_ble_eq_true rfl) rfl dX5_step_102 (fun H locs hP hD hS => ?_)
          obtain ⟨V7, hV7⟩ : ∃ z : Nat → Nat → Int, z = (mU V3 2 2 ((V3 2 2) + 1)) := ⟨_, rfl⟩
          rw [← hV7] at hP hD
          exact kq_retV hx hb hK hP hS hr (by unfold f_kst; rw [ke, ← hks9, ← ea]; first | (rw [if_pos (by omega)]; assumption) | (refine Eq.trans ?_ (if_neg (by omega)).symm; first | (refine Eq.trans ?_ (if_pos (by omega)).symm; assumption) | (refine Eq.trans ?_ (if_neg (by omega)).symm; first | exact (if_pos (by omega)).symm | (refine Eq.trans ?_ (if_neg (by omega)).symm; rw [← e22]; assumption)))) dX5_step_105 hlocks
      · refine lv_aload_n hx hb dX5_step_81 rfl (lv_at hl 0 rfl) ?_
        refine kq_cv (i := 2) (As := []) (rest := []) ⟨hx, hb, hml, hown, hts⟩ hK hP hN hD hS (by decide) (cE_2 rfl) rfl (K_X5_stepOverDigits l D C a b V3  (by assumption) (h55 (by omega)) (hD.weaken (fun _ _ _ _ => trivial))) (cwV 0 hts gX5_step_X5_stepOverDigits rfl rfl rfl (by decide +kernel) ⟨Nat.le_of_ble_eq_true rfl, Nat.le_of_ble_eq_true rfl⟩) rfl rfl hl.1 (Nat.le_of_ble_eq_true rfl) ⟨Nat.le_of_ble_eq_true rfl, Nat.le_of_ble_eq_true rfl⟩ dX5_step_82 (fun H locs hP hD hS => ?_)
        obtain ⟨V8, hV8⟩ : ∃ z : Nat → Nat → Int, z = (f_sod V3) := ⟨_, rfl⟩
        rw [← hV8] at hP hD
        refine lv_goto (tgt := 105) hx hb dX5_step_85 (by decide) ?_
        exact kq_retV hx hb hK hP hS hr (by unfold f_kst; rw [ke, ← hks9, ← ea]; first | (rw [if_pos (by omega)]; assumption) | (refine Eq.trans ?_ (if_neg (by omega)).symm; first | (refine Eq.trans ?_ (if_pos (by omega)).symm; assumption) | (refine Eq.trans ?_ (if_neg (by omega)).symm; first | exact (if_pos (by omega)).symm | (refine Eq.trans ?_ (if_neg (by omega)).symm; rw [← e22]; assumption)))) dX5_step_105 hlocks
    · refine lv_aload_n hx hb dX5_step_66 rfl (lv_at hl 0 rfl) ?_
      refine kq_cv (i := 2) (As := []) (rest := []) ⟨hx, hb, hml, hown, hts⟩ hK hP hN hD hS (by decide) (cE_2 rfl) rfl (K_X5_stepOverLetters l D C a b V3  (by assumption) (h55 (by omega)) (hD.weaken (fun _ _ _ _ => trivial))) (cwV 0 hts gX5_step_X5_stepOverLetters rfl rfl rfl (by decide +kernel) ⟨Nat.le_of_ble_eq_true rfl, Nat.le_of_ble_eq_true rfl⟩) rfl rfl hl.1 (Nat.le_of_ble_eq_true rfl) ⟨Nat.le_of_ble_eq_true rfl, Nat.le_of_ble_eq_true rfl⟩ dX5_step_67 (fun H locs hP hD hS => ?_)
      obtain ⟨V9, hV9⟩ : ∃ z : Nat → Nat → Int, z = (f_sol V3) := ⟨_, rfl⟩
      rw [← hV9] at hP hD
      refine lv_goto (tgt := 105) hx hb dX5_step_70 (by decide) ?_
      exact kq_retV hx hb hK hP hS hr (by unfold f_kst; rw [ke, ← hks9, ← ea]; first | (rw [if_pos (by omega)]; assumption) | (refine Eq.trans ?_ (if_neg (by omega)).symm; first | (refine Eq.trans ?_ (if_pos (by omega)).symm; assumption) | (refine Eq.trans ?_ (if_neg (by omega)).symm; first | exact (if_pos (by omega)).symm | (refine Eq.trans ?_ (if_neg (by omega)).symm; rw [← e22]; assumption)))) dX5_step_105 hlocks
  · refine lv_aload_n hx hb dX5_step_11 rfl (lv_at hl 0 rfl) ?_
    refine W.eq (g2 := F0 m 12 ls [.ref (a 2)]) rfl ?_
    refine kq_get (i := 2) hx hb hts hin_X5 hown hK hP (by decide) (cE_2 rfl) rfl 0 (by decide) (hts (.fieldLink RX5 9 "WordFletchers$TextReader" "bytes" "[I") (List.mem_cons_of_mem _ (List.mem_append_left _ (List.mem_of_getElem? (i := 2) rfl)))) rfl dX5_step_12 ?_
    refine lv_aload_n hx hb dX5_step_15 rfl (lv_at hl 0 rfl) ?_
    refine kq_get (i := 2) hx hb hts hin_X5 hown hK hP (by decide) (cE_2 rfl) rfl 2 (by decide) (hts (.fieldLink RX5 25 "WordFletchers$TextReader" "next" "I") (List.mem_cons_of_mem _ (List.mem_append_left _ (List.mem_of_getElem? (i := 0) rfl)))) rfl dX5_step_16 ?_
    refine kq_iald (i := 1) hx hb hK hP (by decide) (n := 120) (cE_1 rfl) (by decide) (Int.toNat (Va 2 2)) rfl (by omega) dX5_step_19 ?_
    refine lv_bipush (v := iZ 32) hx hb dX5_step_20 (by decide) ?_
    refine z_icmp_ne (x := (Va 1 (Int.toNat (Va 2 2)))) (y := 32) (tgt := 38) hx hb (by omega) (by omega) dX5_step_22 (by decide) (fun c10 => ?_) (fun c10 => ?_)
    · have ke := hen (by omega)
      refine lv_aload_n hx hb dX5_step_38 rfl (lv_at hl 0 rfl) ?_
      refine lv_aload_n hx hb dX5_step_39 rfl (lv_at hl 0 rfl) ?_
      refine kq_get (i := 2) hx hb hts hin_X5 hown hK hP (by decide) (cE_2 rfl) rfl 2 (by decide) (hts (.fieldLink RX5 25 "WordFletchers$TextReader" "next" "I") (List.mem_cons_of_mem _ (List.mem_append_left _ (List.mem_of_getElem? (i := 0) rfl)))) rfl dX5_step_40 ?_
      refine kq_put (ty := .int) (i := 2) hx hb hts hin_X5 hown tyX5 tyX5_ok nmX5 hK hP hD hS (by decide) (cE_2 rfl) rfl 4 (by decide) (hts (.fieldLink RX5 43 "WordFletchers$TextReader" "start" "I") (List.mem_cons_of_mem _ (List.mem_append_left _ (List.mem_of_getElem? (i := 3) rfl)))) rfl (by decide +kernel) rfl rfl (Nat.le_of_ble_eq_true rfl) rfl dX5_step_43 (fun H locs hP hD hS => ?_)
      obtain ⟨V11, hV11⟩ : ∃ z : Nat → Nat → Int, z = (mU Va 2 4 (Va 2 2)) := ⟨_, rfl⟩
      rw [← hV11] at hP hD
      have s22 : V11 2 2 = Va 2 2 := by rw [hV11]; rfl
      have s21 : V11 2 1 = V 2 1 := by rw [hV11, ← e21]; rfl
      have s1 : V11 1 = V 1 := by rw [hV11, ← e1]; rfl
      have sks : ∀ i, k_sort V11 i = k_sort V i := fun i => by unfold k_sort; rw [s21, s1]
      have kb2 : k_by V11 := fun k hk => by rw [s1]; exact r6 k hk
      have hr43 := hV11
      refine lv_aload_n hx hb dX5_step_46 rfl (lv_at hl 0 rfl) ?_
      refine lv_aload_n hx hb dX5_step_47 rfl (lv_at hl 0 rfl) ?_
      refine W.eq (g2 := F0 m 48 ls [.ref (a 2), .ref (a 2)]) rfl ?_
      refine lv_aload_n hx hb dX5_step_48 rfl (lv_at hl 0 rfl) ?_
      refine kq_get (i := 2) hx hb hts hin_X5 hown hK hP (by decide) (cE_2 rfl) rfl 2 (by decide) (hts (.fieldLink RX5 25 "WordFletchers$TextReader" "next" "I") (List.mem_cons_of_mem _ (List.mem_append_left _ (List.mem_of_getElem? (i := 0) rfl)))) rfl dX5_step_49 ?_
      refine kq_ci (i := 2) (As := [.int (iZ (V11 2 2))]) (rest := [.ref (a 2)]) ⟨hx, hb, hml, hown, hts⟩ hK hP hN hS (by decide) (cE_2 rfl) rfl (K_X5_sortAt l D C a b V11 (V11 2 2) (by omega) (by omega) (by assumption)) (cwV 1 hts gX5_step_X5_sortAt rfl rfl rfl (by decide +kernel) ⟨Nat.le_of_ble_eq_true rfl, Nat.le_of_ble_eq_true rfl⟩) rfl rfl hl.1 (Nat.le_of_ble_eq_true rfl) ⟨Nat.le_of_ble_eq_true rfl, Nat.le_of_ble_eq_true rfl⟩ dX5_step_52 ?_
      have hkd9 := k_sort_bd V11 (V11 2 2)
      refine z_nm (fun ks hks => ?_)
      have hks9 : ks = k_sort V (Va 2 2) := by rw [hks, s22, sks]
      refine kq_put (ty := .int) (i := 2) hx hb hts hin_X5 hown tyX5 tyX5_ok nmX5 hK hP hD hS (by decide) (cE_2 rfl) rfl 3 (by decide) (hts (.fieldLink RX5 36 "WordFletchers$TextReader" "sort" "I") (List.mem_cons_of_mem _ (List.mem_append_left _ (List.mem_of_getElem? (i := 4) rfl)))) rfl (by decide +kernel) rfl rfl (Nat.le_of_ble_eq_true rfl) rfl dX5_step_55 (fun H locs hP hD hS => ?_)
      obtain ⟨V12, hV12⟩ : ∃ z : Nat → Nat → Int, z = (mU V11 2 3 ks) := ⟨_, rfl⟩
      rw [← hV12] at hP hD
      have ea : V12 = k_at V := by unfold k_at; rw [ke, ← i2, ← hks9, hV12, hr43]
      have hS0 : rdS V12 := by rw [ea]; exact rdS_at hH
      have e23 : V12 2 3 = ks := by rw [hV12, mU_eq]
      have e22 : V12 2 2 = Va 2 2 := by rw [← s22, hV12]; rfl
      have h55 : ¬ ks = 0 → V12 2 4 < V12 2 1 := fun h9 => by have t := k_sort_lt V (Va 2 2) (by omega); rw [show V12 2 4 = Va 2 2 from by rw [hV12, hr43]; rfl, show V12 2 1 = V 2 1 from by rw [← s21, hV12]; rfl]; exact t
      refine lv_aload_n hx hb dX5_step_58 rfl (lv_at hl 0 rfl) ?_
      refine kq_get (i := 2) hx hb hts hin_X5 hown hK hP (by decide) (cE_2 rfl) rfl 3 (by decide) (hts (.fieldLink RX5 36 "WordFletchers$TextReader" "sort" "I") (List.mem_cons_of_mem _ (List.mem_append_left _ (List.mem_of_getElem? (i := 4) rfl)))) rfl dX5_step_59 ?_
      refine lv_iconst (v := iZ 1) hx hb dX5_step_62 (by decide) ?_
      refine z_icmp_ne (x := (V12 2 3)) (y := 1) (tgt := 73) hx hb (by omega) (by omega) dX5_step_63 (by decide) (fun c13 => ?_) (fun c13 => ?_)
      · refine lv_aload_n hx hb dX5_step_73 rfl (lv_at hl 0 rfl) ?_
        refine kq_get (i := 2) hx hb hts hin_X5 hown hK hP (by decide) (cE_2 rfl) rfl 3 (by decide) (hts (.fieldLink RX5 36 "WordFletchers$TextReader" "sort" "I") (List.mem_cons_of_mem _ (List.mem_append_left _ (List.mem_of_getElem? (i := 4) rfl)))) rfl dX5_step_74 ?_
        refine lv_iconst (v := iZ 2) hx hb dX5_step_77 (by decide) ?_
        refine z_icmp_ne (x := (V12 2 3)) (y := 2) (tgt := 88) hx hb (by omega) (by omega) dX5_step_78 (by decide) (fun c14 => ?_) (fun c14 => ?_)
        · refine W.eq (g2 := F0 m 88 ls []) rfl ?_
          refine lv_aload_n hx hb dX5_step_88 rfl (lv_at hl 0 rfl) ?_
          refine kq_get (i := 2) hx hb hts hin_X5 hown hK hP (by decide) (cE_2 rfl) rfl 3 (by decide) (hts (.fieldLink RX5 36 "WordFletchers$TextReader" "sort" "I") (List.mem_cons_of_mem _ (List.mem_append_left _ (List.mem_of_getElem? (i := 4) rfl)))) rfl dX5_step_89 ?_
          refine z_if_eq (x := (V12 2 3)) (tgt := 105) hx hb (by omega) dX5_step_92 (by decide) (fun c15 => ?_) (fun c15 => ?_)
          · exact kq_retV hx hb hK hP hS hr (by unfold f_kst; rw [ke, ← hks9, ← ea]; first | (rw [if_pos (by omega)]; assumption) | (refine Eq.trans ?_ (if_neg (by omega)).symm; first | (refine Eq.trans ?_ (if_pos (by omega)).symm; assumption) | (refine Eq.trans ?_ (if_neg (by omega)).symm; first | exact (if_pos (by omega)).symm | (refine Eq.trans ?_ (if_neg (by omega)).symm; rw [← e22]; assumption)))) dX5_step_105 hlocks
          · refine lv_aload_n hx hb dX5_step_95 rfl (lv_at hl 0 rfl) ?_
            refine lv_dup hx hb dX5_step_96 rfl ?_
            refine kq_get (i := 2) hx hb hts hin_X5 hown hK hP (by decide) (cE_2 rfl) rfl 2 (by decide) (hts (.fieldLink RX5 25 "WordFletchers$TextReader" "next" "I") (List.mem_cons_of_mem _ (List.mem_append_left _ (List.mem_of_getElem? (i := 0) rfl)))) rfl dX5_step_97 ?_
            refine lv_iconst (v := iZ 1) hx hb dX5_step_100 (by decide) ?_
            refine z_iadd hx hb dX5_step_101 ?_
            refine kq_put (ty := .int) (i := 2) hx hb hts hin_X5 hown tyX5 tyX5_ok nmX5 hK hP hD hS (by decide) (cE_2 rfl) rfl 2 (by decide) (hts (.fieldLink RX5 25 "WordFletchers$TextReader" "next" "I") (List.mem_cons_of_mem _ (List.mem_append_left _ (List.mem_of_getElem? (i := 0) rfl)))) rfl (by decide +kernel) rfl rfl (Nat.le_of_ble_eq_true rfl) rfl dX5_step_102 (fun H locs hP hD hS => ?_)
            obtain ⟨V16, hV16⟩ : ∃ z : Nat → Nat → Int, z = (mU V12 2 2 ((V12 2 2) + 1)) := ⟨_, rfl⟩
            rw [← hV16] at hP hD
            exact kq_retV hx hb hK hP hS hr (by unfold f_kst; rw [ke, ← hks9, ← ea]; first | (rw [if_pos (by omega)]; assumption) | (refine Eq.trans ?_ (if_neg (by omega)).symm; first | (refine Eq.trans ?_ (if_pos (by omega)).symm; assumption) | (refine Eq.trans ?_ (if_neg (by omega)).symm; first | exact (if_pos (by omega)).symm | (refine Eq.trans ?_ (if_neg (by omega)).symm; rw [← e22]; assumption)))) dX5_step_105 hlocks
        · refine lv_aload_n hx hb dX5_step_81 rfl (lv_at hl 0 rfl) ?_
          refine W.eq (g2 := F0 m 82 ls [.ref (a 2)]) rfl ?_
          refine kq_cv (i := 2) (As := []) (rest := []) ⟨hx, hb, hml, hown, hts⟩ hK hP hN hD hS (by decide) (cE_2 rfl) rfl (K_X5_stepOverDigits l D C a b V12  (by assumption) (h55 (by omega)) (hD.weaken (fun _ _ _ _ => trivial))) (cwV 0 hts gX5_step_X5_stepOverDigits rfl rfl rfl (by decide +kernel) ⟨Nat.le_of_ble_eq_true rfl, Nat.le_of_ble_eq_true rfl⟩) rfl rfl hl.1 (Nat.le_of_ble_eq_true rfl) ⟨Nat.le_of_ble_eq_true rfl, Nat.le_of_ble_eq_true rfl⟩ dX5_step_82 (fun H locs hP hD hS => ?_)
          obtain ⟨V17, hV17⟩ : ∃ z : Nat → Nat → Int, z = (f_sod V12) := ⟨_, rfl⟩
          rw [← hV17] at hP hD
          refine lv_goto (tgt := 105) hx hb dX5_step_85 (by decide) ?_
          exact kq_retV hx hb hK hP hS hr (by unfold f_kst; rw [ke, ← hks9, ← ea]; first | (rw [if_pos (by omega)]; assumption) | (refine Eq.trans ?_ (if_neg (by omega)).symm; first | (refine Eq.trans ?_ (if_pos (by omega)).symm; assumption) | (refine Eq.trans ?_ (if_neg (by omega)).symm; first | exact (if_pos (by omega)).symm | (refine Eq.trans ?_ (if_neg (by omega)).symm; rw [← e22]; assumption)))) dX5_step_105 hlocks
      · refine lv_aload_n hx hb dX5_step_66 rfl (lv_at hl 0 rfl) ?_
        refine kq_cv (i := 2) (As := []) (rest := []) ⟨hx, hb, hml, hown, hts⟩ hK hP hN hD hS (by decide) (cE_2 rfl) rfl (K_X5_stepOverLetters l D C a b V12  (by assumption) (h55 (by omega)) (hD.weaken (fun _ _ _ _ => trivial))) (cwV 0 hts gX5_step_X5_stepOverLetters rfl rfl rfl (by decide +kernel) ⟨Nat.le_of_ble_eq_true rfl, Nat.le_of_ble_eq_true rfl⟩) rfl rfl hl.1 (Nat.le_of_ble_eq_true rfl) ⟨Nat.le_of_ble_eq_true rfl, Nat.le_of_ble_eq_true rfl⟩ dX5_step_67 (fun H locs hP hD hS => ?_)
        obtain ⟨V18, hV18⟩ : ∃ z : Nat → Nat → Int, z = (f_sol V12) := ⟨_, rfl⟩
        rw [← hV18] at hP hD
        refine lv_goto (tgt := 105) hx hb dX5_step_70 (by decide) ?_
        exact kq_retV hx hb hK hP hS hr (by unfold f_kst; rw [ke, ← hks9, ← ea]; first | (rw [if_pos (by omega)]; assumption) | (refine Eq.trans ?_ (if_neg (by omega)).symm; first | (refine Eq.trans ?_ (if_pos (by omega)).symm; assumption) | (refine Eq.trans ?_ (if_neg (by omega)).symm; first | exact (if_pos (by omega)).symm | (refine Eq.trans ?_ (if_neg (by omega)).symm; rw [← e22]; assumption)))) dX5_step_105 hlocks
    · refine lv_aload_n hx hb dX5_step_25 rfl (lv_at hl 0 rfl) ?_
      refine lv_dup hx hb dX5_step_26 rfl ?_
      refine kq_get (i := 2) hx hb hts hin_X5 hown hK hP (by decide) (cE_2 rfl) rfl 2 (by decide) (hts (.fieldLink RX5 25 "WordFletchers$TextReader" "next" "I") (List.mem_cons_of_mem _ (List.mem_append_left _ (List.mem_of_getElem? (i := 0) rfl)))) rfl dX5_step_27 ?_
      refine lv_iconst (v := iZ 1) hx hb dX5_step_30 (by decide) ?_
      refine z_iadd hx hb dX5_step_31 ?_
      refine W.eq (g2 := F0 m 32 ls [.int (iZ ((Va 2 2) + 1)), .ref (a 2)]) rfl ?_
      refine kq_put (ty := .int) (i := 2) hx hb hts hin_X5 hown tyX5 tyX5_ok nmX5 hK hP hD hS (by decide) (cE_2 rfl) rfl 2 (by decide) (hts (.fieldLink RX5 25 "WordFletchers$TextReader" "next" "I") (List.mem_cons_of_mem _ (List.mem_append_left _ (List.mem_of_getElem? (i := 0) rfl)))) rfl (by decide +kernel) rfl rfl (Nat.le_of_ble_eq_true rfl) rfl dX5_step_32 (fun H locs hP hD hS => ?_)
      obtain ⟨V19, hV19⟩ : ∃ z : Nat → Nat → Int, z = (mU Va 2 2 ((Va 2 2) + 1)) := ⟨_, rfl⟩
      rw [← hV19] at hP hD
      have en : V19 2 2 = Va 2 2 + 1 := by rw [hV19, mU_eq]
      have ew : V19 = mU V 2 2 (Va 2 2 + 1) := by rw [hV19]; rw [i2]; exact mU_mU _ _ _ _ _
      refine lv_goto (tgt := 0) hx hb dX5_step_35 (by decide) ?_
      exact ih0 V19 ⟨(by show V 2 2 ≤ V19 2 2 ∧ V19 2 2 ≤ V 2 1; rw [en]; omega), (by show V19 = mU V 2 2 (V19 2 2); rw [en]; exact ew), (by show k_a1 V = z_run (fun q => decide (q < V 2 1 ∧ V 1 (Int.toNat q) = 32)) (Int.toNat (121 - V19 2 2)) (V19 2 2); rw [i3, z_run_step _ 121 _ (by omega), en]; exact if_pos (decide_eq_true (by omega)))⟩ (by show (121 - V19 2 2).toNat < (121 - Va 2 2).toNat; rw [en]; omega) H locs ⟨hP, hS⟩ ls (lv_sub hl [0] rfl)
set_option maxHeartbeats 20000000 in
set_option maxRecDepth 100000 in
theorem K_X5_takeNumber (l : Launch) (D : va_G) (C : cC) (a b : Nat → Nat) (V : Nat → Nat → Int) (lo : Int) (hi : Int) (hR : rdI V) (h1 : -2147483648 ≤ lo ∧ lo < 2147483648) (h2 : -2147483648 ≤ hi ∧ hi < 2147483648) (hDD : va_D (fun _ => True) (cW C a V)) : Met l yX5_takeNumber wsX5_takeNumber ({ frames := 3, cells := 0, slots := 0, locals := 65 }) (va_Pc [.ref (a 2), .int (iZ lo), .int (iZ hi)] (cOk D C a b V)) (va_Qi (fun r (_ : Unit) => r = iZ (k_num V lo hi)) (fun _ t => cPo D C a (f_knum V lo hi) t) (cA a)) 0 0 (cA a) := by
  refine Met.ofW (cc := cX5_takeNumber) (maxL := 4) (ret := (some .int)) (by decide) rfl ?_
  intro p e s m args below meth c s₁ B hml hv
  obtain ⟨rfl, hP, hK, hN⟩ := hv
  have hx := B.exec
  have hb := B.bytes
  have hr := B.returns
  have hts := atoms_spec (ws := wsX5_takeNumber) B.pre
  have hown : s.vm.findClass RX5 = some m.cls := findClass_of_methodNamed B.named
  have hlocks := B.notSynchronized
  have hin_X5 : ∀ w ∈ wsX50, w ∈ wsX5_takeNumber := fun _ w_h => (List.mem_cons_of_mem _ (List.mem_append_right _ w_h))
  have hl := lv_entry ([.ref (a 2), .int (iZ lo), .int (iZ hi)]) (n := 4) (Nat.le_of_ble_eq_true rfl)
  rw [lg_entry_eq]
  generalize (lg_sl ([.ref (a 2), .int (iZ lo), .int (iZ hi)]) ++ List.replicate (4 - (lg_sl ([.ref (a 2), .int (iZ lo), .int (iZ hi)])).length) Slot.unset).toArray = ls at hl ⊢
  replace hl : lv_has ls 4 [(0, .ref (a 2)), (1, .int (iZ lo)), (2, .int (iZ hi))] := hl
  have hD : va_D (cA a) (cW C a V) := cD_own hDD
  generalize hHe : s.heap = H at hP ⊢
  have hS : va_S (cA a) s.heap H [] := by rw [hHe]; exact va_S.rf
  generalize hlo : ([] : List Loc) = locs at hS ⊢
  clear hHe hlo
  obtain ⟨⟨r1, r2, r3, r4, r6⟩, r5⟩ := id hR
  refine lv_aload_n hx hb dX5_takeNumber_0 rfl (lv_at hl 0 rfl) ?_
  refine kq_get (i := 2) hx hb hts hin_X5 hown hK hP (by decide) (cE_2 rfl) rfl 3 (by decide) (hts (.fieldLink RX5 36 "WordFletchers$TextReader" "sort" "I") (List.mem_cons_of_mem _ (List.mem_append_left _ (List.mem_append_left _ (List.mem_of_getElem? (i := 0) rfl))))) rfl dX5_takeNumber_1 ?_
  refine lv_iconst (v := iZ 2) hx hb dX5_takeNumber_4 (by decide) ?_
  refine z_icmp_ne (x := (V 2 3)) (y := 2) (tgt := 24) hx hb (by omega) (by omega) dX5_takeNumber_5 (by decide) (fun c1 => ?_) (fun c1 => ?_)
  · refine lv_iconst (v := iZ (-1)) hx hb dX5_takeNumber_24 (by decide) ?_
    exact kq_retM hx hb hK hP hS hr rfl (by unfold k_num k_nok; first | exact (if_pos (by omega)).symm | exact (if_neg (by omega)).symm) (by unfold f_knum k_nok; first | (refine Eq.trans ?_ (if_pos (by omega)).symm; assumption) | exact (if_neg (by omega)).symm) dX5_takeNumber_25 hlocks
  · refine lv_aload_n hx hb dX5_takeNumber_8 rfl (lv_at hl 0 rfl) ?_
    refine kq_get (i := 2) hx hb hts hin_X5 hown hK hP (by decide) (cE_2 rfl) rfl 5 (by decide) (hts (.fieldLink RX5 46 "WordFletchers$TextReader" "value" "I") (List.mem_cons_of_mem _ (List.mem_append_left _ (List.mem_append_left _ (List.mem_of_getElem? (i := 1) rfl))))) rfl dX5_takeNumber_9 ?_
    refine lv_iload_n hx hb dX5_takeNumber_12 rfl (lv_at hl 1 rfl) ?_
    refine z_icmp_lt (x := (V 2 5)) (y := lo) (tgt := 24) hx hb (by omega) (by omega) dX5_takeNumber_13 (by decide) (fun c2 => ?_) (fun c2 => ?_)
    · refine W.eq (g2 := F0 m 24 ls []) rfl ?_
      refine lv_iconst (v := iZ (-1)) hx hb dX5_takeNumber_24 (by decide) ?_
      exact kq_retM hx hb hK hP hS hr rfl (by unfold k_num k_nok; first | exact (if_pos (by omega)).symm | exact (if_neg (by omega)).symm) (by unfold f_knum k_nok; first | (refine Eq.trans ?_ (if_pos (by omega)).symm; assumption) | exact (if_neg (by omega)).symm) dX5_takeNumber_25 hlocks
    · refine lv_aload_n hx hb dX5_takeNumber_16 rfl (lv_at hl 0 rfl) ?_
      refine kq_get (i := 2) hx hb hts hin_X5 hown hK hP (by decide) (cE_2 rfl) rfl 5 (by decide) (hts (.fieldLink RX5 46 "WordFletchers$TextReader" "value" "I") (List.mem_cons_of_mem _ (List.mem_append_left _ (List.mem_append_left _ (List.mem_of_getElem? (i := 1) rfl))))) rfl dX5_takeNumber_17 ?_
      refine lv_iload_n hx hb dX5_takeNumber_20 rfl (lv_at hl 2 rfl) ?_
      refine z_icmp_le (x := (V 2 5)) (y := hi) (tgt := 26) hx hb (by omega) (by omega) dX5_takeNumber_21 (by decide) (fun c3 => ?_) (fun c3 => ?_)
      · refine lv_aload_n hx hb dX5_takeNumber_26 rfl (lv_at hl 0 rfl) ?_
        refine kq_get (i := 2) hx hb hts hin_X5 hown hK hP (by decide) (cE_2 rfl) rfl 5 (by decide) (hts (.fieldLink RX5 46 "WordFletchers$TextReader" "value" "I") (List.mem_cons_of_mem _ (List.mem_append_left _ (List.mem_append_left _ (List.mem_of_getElem? (i := 1) rfl))))) rfl dX5_takeNumber_27 ?_
        refine lv_istore_n (lv' := [(3, .int (iZ (V 2 5))), (0, .ref (a 2)), (1, .int (iZ lo)), (2, .int (iZ hi))]) hx hb dX5_takeNumber_30 rfl hl (by decide) rfl (fun ls hl => ?_)
        have hH : rdH V := hR.1.h
        refine lv_aload_n hx hb dX5_takeNumber_31 rfl (lv_at hl 1 rfl) ?_
        refine kq_cv (i := 2) (As := []) (rest := []) ⟨hx, hb, hml, hown, hts⟩ hK hP hN hD hS (by decide) (cE_2 rfl) rfl (K_X5_step l D C a b V  (by assumption) (hD.weaken (fun _ _ _ _ => trivial))) (cwV 0 hts gX5_takeNumber_X5_step rfl rfl rfl (by decide +kernel) ⟨Nat.le_of_ble_eq_true rfl, Nat.le_of_ble_eq_true rfl⟩) rfl rfl hl.1 (Nat.le_of_ble_eq_true rfl) ⟨Nat.le_of_ble_eq_true rfl, Nat.le_of_ble_eq_true rfl⟩ dX5_takeNumber_32 (fun H locs hP hD hS => ?_)
        obtain ⟨V4, hV4⟩ : ∃ z : Nat → Nat → Int, z = (f_kst V) := ⟨_, rfl⟩
        rw [← hV4] at hP hD
        refine lv_iload_n hx hb dX5_takeNumber_35 rfl (lv_at hl 0 rfl) ?_
        refine W.eq (g2 := F0 m 36 ls [.int (iZ (V 2 5))]) rfl ?_
        exact kq_retM hx hb hK hP hS hr rfl (by unfold k_num k_nok; first | exact (if_pos (by omega)).symm | exact (if_neg (by omega)).symm) (by unfold f_knum k_nok; first | (refine Eq.trans ?_ (if_pos (by omega)).symm; assumption) | exact (if_neg (by omega)).symm) dX5_takeNumber_36 hlocks
      · refine lv_iconst (v := iZ (-1)) hx hb dX5_takeNumber_24 (by decide) ?_
        exact kq_retM hx hb hK hP hS hr rfl (by unfold k_num k_nok; first | exact (if_pos (by omega)).symm | exact (if_neg (by omega)).symm) (by unfold f_knum k_nok; first | (refine Eq.trans ?_ (if_pos (by omega)).symm; assumption) | exact (if_neg (by omega)).symm) dX5_takeNumber_25 hlocks
set_option maxHeartbeats 20000000 in
set_option maxRecDepth 100000 in
theorem K_X5_takeSemicolon (l : Launch) (D : va_G) (C : cC) (a b : Nat → Nat) (V : Nat → Nat → Int) (hR : rdI V) (hDD : va_D (fun _ => True) (cW C a V)) : Met l yX5_takeSemicolon wsX5_takeSemicolon ({ frames := 3, cells := 0, slots := 0, locals := 65 }) (va_Pc [.ref (a 2)] (cOk D C a b V)) (va_Qi (fun r (_ : Unit) => r = iZ (if V 2 3 = 3 then 1 else 0)) (fun _ t => cPo D C a (f_ksem V) t) (cA a)) 0 0 (cA a) := by
  refine Met.ofW (cc := cX5_takeSemicolon) (maxL := 1) (ret := (some .boolean)) (by decide) rfl ?_
  intro p e s m args below meth c s₁ B hml hv
  obtain ⟨rfl, hP, hK, hN⟩ := hv
  have hx := B.exec
  have hb := B.bytes
  have hr := B.returns
  have hts := atoms_spec (ws := wsX5_takeSemicolon) B.pre
  have hown : s.vm.findClass RX5 = some m.cls := findClass_of_methodNamed B.named
  have hlocks := B.notSynchronized
  have hin_X5 : ∀ w ∈ wsX50, w ∈ wsX5_takeSemicolon := fun _ w_h => (List.mem_cons_of_mem _ (List.mem_append_right _ w_h))
  have hl := lv_entry ([.ref (a 2)]) (n := 1) (Nat.le_of_ble_eq_true rfl)
  rw [lg_entry_eq]
  generalize (lg_sl ([.ref (a 2)]) ++ List.replicate (1 - (lg_sl ([.ref (a 2)])).length) Slot.unset).toArray = ls at hl ⊢
  replace hl : lv_has ls 1 [(0, .ref (a 2))] := hl
  have hD : va_D (cA a) (cW C a V) := cD_own hDD
  generalize hHe : s.heap = H at hP ⊢
  have hS : va_S (cA a) s.heap H [] := by rw [hHe]; exact va_S.rf
  generalize hlo : ([] : List Loc) = locs at hS ⊢
  clear hHe hlo
  obtain ⟨⟨r1, r2, r3, r4, r6⟩, r5⟩ := id hR
  refine lv_aload_n hx hb dX5_takeSemicolon_0 rfl (lv_at hl 0 rfl) ?_
  refine kq_get (i := 2) hx hb hts hin_X5 hown hK hP (by decide) (cE_2 rfl) rfl 3 (by decide) (hts (.fieldLink RX5 36 "WordFletchers$TextReader" "sort" "I") (List.mem_cons_of_mem _ (List.mem_append_left _ (List.mem_append_left _ (List.mem_of_getElem? (i := 0) rfl))))) rfl dX5_takeSemicolon_1 ?_
  refine lv_iconst (v := iZ 3) hx hb dX5_takeSemicolon_4 (by decide) ?_
  refine z_icmp_eq (x := (V 2 3)) (y := 3) (tgt := 10) hx hb (by omega) (by omega) dX5_takeSemicolon_5 (by decide) (fun c1 => ?_) (fun c1 => ?_)
  · have hH : rdH V := hR.1.h
    refine lv_aload_n hx hb dX5_takeSemicolon_10 rfl (lv_at hl 0 rfl) ?_
    refine kq_cv (i := 2) (As := []) (rest := []) ⟨hx, hb, hml, hown, hts⟩ hK hP hN hD hS (by decide) (cE_2 rfl) rfl (K_X5_step l D C a b V  (by assumption) (hD.weaken (fun _ _ _ _ => trivial))) (cwV 0 hts gX5_takeSemicolon_X5_step rfl rfl rfl (by decide +kernel) ⟨Nat.le_of_ble_eq_true rfl, Nat.le_of_ble_eq_true rfl⟩) rfl rfl hl.1 (Nat.le_of_ble_eq_true rfl) ⟨Nat.le_of_ble_eq_true rfl, Nat.le_of_ble_eq_true rfl⟩ dX5_takeSemicolon_11 (fun H locs hP hD hS => ?_)
    obtain ⟨V2, hV2⟩ : ∃ z : Nat → Nat → Int, z = (f_kst V) := ⟨_, rfl⟩
    rw [← hV2] at hP hD
    refine lv_iconst (v := iZ 1) hx hb dX5_takeSemicolon_14 (by decide) ?_
    exact kq_retM hx hb hK hP hS hr (z_nbool (by first | omega | (split <;> omega))) (by first | omega | rfl | ((repeat' split) <;> first | rfl | omega) | (subst_vars; first | rfl | omega | ((repeat' split) <;> first | rfl | omega))) (by unfold f_ksem; first | (refine Eq.trans ?_ (if_pos (by omega)).symm; assumption) | exact (if_neg (by omega)).symm) dX5_takeSemicolon_15 hlocks
  · refine lv_iconst (v := iZ 0) hx hb dX5_takeSemicolon_8 (by decide) ?_
    refine W.eq (g2 := F0 m 9 ls [.int (iZ 0)]) rfl ?_
    exact kq_retM hx hb hK hP hS hr (z_nbool (by first | omega | (split <;> omega))) (by first | omega | rfl | ((repeat' split) <;> first | rfl | omega) | (subst_vars; first | rfl | omega | ((repeat' split) <;> first | rfl | omega))) (by unfold f_ksem; first | (refine Eq.trans ?_ (if_pos (by omega)).symm; assumption) | exact (if_neg (by omega)).symm) dX5_takeSemicolon_9 hlocks
