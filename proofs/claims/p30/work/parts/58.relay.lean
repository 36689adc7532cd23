set_option maxHeartbeats 4000000 in
set_option maxRecDepth 100000 in
theorem C_measure (l : Launch) (D : va_G) (C : mC) (h : Nat) (a : Nat → Nat) (M : Nat → Nat → Int) (sy to : Int) (hI : mI M) (h1 : 0 ≤ sy ∧ sy < M 5 0) (h2 : 0 ≤ to ∧ to < M 2 0) (hN : va_D (fun _ => True) (mW C h a M)) : Met l yX8_measure wsX8_measure ({ frames := 3, cells := 0, slots := 0, locals := 78 }) (va_Pc [.ref h, .int (iZ sy), .int (iZ to)] (mOk D C h a M)) (va_Qv (fun (_ : Unit) => True) (fun _ t => mOk D C h a (f_meas M sy to) t) (mA h a)) 0 0 (mA h a) := by
  refine Met.ofW (cc := cX8_measure) (maxL := 9) (ret := none) (by decide) rfl ?_
  intro p e s m args below meth c s₁ B hml hv
  obtain ⟨rfl, hP, hK⟩ := hv
  have hx := B.exec
  have hb := B.bytes
  have hr := B.returns
  have hts := atoms_spec (ws := wsX8_measure) B.pre
  have hown : s.vm.findClass RX8 = some m.cls := findClass_of_methodNamed B.named
  have hlocks := B.notSynchronized
  have hin : ∀ w ∈ wsX80, w ∈ wsX8_measure := fun _ w_h => (List.mem_cons_of_mem _ (List.mem_append_right _ w_h))
  have hl := lv_entry ([.ref h, .int (iZ sy), .int (iZ to)]) (n := 9) (Nat.le_of_ble_eq_true rfl)
  rw [lg_entry_eq]
  generalize (lg_sl ([.ref h, .int (iZ sy), .int (iZ to)]) ++ List.replicate (9 - (lg_sl ([.ref h, .int (iZ sy), .int (iZ to)])).length) Slot.unset).toArray = ls at hl ⊢
  replace hl : lv_has ls 9 [(0, .ref h), (1, .int (iZ sy)), (2, .int (iZ to))] := hl
  have hD : va_D (mA h a) (mW C h a M) := mD_own hN
  have hA : ∀ q, mA h a q → mA h a q := fun _ h9 => h9
  generalize hHe : s.heap = H at hP ⊢
  have hS : va_S (mA h a) s.heap H [] := by rw [hHe]; exact va_S.rf
  generalize hlo : ([] : List Loc) = locs at hS ⊢
  clear hHe hlo
  have hnw := mI_now hI
  refine lv_bipush (v := iZ 63) hx hb dX8_measure_0 (by decide) ?_
  refine lv_istore_n (lv' := [(3, .int (iZ 63)), (0, .ref h), (1, .int (iZ sy)), (2, .int (iZ to))]) hx hb dX8_measure_2 rfl hl (by decide) rfl (fun ls hl => ?_)
  replace hl : lv_has ls 9 [(3, .int (iZ (63 : Int))), (0, .ref h), (1, .int (iZ sy)), (2, .int (iZ to))] := lv_sub hl [0, 1, 2, 3] rfl
  replace hP := And.intro hP hS
  clear hS
  revert ls
  revert hP
  revert H locs
  refine z_loopH (σ := (Nat → Nat → Int) × Int) (fun x9 => (0 ≤ x9.2 ∧ x9.2 ≤ 63) ∧ (x9.1 = f_ms M sy to (Int.toNat (63 - x9.2))) ∧ (∀ k : Nat, x9.2 < (k : Int) → k ≤ 63 → 0 ≤ x9.1 24 k ∧ x9.1 24 k ≤ 1000000)) (fun x9 H9 locs9 => va_P D vwCl (mW C h a (x9.1)) H9 ∧ va_S (mA h a) s.heap H9 locs9) (fun x9 => [(3, .int (iZ (x9.2))), (0, .ref h), (1, .int (iZ sy)), (2, .int (iZ to))]) 9 (fun x9 => (Int.toNat x9.2)) (M, (63 : Int)) ⟨(by show 0 ≤ (63 : Int) ∧ (63 : Int) ≤ 63; omega), (by show M = f_ms M sy to (Int.toNat (63 - (63 : Int))); rfl), (by show ∀ k : Nat, (63 : Int) < (k : Int) → k ≤ 63 → 0 ≤ M 24 k ∧ M 24 k ≤ 1000000; intro k h1 h2; omega)⟩ ?_
  rintro ⟨Mb, st⟩ hI9 ih3 H locs hPS ls hl
  have hP : va_P D vwCl (mW C h a Mb) H := hPS.1
  have hS : va_S (mA h a) s.heap H locs := hPS.2
  clear hPS
  have hD : va_D (mA h a) (mW C h a Mb) := mD_re hD
  obtain ⟨i1, i2, i3⟩ := hI9
  replace i1 : 0 ≤ st ∧ st ≤ 63 := i1
  replace i2 : Mb = f_ms M sy to (Int.toNat (63 - st)) := i2
  replace i3 : ∀ k : Nat, st < (k : Int) → k ≤ 63 → 0 ≤ Mb 24 k ∧ Mb 24 k ≤ 1000000 := i3
  replace hl : lv_has ls 9 [(3, .int (iZ st)), (0, .ref h), (1, .int (iZ sy)), (2, .int (iZ to))] := hl
  have q3 : ∀ f, f ≠ 24 → f ≠ 25 → Mb f = M f := fun f hf _ => by rw [i2]; exact f_ms_o _ _ _ _ _ hf
  have hI_Mb : mI Mb := mI_oo hI q3
  have hnwb := mI_now hI_Mb
  have g2 := congrFun (q3 2 (by decide) (by decide)) 0
  have g5 := congrFun (q3 5 (by decide) (by decide)) 0
  refine lv_iload_n hx hb dX8_measure_3 rfl (lv_at hl 0 rfl) ?_
  refine z_if_le (x := st) (tgt := 150) hx hb (by omega) dX8_measure_4 (by decide) (fun c1 => ?_) (fun c1 => ?_)
  · exact mq_retV hx hb hK hP hS hr (by have q : st = 0 := (by omega); rw [i2, q]; rfl) dX8_measure_150 hlocks
  · refine lv_iload_n hx hb dX8_measure_7 rfl (lv_at hl 0 rfl) ?_
    refine lv_iload_n hx hb dX8_measure_8 rfl (lv_at hl 3 rfl) ?_
    refine mq_cs (As := [.int (iZ st), .int (iZ to)]) (rest := []) ⟨hx, hb, hml, hown, hts⟩ (C_has l st to (by omega) (by omega)) (va_cwS 2 hts gX8_measure_X8_has rfl rfl rfl (by decide +kernel) ⟨Nat.le_of_ble_eq_true rfl, Nat.le_of_ble_eq_true rfl⟩) rfl rfl hl.1 (Nat.le_of_ble_eq_true rfl) ⟨Nat.le_of_ble_eq_true rfl, Nat.le_of_ble_eq_true rfl⟩ dX8_measure_9 ?_
    have K39 : ∀ (v38 : Int), (v38 = (if (st / zp to % 2 = 1) then 0 else 1000000)) → ∀ ls : Array Slot, lv_has ls 9 [(3, .int (iZ st)), (0, .ref h), (1, .int (iZ sy)), (2, .int (iZ to))] → W p l e ((headSpec wsX8_measure ({ frames := 3, cells := 0, slots := 0, locals := 78 })).room) s m (([.ref h, .int (iZ sy), .int (iZ to)] : List Value).toArray) below meth c H locs 0 0 (MQ below (va_Qv (fun (_ : Unit) => True) (fun _ t => mOk D C h a (f_meas M sy to) t) (mA h a)) (([.ref h, .int (iZ sy), .int (iZ to)] : List Value).toArray) s 0 0 (mA h a)) (F0 m 21 ls [.int (iZ v38)]) := by
      intro v38 hv38 ls hl
      refine W.eq (g2 := F0 m 21 ls [.int (iZ v38)]) rfl ?_
      refine lv_istore (lv' := [(4, .int (iZ v38)), (3, .int (iZ st)), (0, .ref h), (1, .int (iZ sy)), (2, .int (iZ to))]) hx hb dX8_measure_21 hl (by decide) rfl (fun ls hl => ?_)
      refine lv_iconst (v := iZ 0) hx hb dX8_measure_23 (by decide) ?_
      refine lv_istore (lv' := [(5, .int (iZ 0)), (4, .int (iZ v38)), (3, .int (iZ st)), (0, .ref h), (1, .int (iZ sy)), (2, .int (iZ to))]) hx hb dX8_measure_24 hl (by decide) rfl (fun ls hl => ?_)
      replace hl : lv_has ls 9 [(5, .int (iZ (0 : Int))), (4, .int (iZ v38)), (3, .int (iZ st)), (0, .ref h), (1, .int (iZ sy)), (2, .int (iZ to))] := lv_sub hl [0, 1, 2, 3, 4, 5] rfl
      revert ls
      refine z_loop (σ := Int × Int) (fun x9 => ((0 ≤ x9.2 ∧ x9.2 ≤ Mb 2 0) ∧ (0 ≤ x9.1 ∧ x9.1 ≤ 1000000)) ∧ (x9.1 = s_ppN Mb sy st (s_l0 st to) (Int.toNat x9.2))) (fun x9 => [(5, .int (iZ (x9.2))), (4, .int (iZ (x9.1))), (3, .int (iZ st)), (0, .ref h), (1, .int (iZ sy)), (2, .int (iZ to))]) 9 (fun x9 => (Mb 2 0 - x9.2).toNat) (v38, (0 : Int)) ⟨(by show (0 ≤ (0 : Int) ∧ (0 : Int) ≤ Mb 2 0) ∧ (0 ≤ v38 ∧ v38 ≤ 1000000); omega), (by show v38 = s_ppN Mb sy st (s_l0 st to) (Int.toNat (0 : Int)); show _ = (if st / zp to % 2 = 1 then (0 : Int) else 1000000); assumption)⟩ ?_
      rintro ⟨le, pp⟩ hI9 ih26 ls hl
      obtain ⟨i4, i5⟩ := hI9
      replace i4 : (0 ≤ pp ∧ pp ≤ Mb 2 0) ∧ (0 ≤ le ∧ le ≤ 1000000) := i4
      replace i5 : le = s_ppN Mb sy st (s_l0 st to) (Int.toNat pp) := i5
      replace hl : lv_has ls 9 [(5, .int (iZ pp)), (4, .int (iZ le)), (3, .int (iZ st)), (0, .ref h), (1, .int (iZ sy)), (2, .int (iZ to))] := hl
      refine lv_iload hx hb dX8_measure_26 (lv_at hl 0 rfl) ?_
      refine lv_aload_n hx hb dX8_measure_28 rfl (lv_at hl 3 rfl) ?_
      refine mq_get hx hb hts hin hown hK hP 2 (by decide) (hts (.fieldLink RX8 13 "WordFletchersModel" "people" "[I") (List.mem_cons_of_mem _ (List.mem_append_left _ (List.mem_append_left _ (List.mem_of_getElem? (i := 1) rfl))))) rfl dX8_measure_29 ?_
      refine lv_iconst (v := iZ 0) hx hb dX8_measure_32 (by decide) ?_
      refine mq_iald hx hb hK hP 2 2 (n := 2) rfl (by decide) 0 rfl (by omega) dX8_measure_33 ?_
      refine z_icmp_ge (x := pp) (y := (Mb 2 0)) (tgt := 136) hx hb (by omega) (by omega) dX8_measure_34 (by decide) (fun c40 => ?_) (fun c40 => ?_)
      · have ql : s_lstp Mb sy to st = le := s_lstp_end i5 (by omega) (by omega)
        refine lv_aload_n hx hb dX8_measure_136 rfl (lv_at hl 3 rfl) ?_
        refine mq_get hx hb hts hin hown hK hP 24 (by decide) (hts (.fieldLink RX8 60 "WordFletchersModel" "needed" "[I") (List.mem_cons_of_mem _ (List.mem_append_left _ (List.mem_append_left _ (List.mem_of_getElem? (i := 2) rfl))))) rfl dX8_measure_137 ?_
        refine lv_iload_n hx hb dX8_measure_140 rfl (lv_at hl 2 rfl) ?_
        refine W.eq (g2 := F0 m 141 ls [.int (iZ st), .ref (a 24)]) rfl ?_
        refine lv_iload hx hb dX8_measure_141 (lv_at hl 1 rfl) ?_
        refine mq_iast hx hb hK hP hD hS 24 17 (n := 64) rfl (fun k9 => mS_24 C h a _ k9 _) (by decide) (Int.toNat st) rfl (by omega) dX8_measure_143 (fun H locs hP hD hS => ?_)
        obtain ⟨M41, hM41⟩ : ∃ z : Nat → Nat → Int, z = (mU Mb 24 (Int.toNat st) le) := ⟨_, rfl⟩
        rw [← hM41] at hP hD
        refine lv_iinc (v := iZ (st + (-1))) (lv' := [(3, .int (iZ (st + (-1)))), (5, .int (iZ pp)), (4, .int (iZ le)), (0, .ref h), (1, .int (iZ sy)), (2, .int (iZ to))]) hx hb dX8_measure_144 hl (k := 2) rfl (iZ_add _ _) (by decide) rfl (fun ls hl => ?_)
        refine lv_goto (tgt := 3) hx hb dX8_measure_147 (by decide) ?_
        exact ih3 (M41, (st + (-1))) ⟨(by show 0 ≤ (st + (-1)) ∧ (st + (-1)) ≤ 63; omega), (by show M41 = f_ms M sy to (Int.toNat (63 - (st + (-1)))); rw [f_ms_succ _ _ _ (by omega), ← i2, ql]; assumption), (by show ∀ k : Nat, (st + (-1)) < (k : Int) → k ≤ 63 → 0 ≤ M41 24 k ∧ M41 24 k ≤ 1000000; intro k h8 h9; subst_vars; by_cases q : k = Int.toNat st <;> first | (subst q; rw [mU_eq]; omega) | (rw [mU_ni _ _ _ _ q]; exact i3 k (by omega) h9))⟩ (by show (Int.toNat (st + (-1))) < (Int.toNat st); omega) H locs ⟨hP, hS⟩ ls (lv_sub hl [0, 3, 4, 5] rfl)
      · refine lv_iload hx hb dX8_measure_37 (lv_at hl 1 rfl) ?_
        refine z_if_le (x := le) (tgt := 136) hx hb (by omega) dX8_measure_39 (by decide) (fun c42 => ?_) (fun c42 => ?_)
        · have ql : s_lstp Mb sy to st = le := s_lstp_end i5 (by omega) (by omega)
          refine lv_aload_n hx hb dX8_measure_136 rfl (lv_at hl 3 rfl) ?_
          refine W.eq (g2 := F0 m 137 ls [.ref h]) rfl ?_
          refine mq_get hx hb hts hin hown hK hP 24 (by decide) (hts (.fieldLink RX8 60 "WordFletchersModel" "needed" "[I") (List.mem_cons_of_mem _ (List.mem_append_left _ (List.mem_append_left _ (List.mem_of_getElem? (i := 2) rfl))))) rfl dX8_measure_137 ?_
          refine lv_iload_n hx hb dX8_measure_140 rfl (lv_at hl 2 rfl) ?_
          refine lv_iload hx hb dX8_measure_141 (lv_at hl 1 rfl) ?_
          refine mq_iast hx hb hK hP hD hS 24 17 (n := 64) rfl (fun k9 => mS_24 C h a _ k9 _) (by decide) (Int.toNat st) rfl (by omega) dX8_measure_143 (fun H locs hP hD hS => ?_)
          obtain ⟨M57, hM57⟩ : ∃ z : Nat → Nat → Int, z = (mU Mb 24 (Int.toNat st) le) := ⟨_, rfl⟩
          rw [← hM57] at hP hD
          refine lv_iinc (v := iZ (st + (-1))) (lv' := [(3, .int (iZ (st + (-1)))), (5, .int (iZ pp)), (4, .int (iZ le)), (0, .ref h), (1, .int (iZ sy)), (2, .int (iZ to))]) hx hb dX8_measure_144 hl (k := 2) rfl (iZ_add _ _) (by decide) rfl (fun ls hl => ?_)
          refine lv_goto (tgt := 3) hx hb dX8_measure_147 (by decide) ?_
          exact ih3 (M57, (st + (-1))) ⟨(by show 0 ≤ (st + (-1)) ∧ (st + (-1)) ≤ 63; omega), (by show M57 = f_ms M sy to (Int.toNat (63 - (st + (-1)))); rw [f_ms_succ _ _ _ (by omega), ← i2, ql]; assumption), (by show ∀ k : Nat, (st + (-1)) < (k : Int) → k ≤ 63 → 0 ≤ M57 24 k ∧ M57 24 k ≤ 1000000; intro k h8 h9; subst_vars; by_cases q : k = Int.toNat st <;> first | (subst q; rw [mU_eq]; omega) | (rw [mU_ni _ _ _ _ q]; exact i3 k (by omega) h9))⟩ (by show (Int.toNat (st + (-1))) < (Int.toNat st); omega) H locs ⟨hP, hS⟩ ls (lv_sub hl [0, 3, 4, 5] rfl)
        · refine lv_iconst (v := iZ 0) hx hb dX8_measure_42 (by decide) ?_
          refine lv_istore (lv' := [(6, .int (iZ 0)), (5, .int (iZ pp)), (4, .int (iZ le)), (3, .int (iZ st)), (0, .ref h), (1, .int (iZ sy)), (2, .int (iZ to))]) hx hb dX8_measure_43 hl (by decide) rfl (fun ls hl => ?_)
          replace hl : lv_has ls 9 [(6, .int (iZ (0 : Int))), (5, .int (iZ pp)), (4, .int (iZ le)), (3, .int (iZ st)), (0, .ref h), (1, .int (iZ sy)), (2, .int (iZ to))] := lv_sub hl [0, 1, 2, 3, 4, 5, 6] rfl
          revert ls
          refine z_loop (σ := Int × Int) (fun x9 => ((0 ≤ x9.2 ∧ x9.2 ≤ 32) ∧ (0 ≤ x9.1 ∧ x9.1 ≤ 1000000) ∧ (st / zp pp % 2 = 1 ∨ x9.2 = 0)) ∧ (x9.1 = s_shN Mb sy st pp le (Int.toNat x9.2))) (fun x9 => [(6, .int (iZ (x9.2))), (5, .int (iZ pp)), (4, .int (iZ (x9.1))), (3, .int (iZ st)), (0, .ref h), (1, .int (iZ sy)), (2, .int (iZ to))]) 9 (fun x9 => (32 - x9.2).toNat) (le, (0 : Int)) ⟨(by show (0 ≤ (0 : Int) ∧ (0 : Int) ≤ 32) ∧ (0 ≤ le ∧ le ≤ 1000000) ∧ (st / zp pp % 2 = 1 ∨ (0 : Int) = 0); omega), (by show le = s_shN Mb sy st pp le (Int.toNat (0 : Int)); rfl)⟩ ?_
          rintro ⟨lf, sh⟩ hI9 ih45 ls hl
          obtain ⟨i6, i7⟩ := hI9
          replace i6 : (0 ≤ sh ∧ sh ≤ 32) ∧ (0 ≤ lf ∧ lf ≤ 1000000) ∧ (st / zp pp % 2 = 1 ∨ sh = 0) := i6
          replace i7 : lf = s_shN Mb sy st pp le (Int.toNat sh) := i7
          replace hl : lv_has ls 9 [(6, .int (iZ sh)), (5, .int (iZ pp)), (4, .int (iZ lf)), (3, .int (iZ st)), (0, .ref h), (1, .int (iZ sy)), (2, .int (iZ to))] := hl
          refine lv_iload hx hb dX8_measure_45 (lv_at hl 0 rfl) ?_
          refine lv_bipush (v := iZ 32) hx hb dX8_measure_47 (by decide) ?_
          refine z_icmp_ge (x := sh) (y := 32) (tgt := 130) hx hb (by omega) (by omega) dX8_measure_49 (by decide) (fun c58 => ?_) (fun c58 => ?_)
          · refine lv_iinc (v := iZ (pp + 1)) (lv' := [(5, .int (iZ (pp + 1))), (6, .int (iZ sh)), (4, .int (iZ lf)), (3, .int (iZ st)), (0, .ref h), (1, .int (iZ sy)), (2, .int (iZ to))]) hx hb dX8_measure_130 hl (k := 1) rfl (iZ_add _ _) (by decide) rfl (fun ls hl => ?_)
            refine W.eq (g2 := F0 m 133 ls []) rfl ?_
            refine lv_goto (tgt := 26) hx hb dX8_measure_133 (by decide) ?_
            exact ih26 (lf, (pp + 1)) ⟨(by show (0 ≤ (pp + 1) ∧ (pp + 1) ≤ Mb 2 0) ∧ (0 ≤ lf ∧ lf ≤ 1000000); omega), (by show lf = s_ppN Mb sy st (s_l0 st to) (Int.toNat (pp + 1)); rw [s_ppN_succ _ _ _ _ (by omega), ← i5]; by_cases q0 : st / zp pp % 2 = 1 <;> first | (rw [if_neg (by omega), i7, show sh = 0 by omega]; done) | (rw [if_neg (by omega), i7, show sh = 0 by omega]; rfl) | (rw [if_pos (by omega), i7, show sh = 32 by omega]; done) | (rw [if_pos (by omega), i7, show sh = 32 by omega]; rfl) | omega)⟩ (by show (Mb 2 0 - (pp + 1)).toNat < (Mb 2 0 - pp).toNat; omega) ls (lv_sub hl [0, 2, 3, 4, 5, 6] rfl)
          · refine lv_iload_n hx hb dX8_measure_52 rfl (lv_at hl 3 rfl) ?_
            refine lv_iload hx hb dX8_measure_53 (lv_at hl 1 rfl) ?_
            refine mq_cs (As := [.int (iZ st), .int (iZ pp)]) (rest := []) ⟨hx, hb, hml, hown, hts⟩ (C_has l st pp (by omega) (by omega)) (va_cwS 2 hts gX8_measure_X8_has rfl rfl rfl (by decide +kernel) ⟨Nat.le_of_ble_eq_true rfl, Nat.le_of_ble_eq_true rfl⟩) rfl rfl hl.1 (Nat.le_of_ble_eq_true rfl) ⟨Nat.le_of_ble_eq_true rfl, Nat.le_of_ble_eq_true rfl⟩ dX8_measure_55 ?_
            refine z_ifb_eq (P := (st / zp pp % 2 = 1)) (tgt := 130) hx hb dX8_measure_58 (by decide) (fun c59 => ?_) (fun c59 => ?_)
            · refine lv_iinc (v := iZ (pp + 1)) (lv' := [(5, .int (iZ (pp + 1))), (6, .int (iZ sh)), (4, .int (iZ lf)), (3, .int (iZ st)), (0, .ref h), (1, .int (iZ sy)), (2, .int (iZ to))]) hx hb dX8_measure_130 hl (k := 1) rfl (iZ_add _ _) (by decide) rfl (fun ls hl => ?_)
              refine lv_goto (tgt := 26) hx hb dX8_measure_133 (by decide) ?_
              exact ih26 (lf, (pp + 1)) ⟨(by show (0 ≤ (pp + 1) ∧ (pp + 1) ≤ Mb 2 0) ∧ (0 ≤ lf ∧ lf ≤ 1000000); omega), (by show lf = s_ppN Mb sy st (s_l0 st to) (Int.toNat (pp + 1)); rw [s_ppN_succ _ _ _ _ (by omega), ← i5]; by_cases q0 : st / zp pp % 2 = 1 <;> first | (rw [if_neg (by omega), i7, show sh = 0 by omega]; done) | (rw [if_neg (by omega), i7, show sh = 0 by omega]; rfl) | (rw [if_pos (by omega), i7, show sh = 32 by omega]; done) | (rw [if_pos (by omega), i7, show sh = 32 by omega]; rfl) | omega)⟩ (by show (Mb 2 0 - (pp + 1)).toNat < (Mb 2 0 - pp).toNat; omega) ls (lv_sub hl [0, 2, 3, 4, 5, 6] rfl)
            · refine lv_aload_n hx hb dX8_measure_61 rfl (lv_at hl 4 rfl) ?_
              refine lv_iload_n hx hb dX8_measure_62 rfl (lv_at hl 3 rfl) ?_
              refine lv_iload hx hb dX8_measure_63 (lv_at hl 1 rfl) ?_
              refine W.eq (g2 := F0 m 65 ls [.int (iZ pp), .int (iZ st), .ref h]) rfl ?_
              refine lv_iload_n hx hb dX8_measure_65 rfl (lv_at hl 5 rfl) ?_
              refine lv_iload hx hb dX8_measure_66 (lv_at hl 0 rfl) ?_
              refine lv_bipush (v := iZ 8) hx hb dX8_measure_68 (by decide) ?_
              refine z_idiv hx hb (by omega) (by omega) dX8_measure_70 ?_
              refine lv_iload hx hb dX8_measure_71 (lv_at hl 0 rfl) ?_
              refine lv_iconst (v := iZ 2) hx hb dX8_measure_73 (by decide) ?_
              refine z_idiv hx hb (by omega) (by omega) dX8_measure_74 ?_
              refine lv_iconst (v := iZ 4) hx hb dX8_measure_75 (by decide) ?_
              refine z_irem hx hb (by omega) (by omega) dX8_measure_76 ?_
              refine lv_iload hx hb dX8_measure_77 (lv_at hl 0 rfl) ?_
              refine lv_iconst (v := iZ 2) hx hb dX8_measure_79 (by decide) ?_
              refine z_irem hx hb (by omega) (by omega) dX8_measure_80 ?_
              refine W.eq (g2 := F0 m 81 ls [.int (iZ (sh % 2)), .int (iZ ((sh / 2) % 4)), .int (iZ (sh / 8)), .int (iZ sy), .int (iZ pp), .int (iZ st), .ref h]) rfl ?_
              refine mq_ci (As := [.int (iZ st), .int (iZ pp), .int (iZ sy), .int (iZ (sh / 8)), .int (iZ ((sh / 2) % 4)), .int (iZ (sh % 2))]) (rest := []) ⟨hx, hb, hml, hown, hts⟩ hK hP (C_behind l D C h a Mb st pp sy (sh / 8) ((sh / 2) % 4) (sh % 2) hI_Mb (by omega) (by omega) (by omega) (by omega) (by omega) (by omega)) (cwV 6 hts gX8_measure_X8_behind rfl rfl rfl (by decide +kernel) ⟨Nat.le_of_ble_eq_true rfl, Nat.le_of_ble_eq_true rfl⟩) rfl rfl hl.1 (Nat.le_of_ble_eq_true rfl) ⟨Nat.le_of_ble_eq_true rfl, Nat.le_of_ble_eq_true rfl⟩ dX8_measure_81 ?_
              have hbe := s_beh_bd Mb (s_ln Mb pp sy (sh / 8) ((sh / 2) % 4) (sh % 2)) pp st (by omega) (by omega)
              refine z_nm (fun th hth => ?_)
              have hth2 : th = s_beh Mb sy st pp sh := hth
              have hge : st ≤ th := by rw [hth]; exact zor_ge (by omega)
              have hnb : ¬ (th = st) → 0 ≤ Mb 24 (Int.toNat th) ∧ Mb 24 (Int.toNat th) ≤ 1000000 := fun q => i3 _ (by omega) (by omega)
              refine lv_istore (lv' := [(7, .int (iZ th)), (6, .int (iZ sh)), (5, .int (iZ pp)), (4, .int (iZ lf)), (3, .int (iZ st)), (0, .ref h), (1, .int (iZ sy)), (2, .int (iZ to))]) hx hb dX8_measure_84 hl (by decide) rfl (fun ls hl => ?_)
              refine lv_iload hx hb dX8_measure_86 (lv_at hl 0 rfl) ?_
              refine lv_iload_n hx hb dX8_measure_88 rfl (lv_at hl 4 rfl) ?_
              have K68 : ∀ (v67 : Int), (v67 = (if th = st then 1000000 else ((Mb 24 (Int.toNat th)) + 1))) → ∀ ls : Array Slot, lv_has ls 9 [(6, .int (iZ sh)), (5, .int (iZ pp)), (4, .int (iZ lf)), (3, .int (iZ st)), (0, .ref h), (1, .int (iZ sy)), (2, .int (iZ to))] → W p l e ((headSpec wsX8_measure ({ frames := 3, cells := 0, slots := 0, locals := 78 })).room) s m (([.ref h, .int (iZ sy), .int (iZ to)] : List Value).toArray) below meth c H locs 0 0 (MQ below (va_Qv (fun (_ : Unit) => True) (fun _ t => mOk D C h a (f_meas M sy to) t) (mA h a)) (([.ref h, .int (iZ sy), .int (iZ to)] : List Value).toArray) s 0 0 (mA h a)) (F0 m 106 ls [.int (iZ v67)]) := by
                intro v67 hv67 ls hl
                refine lv_istore (lv' := [(8, .int (iZ v67)), (6, .int (iZ sh)), (5, .int (iZ pp)), (4, .int (iZ lf)), (3, .int (iZ st)), (0, .ref h), (1, .int (iZ sy)), (2, .int (iZ to))]) hx hb dX8_measure_106 hl (by decide) rfl (fun ls hl => ?_)
                refine lv_iload hx hb dX8_measure_108 (lv_at hl 0 rfl) ?_
                refine lv_iload hx hb dX8_measure_110 (lv_at hl 3 rfl) ?_
                have K71 : ∀ (v70 : Int), (v70 = (if lf ≤ v67 then lf else v67)) → ∀ ls : Array Slot, lv_has ls 9 [(6, .int (iZ sh)), (5, .int (iZ pp)), (3, .int (iZ st)), (0, .ref h), (1, .int (iZ sy)), (2, .int (iZ to))] → W p l e ((headSpec wsX8_measure ({ frames := 3, cells := 0, slots := 0, locals := 78 })).room) s m (([.ref h, .int (iZ sy), .int (iZ to)] : List Value).toArray) below meth c H locs 0 0 (MQ below (va_Qv (fun (_ : Unit) => True) (fun _ t => mOk D C h a (f_meas M sy to) t) (mA h a)) (([.ref h, .int (iZ sy), .int (iZ to)] : List Value).toArray) s 0 0 (mA h a)) (F0 m 122 ls [.int (iZ v70)]) := by
                  intro v70 hv70 ls hl
                  refine lv_istore (lv' := [(4, .int (iZ v70)), (6, .int (iZ sh)), (5, .int (iZ pp)), (3, .int (iZ st)), (0, .ref h), (1, .int (iZ sy)), (2, .int (iZ to))]) hx hb dX8_measure_122 hl (by decide) rfl (fun ls hl => ?_)
                  refine lv_iinc (v := iZ (sh + 1)) (lv' := [(6, .int (iZ (sh + 1))), (4, .int (iZ v70)), (5, .int (iZ pp)), (3, .int (iZ st)), (0, .ref h), (1, .int (iZ sy)), (2, .int (iZ to))]) hx hb dX8_measure_124 hl (k := 1) rfl (iZ_add _ _) (by decide) rfl (fun ls hl => ?_)
                  refine lv_goto (tgt := 45) hx hb dX8_measure_127 (by decide) ?_
                  exact ih45 (v70, (sh + 1)) ⟨(by show (0 ≤ (sh + 1) ∧ (sh + 1) ≤ 32) ∧ (0 ≤ v70 ∧ v70 ≤ 1000000) ∧ (st / zp pp % 2 = 1 ∨ (sh + 1) = 0); omega), (by show v70 = s_shN Mb sy st pp le (Int.toNat (sh + 1)); rw [s_shN_succ _ _ _ _ _ (by omega), ← i7]; unfold s_shv; rw [← hth2]; omega)⟩ (by show (32 - (sh + 1)).toNat < (32 - sh).toNat; omega) ls (lv_sub hl [0, 2, 1, 3, 4, 5, 6] rfl)
                refine z_icmp_ge (x := v67) (y := lf) (tgt := 120) hx hb (by omega) (by omega) dX8_measure_112 (by decide) (fun c69 => ?_) (fun c69 => ?_)
                · refine lv_iload hx hb dX8_measure_120 (lv_at hl 3 rfl) ?_
                  exact K71 lf (by first | rfl | (rw [if_pos c69]; done) | omega | (subst_vars; first | rfl | (rw [if_pos c69]; done) | omega)) ls (lv_sub hl [1, 2, 4, 5, 6, 7] rfl)
                · refine lv_iload hx hb dX8_measure_115 (lv_at hl 0 rfl) ?_
                  refine lv_goto (tgt := 122) hx hb dX8_measure_117 (by decide) ?_
                  exact K71 v67 (by first | rfl | (rw [if_neg c69]; done) | omega | (subst_vars; first | rfl | (rw [if_neg c69]; done) | omega)) ls (lv_sub hl [1, 2, 4, 5, 6, 7] rfl)
              refine z_icmp_ne (x := th) (y := st) (tgt := 97) hx hb (by omega) (by omega) dX8_measure_89 (by decide) (fun c66 => ?_) (fun c66 => ?_)
              · refine lv_aload_n hx hb dX8_measure_97 rfl (lv_at hl 5 rfl) ?_
                refine mq_get hx hb hts hin hown hK hP 24 (by decide) (hts (.fieldLink RX8 60 "WordFletchersModel" "needed" "[I") (List.mem_cons_of_mem _ (List.mem_append_left _ (List.mem_append_left _ (List.mem_of_getElem? (i := 2) rfl))))) rfl dX8_measure_98 ?_
                refine lv_iload hx hb dX8_measure_101 (lv_at hl 0 rfl) ?_
                refine mq_iald hx hb hK hP 24 17 (n := 64) rfl (by decide) (Int.toNat th) rfl (by omega) dX8_measure_103 ?_
                refine lv_iconst (v := iZ 1) hx hb dX8_measure_104 (by decide) ?_
                refine z_iadd hx hb dX8_measure_105 ?_
                exact K68 ((Mb 24 (Int.toNat th)) + 1) (by first | rfl | (rw [if_neg c66]; done) | omega | (subst_vars; first | rfl | (rw [if_neg c66]; done) | omega)) ls (lv_sub hl [1, 2, 3, 4, 5, 6, 7] rfl)
              · refine z_ldc (n := 1000000) hx hb hown (hts (Cond.constant RX8 181 (1000000)) (List.mem_cons_of_mem _ (List.mem_append_left _ (List.mem_append_left _ (List.mem_of_getElem? (i := 0) rfl))))) (by decide) dX8_measure_92 ?_
                refine W.eq (g2 := F0 m 94 ls [.int (iZ 1000000)]) rfl ?_
                refine lv_goto (tgt := 106) hx hb dX8_measure_94 (by decide) ?_
                exact K68 1000000 (by first | rfl | (rw [if_pos c66]; done) | omega | (subst_vars; first | rfl | (rw [if_pos c66]; done) | omega)) ls (lv_sub hl [1, 2, 3, 4, 5, 6, 7] rfl)
    refine z_ifb_eq (P := (st / zp to % 2 = 1)) (tgt := 19) hx hb dX8_measure_12 (by decide) (fun c37 => ?_) (fun c37 => ?_)
    · refine z_ldc (n := 1000000) hx hb hown (hts (Cond.constant RX8 181 (1000000)) (List.mem_cons_of_mem _ (List.mem_append_left _ (List.mem_append_left _ (List.mem_of_getElem? (i := 0) rfl))))) (by decide) dX8_measure_19 ?_
      exact K39 1000000 (by first | rfl | (rw [if_neg c37]; done) | omega | (subst_vars; first | rfl | (rw [if_neg c37]; done) | omega)) ls (lv_sub hl [0, 1, 2, 3] rfl)
    · refine lv_iconst (v := iZ 0) hx hb dX8_measure_15 (by decide) ?_
      refine lv_goto (tgt := 21) hx hb dX8_measure_16 (by decide) ?_
      exact K39 0 (by first | rfl | (rw [if_pos c37]; done) | omega | (subst_vars; first | rfl | (rw [if_pos c37]; done) | omega)) ls (lv_sub hl [0, 1, 2, 3] rfl)
