/-! The law: its words, its rows. -/
set_option maxRecDepth 20000 in
theorem wsL_law_in : ∀ w ∈ wsL_law, w ∈ lw_tbl := List.forall_mem_append.mpr ⟨List.forall_mem_append.mpr ⟨List.forall_mem_append.mpr ⟨List.forall_mem_append.mpr ⟨List.forall_mem_append.mpr ⟨List.forall_mem_append.mpr ⟨List.forall_mem_append.mpr ⟨List.forall_mem_append.mpr ⟨List.forall_mem_append.mpr ⟨List.forall_mem_append.mpr ⟨List.forall_mem_append.mpr ⟨wl_r1, List.forall_mem_append.mpr ⟨wl_r2, List.forall_mem_append.mpr ⟨wl_r3, List.forall_mem_append.mpr ⟨wl_r4, List.forall_mem_append.mpr ⟨wl_r5, List.forall_mem_append.mpr ⟨wl_r6, List.forall_mem_append.mpr ⟨wl_r7, List.forall_mem_append.mpr ⟨wl_r8, List.forall_mem_append.mpr ⟨wl_r9, List.forall_mem_append.mpr ⟨wl_r10, List.forall_mem_append.mpr ⟨wl_r11, List.forall_mem_append.mpr ⟨wl_r12, List.forall_mem_append.mpr ⟨wl_r13, List.forall_mem_append.mpr ⟨wl_r14, List.forall_mem_append.mpr ⟨wl_r15, List.forall_mem_append.mpr ⟨wl_r16, List.forall_mem_append.mpr ⟨wl_r17, List.forall_mem_append.mpr ⟨wl_r18, List.forall_mem_append.mpr ⟨wl_r19, List.forall_mem_append.mpr ⟨wl_r20, List.forall_mem_append.mpr ⟨wl_r21, List.forall_mem_append.mpr ⟨wl_r22, List.forall_mem_append.mpr ⟨wl_r23, List.forall_mem_append.mpr ⟨wl_r24, List.forall_mem_append.mpr ⟨wl_r25, List.forall_mem_append.mpr ⟨wl_r26, List.forall_mem_append.mpr ⟨wl_r27, List.forall_mem_append.mpr ⟨wl_r28, List.forall_mem_append.mpr ⟨wl_r29, List.forall_mem_append.mpr ⟨wl_r30, List.forall_mem_append.mpr ⟨wl_r31, List.forall_mem_append.mpr ⟨wl_r32, List.forall_mem_append.mpr ⟨wl_r33, List.forall_mem_append.mpr ⟨wl_r34, List.forall_mem_append.mpr ⟨wl_r35, wl_r36⟩⟩⟩⟩⟩⟩⟩⟩⟩⟩⟩⟩⟩⟩⟩⟩⟩⟩⟩⟩⟩⟩⟩⟩⟩⟩⟩⟩⟩⟩⟩⟩⟩⟩⟩, wl_X7⟩, wl_X8⟩, wl_X5⟩, wl_X6⟩, wl_X2⟩, wl_X3⟩, wl_X4⟩, wl_X0⟩, wl_X1⟩, fun _ h => absurd h List.not_mem_nil⟩
theorem va_P.lft {D : va_G} {cl : List vw_C} {w1 w2 : va_W} {H : Heap} (h : va_P D cl (w1 ++ w2) H) : va_P D cl w1 H := h.by (fun k => k) (fun k q hq => by rw [List.getElem?_append_left (List.getElem?_eq_some_iff.mp hq).1]; exact hq)
theorem va_P.rgt {D : va_G} {cl : List vw_C} {w1 w2 : va_W} {H : Heap} (h : va_P D cl (w1 ++ w2) H) : va_P D cl w2 H := h.by (fun k => w1.length + k) (fun k q hq => by rw [List.getElem?_append_right (by omega)]; rw [show w1.length + k - w1.length = k by omega]; exact hq)
theorem va_D.lft {A : Nat → Prop} {w1 w2 : va_W} (h : va_D A (w1 ++ w2)) : va_D A w1 := h.by (fun k => k) (fun k q hq => by rw [List.getElem?_append_left (List.getElem?_eq_some_iff.mp hq).1]; exact hq) (fun _ _ _ _ e => e)
theorem va_D.rgt {A : Nat → Prop} {w1 w2 : va_W} (h : va_D A (w1 ++ w2)) : va_D A w2 := h.by (fun k => w1.length + k) (fun k q hq => by rw [List.getElem?_append_right (by omega)]; rw [show w1.length + k - w1.length = k by omega]; exact hq) (fun _ _ _ _ e => by omega)
theorem va_D.dj {A : Nat → Prop} {w1 w2 : va_W} (h : va_D A (w1 ++ w2)) {i j : Nat} {p q : Nat × va_E} (h1 : w1[i]? = some p) (h2 : w2[j]? = some q) : p.1 ≠ q.1 := fun e => by
  have a1 : (w1 ++ w2)[i]? = some p := by rw [List.getElem?_append_left (List.getElem?_eq_some_iff.mp h1).1]; exact h1
  have a2 : (w1 ++ w2)[w1.length + j]? = some q := by rw [List.getElem?_append_right (by omega)]; rw [show w1.length + j - w1.length = j by omega]; exact h2
  have := h.1 _ _ _ _ a1 a2 e
  have := (List.getElem?_eq_some_iff.mp h1).1
  omega
/-- the classes of rows, out of the tables -/
theorem kA_int {args : Array Value} {s : State} (h : (Cond.arrayClass .int).before args s = true) : ∃ cA, ArrOfT s cA .int ∧ va_RA s cA .int := by
  obtain ⟨cA, kA, comp, h1, h2, h3⟩ := Cond.arrayClass_spec h
  exact ⟨cA, fun n z => ⟨fun k h => (by cases h), kA, h2, comp, h3⟩, h1⟩
theorem kA_byte {args : Array Value} {s : State} (h : (Cond.arrayClass .byte).before args s = true) : ∃ cA, ArrOfT s cA .byte ∧ va_RA s cA .byte := by
  obtain ⟨cA, kA, comp, h1, h2, h3⟩ := Cond.arrayClass_spec h
  exact ⟨cA, fun n z => ⟨fun k h => (by cases h), kA, h2, comp, h3⟩, h1⟩
theorem kA_bool {args : Array Value} {s : State} (h : (Cond.arrayClass .boolean).before args s = true) : ∃ cA, ArrOfT s cA .boolean ∧ va_RA s cA .boolean := by
  obtain ⟨cA, kA, comp, h1, h2, h3⟩ := Cond.arrayClass_spec h
  exact ⟨cA, fun n z => ⟨fun k h => (by cases h), kA, h2, comp, h3⟩, h1⟩
theorem kA_obj {args : Array Value} {s : State} {RC : String} (h : (Cond.arrayOver (.object RC)).before args s = true) : ∃ cA, ArrOfT s cA (.object RC) ∧ va_RA s cA (.object RC) := by
  obtain ⟨comp, cA, kA, h1, -, h2, h3, h4⟩ := Cond.arrayOver_spec h
  exact ⟨cA, fun n z => ⟨fun k h => (by cases h), kA, h2, comp, h3⟩, kA, comp, h2, h3, h1, h4⟩
set_option maxRecDepth 20000 in
theorem law_K {b : Addr} {s : State} (hts : ∀ w ∈ lw_tbl, w.before #[Value.ref b] s = true) : ∃ (D : va_G) (C : cC) (C2 : mC), va_K D vwCl (cT C) s ∧ va_K D vwCl (mT C2) s := by
  obtain ⟨c0, i0, h0⟩ := u_known (C := RX0) (T := TX0) (N := 6) (n := 6) hts wl_X0 (hts (.instantiable RX0 6) (by decide +kernel))
  obtain ⟨c1, i1, h1⟩ := u_known (C := RX1) (T := TX1) (N := 3) (n := 3) hts wl_X1 (hts (.instantiable RX1 3) (by decide +kernel))
  obtain ⟨c2, i2, h2⟩ := u_known (C := RX2) (T := TX2) (N := 7) (n := 7) hts wl_X2 (hts (.instantiable RX2 7) (by decide +kernel))
  obtain ⟨c3, i3, h3⟩ := u_known (C := RX3) (T := TX3) (N := 2) (n := 2) hts wl_X3 (hts (.instantiable RX3 2) (by decide +kernel))
  obtain ⟨c4, i4, h4⟩ := u_known (C := RX4) (T := TX4) (N := 5) (n := 5) hts wl_X4 (hts (.instantiable RX4 5) (by decide +kernel))
  obtain ⟨c5, i5, h5⟩ := u_known (C := RX5) (T := TX5) (N := 6) (n := 6) hts wl_X5 (hts (.instantiable RX5 6) (by decide +kernel))
  obtain ⟨c6, i6, h6⟩ := u_known (C := RX6) (T := TX6) (N := 10) (n := 10) hts wl_X6 (hts (.instantiable RX6 10) (by decide +kernel))
  obtain ⟨c7, i7, h7⟩ := u_known (C := RX7) (T := TX7) (N := 13) (n := 13) hts wl_X7 (hts (.instantiable RX7 13) (by decide +kernel))
  obtain ⟨c8, i8, h8⟩ := u_known (C := RX8) (T := TX8) (N := 30) (n := 30) hts wl_X8 (hts (.instantiable RX8 30) (by decide +kernel))
  obtain ⟨a1, p1, q1⟩ := kA_int (hts (.arrayClass .int) (by decide +kernel))
  obtain ⟨a2, p2, q2⟩ := kA_byte (hts (.arrayClass .byte) (by decide +kernel))
  obtain ⟨a3, p3, q3⟩ := kA_bool (hts (.arrayClass .boolean) (by decide +kernel))
  obtain ⟨a4, p4, q4⟩ := kA_obj (RC := RX2) (hts (.arrayOver (.object RX2)) (by decide +kernel))
  obtain ⟨a5, p5, q5⟩ := kA_obj (RC := RX1) (hts (.arrayOver (.object RX1)) (by decide +kernel))
  have hcl : ∀ (c : Nat) (q : vw_C), vwCl[c]? = some q → u_Kn s q.1 q.2.1 q.2.2 (([c0, c1, c2, c3, c4, c5, c6, c7, c8] : List ClassId).getD c c0) (([i0, i1, i2, i3, i4, i5, i6, i7, i8] : List (Nat → Nat)).getD c i0) := by
    intro c q hq
    match c, hq with
    | 0, hq => cases hq; exact h0
    | 1, hq => cases hq; exact h1
    | 2, hq => cases hq; exact h2
    | 3, hq => cases hq; exact h3
    | 4, hq => cases hq; exact h4
    | 5, hq => cases hq; exact h5
    | 6, hq => cases hq; exact h6
    | 7, hq => cases hq; exact h7
    | 8, hq => cases hq; exact h8
    | k + 9, hq => simp [vwCl] at hq
  refine ⟨(fun c => ([c0, c1, c2, c3, c4, c5, c6, c7, c8] : List ClassId).getD c c0, fun c => ([i0, i1, i2, i3, i4, i5, i6, i7, i8] : List (Nat → Nat)).getD c i0), (a1, a4, a5), (a1, a2, a3), ⟨hcl, fun k q hk => ?_⟩, ⟨hcl, fun k q hk => ?_⟩⟩
  · match k, hk with
    | 0, hk => cases hk; exact ⟨p1, q1⟩
    | 1, hk => cases hk; exact ⟨p4, q4⟩
    | 2, hk => cases hk; exact ⟨p5, q5⟩
    | k + 3, hk => simp [cT] at hk
  · match k, hk with
    | 0, hk => cases hk; exact ⟨p1, q1⟩
    | 1, hk => cases hk; exact ⟨p2, q2⟩
    | 2, hk => cases hk; exact ⟨p3, q3⟩
    | k + 3, hk => simp [mT] at hk
section LROWS
variable {p : Program} {l : Launch} {e : Env} {R : Room} {s : State} {m : MethodId} {args : Array Value} {below : List Frame} {meth : Method} {c : Code} {H : Heap} {locs : List Loc} {cells slots : Nat} {Q : State → Prop}
variable {cc : ByteArray} {pc : Nat} {ls : Array Slot} {rest : List Value} {D : va_G} {C : cC} {C2 : mC} {a a2 b : Nat → Nat} {h2 : Nat} {V M : Nat → Nat → Int} {A : Nat → Prop}
/-- a number of the script -/
theorem lq_ld (hexec : p.tables.exec = Jvm.exec) (hb : c.code = cc) {sb L : Nat} {xs : Nat → Int32} (hX : va_X sb L xs s s.heap) (hbl : sb < s.heap.size) (hbA : ¬ A sb) (hS : va_S A s.heap H locs) (j : Nat) (hj : j < L) (hL : L < 2147483648) {z i : Int} (hz : xs j = iZ z) (hi : i = (j : Int)) (hdg : decode cc pc = .ok (.iaload, 1)) (kk : W p l e R s m args below meth c H locs cells slots Q (F0 m (pc + 1) ls (.int (iZ z) :: rest))) : W p l e R s m args below meth c H locs cells slots Q (F0 m pc ls (.int (iZ i) :: .ref sb :: rest)) := by
  subst hi
  refine va_sld hexec hb hX hbl hbA hS (iZ_in ⟨by omega, by omega⟩ hL) hdg ?_
  rw [iZ_cl ⟨by omega, by omega⟩, show Int.toNat (j : Int) = j from rfl, hz]
  exact kk
theorem lq_ci {y : MethodName} {bytes : ByteArray} {maxL nL n index : Nat} {ret : Option FieldType} {ws Ts : List Cond} {rm : Room} {As st0 : List Value} {v : Int} (S : CallFix p m c cc nL s args Ts RL) (hK : va_K D vwCl (cT C) s) (hP : va_P D vwCl (cW C a V) H) (hN : cNA D C A b s) (hD : va_D A (cW C a V)) (hS : va_S A s.heap H locs) (hM : Met l y ws rm (va_Pc (.ref (a 0) :: As) (cOk D C a b V)) (vp_Si (fun r => r = iZ v)) 0 0 (fun _ => False)) (cw : CallW R s args RL RX7 index y bytes maxL ret ws rm 0 0 n) (hst : st0 = As.reverse ++ .ref (a 0) :: rest) (hn : As.length = n) (hsize : ls.size = nL) (hW : (rest.map fun v => v.category).sum ≤ 8) (hf : cells ≤ R.cells ∧ slots ≤ R.slots) (hdg : decode cc pc = .ok (.invokevirtual index, 3)) (kk : W p l e R s m args below meth c H locs cells slots Q (F0 m (pc + 3) ls (.int (iZ v) :: rest))) : W p l e R s m args below meth c H locs cells slots Q (F0 m pc ls st0) :=
  vp_callSi (W.runV S hM cw ⟨cOk_blind, va_recv hK hP (ci := 7) (q0 := 0) rfl (cW_get (i := 0) (by decide) (cE_0 rfl _)), fun U hU hW => ⟨rfl, by rw [hU]; exact hP, va_K.moved hW.alike hK, (hN.moved hS hU hW).toN (cA_of hD)⟩⟩ rfl hn hsize hst (lv_room hW) hdg hf) (fun r hr => by rw [hr]; exact kk)
theorem lq_cl {y : MethodName} {bytes : ByteArray} {maxL nL n index : Nat} {ret : Option FieldType} {ws Ts : List Cond} {rm : Room} {As st0 : List Value} {v : Int} (S : CallFix p m c cc nL s args Ts RL) (hK : va_K D vwCl (cT C) s) (hP : va_P D vwCl (cW C a V) H) (hN : cNA D C A b s) (hD : va_D A (cW C a V)) (hS : va_S A s.heap H locs) (hM : Met l y ws rm (va_Pc (.ref (a 0) :: As) (cOk D C a b V)) (vp_Sl (fun r => r = iL v)) 0 0 (fun _ => False)) (cw : CallW R s args RL RX7 index y bytes maxL ret ws rm 0 0 n) (hst : st0 = As.reverse ++ .ref (a 0) :: rest) (hn : As.length = n) (hsize : ls.size = nL) (hW : (rest.map fun v => v.category).sum ≤ 8) (hf : cells ≤ R.cells ∧ slots ≤ R.slots) (hdg : decode cc pc = .ok (.invokevirtual index, 3)) (kk : W p l e R s m args below meth c H locs cells slots Q (F0 m (pc + 3) ls (.long (iL v) :: rest))) : W p l e R s m args below meth c H locs cells slots Q (F0 m pc ls st0) :=
  vp_callSl (W.runV S hM cw ⟨cOk_blind, va_recv hK hP (ci := 7) (q0 := 0) rfl (cW_get (i := 0) (by decide) (cE_0 rfl _)), fun U hU hW => ⟨rfl, by rw [hU]; exact hP, va_K.moved hW.alike hK, (hN.moved hS hU hW).toN (cA_of hD)⟩⟩ rfl hn hsize hst (lv_room hW) hdg hf) (fun r hr => by rw [hr]; exact kk)
theorem lq_cm {y : MethodName} {bytes : ByteArray} {maxL nL n index : Nat} {ret : Option FieldType} {ws Ts : List Cond} {rm : Room} {As st0 : List Value} {v : Int} {V2 : Nat → Nat → Int} (S : CallFix p m c cc nL s args Ts RL) (hK : va_K D vwCl (cT C) s) (hP : va_P D vwCl (cW C a V) H) (hN : cNA D C A b s) (hD : va_D A (cW C a V)) (hS : va_S A s.heap H locs) (hM : Met l y ws rm (va_Pc (.ref (a 0) :: As) (cOk D C a b V)) (va_Qi (fun r (_ : Unit) => r = iZ v) (fun _ t => cPo D C a V2 t) (cA a)) 0 0 (cA a)) (cw : CallW R s args RL RX7 index y bytes maxL ret ws rm 0 0 n) (hst : st0 = As.reverse ++ .ref (a 0) :: rest) (hn : As.length = n) (hsize : ls.size = nL) (hW : (rest.map fun v => v.category).sum ≤ 8) (hf : cells ≤ R.cells ∧ slots ≤ R.slots) (hdg : decode cc pc = .ok (.invokevirtual index, 3)) (kk : ∀ (H1 : Heap) (locs1 : List Loc), va_P D vwCl (cW C a V2) H1 → va_D A (cW C a V2) → va_S A s.heap H1 locs1 → (∀ q : Nat, q < H.size → ¬ cA a q → H1[q]? = H[q]?) → W p l e R s m args below meth c H1 locs1 cells slots Q (F0 m (pc + 3) ls (.int (iZ v) :: rest))) : W p l e R s m args below meth c H locs cells slots Q (F0 m pc ls st0) :=
  va_calli (va_runV S hM cw ⟨cOk_blind, va_recv hK hP (ci := 7) (q0 := 0) rfl (cW_get (i := 0) (by decide) (cE_0 rfl _)), fun U hU hW => ⟨rfl, by rw [hU]; exact hP, va_K.moved hW.alike hK, (hN.moved hS hU hW).toN (cA_of hD)⟩⟩ rfl hn hsize hst (lv_room hW) hdg hf) hS (fun q _ h9 => cA_of hD q h9) (cA_of hD) (fun r u t H1 locs1 ht hvm hr hB hz hk hS1 => by
    rw [hr]
    exact kk H1 locs1 (ht ▸ hB) (cD_re hD) hS1 hk)
theorem lq_cT {y : MethodName} {bytes : ByteArray} {maxL nL n index : Nat} {ret : Option FieldType} {ws Ts : List Cond} {rm : Room} {As st0 : List Value} {v : Int} (S : CallFix p m c cc nL s args Ts RL) (hK : va_K D vwCl (cT C) s) (hP : va_P D vwCl (cW C a V) H) (hN : cNA D C A b s) (hD : va_D A (cW C a V)) (hS : va_S A s.heap H locs) (hM : Met l y ws rm (va_Pc (.ref (a 0) :: As) (cOk D C a b V)) (va_Qi (fun r (_ : Unit) => r = iZ v) (fun _ _ => True) (cA a)) 0 0 (cA a)) (cw : CallW R s args RL RX7 index y bytes maxL ret ws rm 0 0 n) (hst : st0 = As.reverse ++ .ref (a 0) :: rest) (hn : As.length = n) (hsize : ls.size = nL) (hW : (rest.map fun v => v.category).sum ≤ 8) (hf : cells ≤ R.cells ∧ slots ≤ R.slots) (hdg : decode cc pc = .ok (.invokevirtual index, 3)) (kk : ∀ (H1 : Heap) (locs1 : List Loc), va_S A s.heap H1 locs1 → (∀ q : Nat, q < H.size → ¬ cA a q → H1[q]? = H[q]?) → W p l e R s m args below meth c H1 locs1 cells slots Q (F0 m (pc + 3) ls (.int (iZ v) :: rest))) : W p l e R s m args below meth c H locs cells slots Q (F0 m pc ls st0) :=
  va_calli (va_runV S hM cw ⟨cOk_blind, va_recv hK hP (ci := 7) (q0 := 0) rfl (cW_get (i := 0) (by decide) (cE_0 rfl _)), fun U hU hW => ⟨rfl, by rw [hU]; exact hP, va_K.moved hW.alike hK, (hN.moved hS hU hW).toN (cA_of hD)⟩⟩ rfl hn hsize hst (lv_room hW) hdg hf) hS (fun q _ h9 => cA_of hD q h9) (cA_of hD) (fun r u t H1 locs1 ht hvm hr hB hz hk hS1 => by
    rw [hr]
    exact kk H1 locs1 hS1 hk)
theorem mA_of {A : Nat → Prop} {C2 : mC} {h2 : Nat} {a2 : Nat → Nat} {M : Nat → Nat → Int} (hD : va_D A (mW C2 h2 a2 M)) (hj : ∀ k : Nat, ∃ (j : Nat) (e : va_E), (mW C2 h2 a2 M)[j]? = some (a2 k, e)) : ∀ q, mA h2 a2 q → A q := fun q hq => by
  rcases hq with rfl | ⟨k, rfl⟩
  · exact hD.2 0 _ rfl
  · obtain ⟨j, e, hj⟩ := hj k
    exact hD.2 j _ hj
theorem lq_mi {y : MethodName} {bytes : ByteArray} {maxL nL n index : Nat} {ret : Option FieldType} {ws Ts : List Cond} {rm : Room} {As st0 : List Value} {v : Int} (S : CallFix p m c cc nL s args Ts RL) (hK : va_K D vwCl (mT C2) s) (hP : va_P D vwCl (mW C2 h2 a2 M) H) (hM : Met l y ws rm (va_Pc (.ref h2 :: As) (mOk D C2 h2 a2 M)) (vp_Si (fun r => r = iZ v)) 0 0 (fun _ => False)) (cw : CallW R s args RL RX8 index y bytes maxL ret ws rm 0 0 n) (hst : st0 = As.reverse ++ .ref h2 :: rest) (hn : As.length = n) (hsize : ls.size = nL) (hW : (rest.map fun v => v.category).sum ≤ 8) (hf : cells ≤ R.cells ∧ slots ≤ R.slots) (hdg : decode cc pc = .ok (.invokevirtual index, 3)) (kk : W p l e R s m args below meth c H locs cells slots Q (F0 m (pc + 3) ls (.int (iZ v) :: rest))) : W p l e R s m args below meth c H locs cells slots Q (F0 m pc ls st0) :=
  vp_callSi (W.runV S hM cw ⟨mOk_blind, va_recv hK hP (ci := 8) (q0 := 0) rfl rfl, fun U hU hW => ⟨rfl, by rw [hU]; exact hP, va_K.moved hW.alike hK⟩⟩ rfl hn hsize hst (lv_room hW) hdg hf) (fun r hr => by rw [hr]; exact kk)
theorem lq_ml {y : MethodName} {bytes : ByteArray} {maxL nL n index : Nat} {ret : Option FieldType} {ws Ts : List Cond} {rm : Room} {As st0 : List Value} {v : Int} (S : CallFix p m c cc nL s args Ts RL) (hK : va_K D vwCl (mT C2) s) (hP : va_P D vwCl (mW C2 h2 a2 M) H) (hM : Met l y ws rm (va_Pc (.ref h2 :: As) (mOk D C2 h2 a2 M)) (vp_Sl (fun r => r = iL v)) 0 0 (fun _ => False)) (cw : CallW R s args RL RX8 index y bytes maxL ret ws rm 0 0 n) (hst : st0 = As.reverse ++ .ref h2 :: rest) (hn : As.length = n) (hsize : ls.size = nL) (hW : (rest.map fun v => v.category).sum ≤ 8) (hf : cells ≤ R.cells ∧ slots ≤ R.slots) (hdg : decode cc pc = .ok (.invokevirtual index, 3)) (kk : W p l e R s m args below meth c H locs cells slots Q (F0 m (pc + 3) ls (.long (iL v) :: rest))) : W p l e R s m args below meth c H locs cells slots Q (F0 m pc ls st0) :=
  vp_callSl (W.runV S hM cw ⟨mOk_blind, va_recv hK hP (ci := 8) (q0 := 0) rfl rfl, fun U hU hW => ⟨rfl, by rw [hU]; exact hP, va_K.moved hW.alike hK⟩⟩ rfl hn hsize hst (lv_room hW) hdg hf) (fun r hr => by rw [hr]; exact kk)
theorem lq_mm {y : MethodName} {bytes : ByteArray} {maxL nL n index : Nat} {ret : Option FieldType} {ws Ts : List Cond} {rm : Room} {As st0 : List Value} {v : Int} {M2 : Nat → Nat → Int} (S : CallFix p m c cc nL s args Ts RL) (hK : va_K D vwCl (mT C2) s) (hP : va_P D vwCl (mW C2 h2 a2 M) H) (hD : va_D A (mW C2 h2 a2 M)) (hS : va_S A s.heap H locs) (hAA : ∀ q, mA h2 a2 q → A q) (hM : Met l y ws rm (va_Pc (.ref h2 :: As) (mOk D C2 h2 a2 M)) (va_Qi (fun r (_ : Unit) => r = iZ v) (fun _ t => mOk D C2 h2 a2 M2 t) (mA h2 a2)) 0 0 (mA h2 a2)) (cw : CallW R s args RL RX8 index y bytes maxL ret ws rm 0 0 n) (hst : st0 = As.reverse ++ .ref h2 :: rest) (hn : As.length = n) (hsize : ls.size = nL) (hW : (rest.map fun v => v.category).sum ≤ 8) (hf : cells ≤ R.cells ∧ slots ≤ R.slots) (hdg : decode cc pc = .ok (.invokevirtual index, 3)) (kk : ∀ (H1 : Heap) (locs1 : List Loc), va_P D vwCl (mW C2 h2 a2 M2) H1 → va_D A (mW C2 h2 a2 M2) → va_S A s.heap H1 locs1 → (∀ q : Nat, q < H.size → ¬ mA h2 a2 q → H1[q]? = H[q]?) → W p l e R s m args below meth c H1 locs1 cells slots Q (F0 m (pc + 3) ls (.int (iZ v) :: rest))) : W p l e R s m args below meth c H locs cells slots Q (F0 m pc ls st0) :=
  va_calli (va_runV S hM cw ⟨mOk_blind, va_recv hK hP (ci := 8) (q0 := 0) rfl rfl, fun U hU hW => ⟨rfl, by rw [hU]; exact hP, va_K.moved hW.alike hK⟩⟩ rfl hn hsize hst (lv_room hW) hdg hf) hS (fun q _ h9 => hAA q h9) hAA (fun r u t H1 locs1 ht hvm hr hB hz hk hS1 => by
    rw [hr]
    exact kk H1 locs1 (ht ▸ hB.1) (mD_re hD) hS1 hk)
end LROWS
