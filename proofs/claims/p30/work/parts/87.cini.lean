/-! Constructors: a world in two parts, cells X that are worked on, and a rest tl. -/
theorem kn_join {A0 : Nat → Prop} {D : va_G} {cl : List vw_C} {X tl w1 : va_W} {c : Nat × va_E} {H H1 : Heap} (hP : va_P D cl ((X ++ [c]) ++ tl) H) (hD : va_D A0 ((X ++ [c]) ++ tl)) (hk : ∀ q : Nat, q < H.size → ¬ va_A [c] H.size q → H1[q]? = H[q]?) (hF : ∀ q, va_A [c] H.size q → A0 q) (hP1 : va_P D cl w1 H1) (hD1 : va_D (va_A [c] H.size) w1) : va_P D cl (X ++ (w1 ++ tl)) H1 ∧ va_D A0 (X ++ (w1 ++ tl)) := by
  have hP2 : va_P D cl ((X ++ tl) ++ [c]) H := hP.swap
  have hD2 : va_D A0 ((X ++ tl) ++ [c]) := hD.swap
  have apart : ∀ (k : Nat) (q : Nat × va_E), (X ++ tl)[k]? = some q → q.1 < H.size ∧ ¬ va_A [c] H.size q.1 := by
    intro k q hq
    have hkl : k < (X ++ tl).length := (List.getElem?_eq_some_iff.mp hq).1
    have hq2 : ((X ++ tl) ++ [c])[k]? = some q := by rw [List.getElem?_append_left hkl]; exact hq
    have hl := (hP2 k q hq2).lt
    refine ⟨hl, fun h => ?_⟩
    rcases h with ⟨k2, e, h⟩ | h
    · have hk2 : k2 < 1 := (List.getElem?_eq_some_iff.mp h).1
      have : k2 = 0 := by omega
      subst this
      have hc : c = (q.1, e) := Option.some.inj h
      have hc2 : ((X ++ tl) ++ [c])[(X ++ tl).length]? = some c := by rw [List.getElem?_append_right (Nat.le_refl _), Nat.sub_self]; rfl
      have := hD2.1 k _ q c hq2 hc2 (by rw [hc])
      omega
    · omega
  have hPr : va_P D cl (X ++ tl) H1 := fun k q hq => by
    have hkl : k < (X ++ tl).length := (List.getElem?_eq_some_iff.mp hq).1
    have hq2 : ((X ++ tl) ++ [c])[k]? = some q := by rw [List.getElem?_append_left hkl]; exact hq
    obtain ⟨g1, g2⟩ := apart k q hq
    exact (hP2 k q hq2).kept (hk q.1 g1 g2)
  have hDr : va_D A0 (X ++ tl) := by
    refine hD2.by (fun k => k) (fun k q hq => ?_) (fun i j _ _ h => h)
    rw [List.getElem?_append_left (List.getElem?_eq_some_iff.mp hq).1]
    exact hq
  have hPa : va_P D cl ((X ++ tl) ++ w1) H1 := hPr.app hP1
  have hDa : va_D A0 ((X ++ tl) ++ w1) := hDr.app (hD1.weaken (fun k q _ h => hF q.1 h)) (fun i j x y hx hy hxy => (apart i x hx).2 (by rw [hxy]; exact hD1.2 j y hy))
  rw [← List.append_assoc]
  exact ⟨hPa.swap, hDa.swap⟩
section NROWS
variable {p : Program} {l : Launch} {e : Env} {R : Room} {s : State} {m : MethodId} {args : Array Value} {below : List Frame} {meth : Method} {c : Code} {H : Heap} {locs : List Loc} {cells slots : Nat} {Q : State → Prop}
variable {cc : ByteArray} {pc : Nat} {ls : Array Slot} {rest : List Value} {D : va_G} {A : Nat → Prop} {H0 : Heap} {X tl : va_W} {tys : List (ClassId × FieldType)}
theorem kn_new (hexec : p.tables.exec = Jvm.exec) (hb : c.code = cc) {own RC : String} {T : u_T} {N ci index : Nat} {Ts : List Cond} (hts : ∀ w ∈ Ts, w.before args s = true) (hin : ∀ w ∈ u_ws RC T N, w ∈ Ts) (ty : Nat → FieldType) (hty : ∀ k, k < N → parseFieldDescriptor (T k).2.2.1 = some (ty k)) (hown : s.vm.findClass own = some m.cls) (hcl : (Cond.classLink own index RC).before args s = true) (hinst : (Cond.instantiable RC N).before args s = true) (hini : (Cond.initialized RC).before args s = true)
    (hK : va_K D vwCl tys s) (hP : va_P D vwCl (X ++ tl) H) (hD : va_D A (X ++ tl)) (hS : va_S A H0 H locs) (hA : ∀ q, H0.size ≤ q → A q) (hc : vwCl[ci]? = some (RC, T, N)) {fs : List Value} (hfs : ∀ j, j < N → defaultValue (ty j) = vp_V fs j) (hcells : cells + 1 ≤ R.cells) (hslots : slots + N ≤ R.slots) (hdg : decode cc pc = .ok (.new index, 3))
    (kk : ∀ (q : Nat) (H1 : Heap), va_P D vwCl ((X ++ [(q, .inr (ci, fs))]) ++ tl) H1 → va_D A ((X ++ [(q, .inr (ci, fs))]) ++ tl) → va_S A H0 H1 locs →
      W p l e R s m args below meth c H1 locs (cells + 1) (slots + N) Q (F0 m (pc + 3) ls (.ref q :: rest))) : W p l e R s m args below meth c H locs cells slots Q (F0 m pc ls rest) :=
  va_new hexec hb hts hin ty hty hown hcl hinst hini hK hP hD hS hA hc hfs hcells hslots hdg (fun q H1 h1 h2 h3 => kk q H1 h1.swap h2.swap h3)
theorem kn_newaI {N9 : Nat} (hexec : p.tables.exec = Jvm.exec) (hb : c.code = cc) (harr : (Cond.arrayClass .int).before args s = true) (hK : va_K D vwCl tys s) (t0 : Nat) {c0 : ClassId} (ht0 : tys[t0]? = some (c0, .int)) (hP : va_P D vwCl (X ++ tl) H) (hD : va_D A (X ++ tl)) (hS : va_S A H0 H locs) (hA : ∀ q, H0.size ≤ q → A q)
    {n : Int32} (hn : ¬ n < 0) (hN : n.toNatClampNeg = N9) (hbytes : N9 * componentBytes .int ≤ 536870912) (hcells : cells + 1 ≤ R.cells) (hslots : slots + N9 ≤ R.slots) (hdg : decode cc pc = .ok (.newarray .int, 2))
    (kk : ∀ (q : Nat) (H1 : Heap), va_P D vwCl ((X ++ [(q, .inl (c0, N9, .inl (fun _ => iZ 0)))]) ++ tl) H1 → va_D A ((X ++ [(q, .inl (c0, N9, .inl (fun _ => iZ 0)))]) ++ tl) → va_S A H0 H1 locs →
      W p l e R s m args below meth c H1 locs (cells + 1) (slots + N9) Q (F0 m (pc + 2) ls (.ref q :: rest))) : W p l e R s m args below meth c H locs cells slots Q (F0 m pc ls (.int n :: rest)) := by
  refine va_newa (atype := .int) (a0 := (N9, .inl (fun _ => iZ 0))) hexec hb harr rfl hK hP hD hS hA (fun _ => rfl) hn hN hbytes hcells hslots hdg (fun q cA H1 hK1 h1 h2 h3 => ?_)
  have e1 : s.vm.findClass ("[" ++ (FieldType.int).toString) = some cA := (hK1.2 tys.length (cA, .int) (by rw [List.getElem?_append_right (Nat.le_refl _), Nat.sub_self]; rfl)).2
  have e2 : s.vm.findClass ("[" ++ (FieldType.int).toString) = some c0 := (hK.2 t0 _ ht0).2
  have e3 : cA = c0 := Option.some.inj (e1.symm.trans e2)
  subst e3
  exact kk q H1 h1.swap h2.swap h3
theorem kn_newaB {N9 : Nat} (hexec : p.tables.exec = Jvm.exec) (hb : c.code = cc) (harr : (Cond.arrayClass .byte).before args s = true) (hK : va_K D vwCl tys s) (t0 : Nat) {c0 : ClassId} (ht0 : tys[t0]? = some (c0, .byte)) (hP : va_P D vwCl (X ++ tl) H) (hD : va_D A (X ++ tl)) (hS : va_S A H0 H locs) (hA : ∀ q, H0.size ≤ q → A q)
    {n : Int32} (hn : ¬ n < 0) (hN : n.toNatClampNeg = N9) (hbytes : N9 * componentBytes .byte ≤ 536870912) (hcells : cells + 1 ≤ R.cells) (hslots : slots + N9 ≤ R.slots) (hdg : decode cc pc = .ok (.newarray .byte, 2))
    (kk : ∀ (q : Nat) (H1 : Heap), va_P D vwCl ((X ++ [(q, .inl (c0, N9, .inl (fun _ => iZ 0)))]) ++ tl) H1 → va_D A ((X ++ [(q, .inl (c0, N9, .inl (fun _ => iZ 0)))]) ++ tl) → va_S A H0 H1 locs →
      W p l e R s m args below meth c H1 locs (cells + 1) (slots + N9) Q (F0 m (pc + 2) ls (.ref q :: rest))) : W p l e R s m args below meth c H locs cells slots Q (F0 m pc ls (.int n :: rest)) := by
  refine va_newa (atype := .byte) (a0 := (N9, .inl (fun _ => iZ 0))) hexec hb harr rfl hK hP hD hS hA (fun _ => rfl) hn hN hbytes hcells hslots hdg (fun q cA H1 hK1 h1 h2 h3 => ?_)
  have e1 : s.vm.findClass ("[" ++ (FieldType.byte).toString) = some cA := (hK1.2 tys.length (cA, .byte) (by rw [List.getElem?_append_right (Nat.le_refl _), Nat.sub_self]; rfl)).2
  have e2 : s.vm.findClass ("[" ++ (FieldType.byte).toString) = some c0 := (hK.2 t0 _ ht0).2
  have e3 : cA = c0 := Option.some.inj (e1.symm.trans e2)
  subst e3
  exact kk q H1 h1.swap h2.swap h3
theorem kn_newaZ {N9 : Nat} (hexec : p.tables.exec = Jvm.exec) (hb : c.code = cc) (harr : (Cond.arrayClass .boolean).before args s = true) (hK : va_K D vwCl tys s) (t0 : Nat) {c0 : ClassId} (ht0 : tys[t0]? = some (c0, .boolean)) (hP : va_P D vwCl (X ++ tl) H) (hD : va_D A (X ++ tl)) (hS : va_S A H0 H locs) (hA : ∀ q, H0.size ≤ q → A q)
    {n : Int32} (hn : ¬ n < 0) (hN : n.toNatClampNeg = N9) (hbytes : N9 * componentBytes .boolean ≤ 536870912) (hcells : cells + 1 ≤ R.cells) (hslots : slots + N9 ≤ R.slots) (hdg : decode cc pc = .ok (.newarray .boolean, 2))
    (kk : ∀ (q : Nat) (H1 : Heap), va_P D vwCl ((X ++ [(q, .inl (c0, N9, .inl (fun _ => iZ 0)))]) ++ tl) H1 → va_D A ((X ++ [(q, .inl (c0, N9, .inl (fun _ => iZ 0)))]) ++ tl) → va_S A H0 H1 locs →
      W p l e R s m args below meth c H1 locs (cells + 1) (slots + N9) Q (F0 m (pc + 2) ls (.ref q :: rest))) : W p l e R s m args below meth c H locs cells slots Q (F0 m pc ls (.int n :: rest)) := by
  refine va_newa (atype := .boolean) (a0 := (N9, .inl (fun _ => iZ 0))) hexec hb harr rfl hK hP hD hS hA (fun _ => rfl) hn hN hbytes hcells hslots hdg (fun q cA H1 hK1 h1 h2 h3 => ?_)
  have e1 : s.vm.findClass ("[" ++ (FieldType.boolean).toString) = some cA := (hK1.2 tys.length (cA, .boolean) (by rw [List.getElem?_append_right (Nat.le_refl _), Nat.sub_self]; rfl)).2
  have e2 : s.vm.findClass ("[" ++ (FieldType.boolean).toString) = some c0 := (hK.2 t0 _ ht0).2
  have e3 : cA = c0 := Option.some.inj (e1.symm.trans e2)
  subst e3
  exact kk q H1 h1.swap h2.swap h3
theorem kn_newq {N9 : Nat} (hexec : p.tables.exec = Jvm.exec) (hb : c.code = cc) {own RC : String} {index : Nat} (hown : s.vm.findClass own = some m.cls) (hclink : (Cond.classLink own index RC).before args s = true) (hover : va_AO RC s) (hK : va_K D vwCl tys s) (t0 : Nat) {c0 : ClassId} (ht0 : tys[t0]? = some (c0, .object RC)) (hP : va_P D vwCl (X ++ tl) H) (hD : va_D A (X ++ tl)) (hS : va_S A H0 H locs) (hA : ∀ q, H0.size ≤ q → A q)
    {n : Int32} (hn : ¬ n < 0) (hN : n.toNatClampNeg = N9) (hbytes : N9 * 4 ≤ 536870912) (hcells : cells + 1 ≤ R.cells) (hslots : slots + N9 ≤ R.slots) (hdg : decode cc pc = .ok (.anewarray index, 3))
    (kk : ∀ (q : Nat) (H1 : Heap), va_P D vwCl ((X ++ [(q, .inl (c0, N9, .inr (.inr (.inr (.inr (fun _ => none))))))]) ++ tl) H1 → va_D A ((X ++ [(q, .inl (c0, N9, .inr (.inr (.inr (.inr (fun _ => none))))))]) ++ tl) → va_S A H0 H1 locs →
      W p l e R s m args below meth c H1 locs (cells + 1) (slots + N9) Q (F0 m (pc + 3) ls (.ref q :: rest))) : W p l e R s m args below meth c H locs cells slots Q (F0 m pc ls (.int n :: rest)) := by
  refine va_newq hexec hb hown hclink hover hK hP hD hS hA hn hN hbytes hcells hslots hdg (fun q cA H1 hK1 h1 h2 h3 => ?_)
  obtain ⟨k1, k2, -, -, -, e1⟩ := (hK1.2 tys.length (cA, .object RC) (by rw [List.getElem?_append_right (Nat.le_refl _), Nat.sub_self]; rfl)).2
  obtain ⟨k3, k4, -, -, -, e2⟩ := (hK.2 t0 _ ht0).2
  have e3 : cA = c0 := Option.some.inj (e1.symm.trans e2)
  subst e3
  exact kk q H1 h1.swap h2.swap h3
end NROWS
/-- blocks -/
def moE (C : cC) (q : Nat → Nat) (k : Nat) : va_E := match k with
  | 0 => .inr (2, [.int (iZ 0), .int (iZ 0), .int (iZ 0), .ref (q 1), .ref (q 2), .ref (q 3), .ref (q 4)])
  | 1 => .inl (C.1, 4, .inl (fun _ => iZ 0))
  | 2 => .inl (C.1, 6, .inl (fun _ => iZ 0))
  | 3 => .inl (C.1, 8, .inl (fun _ => iZ 0))
  | _ => .inl (C.1, 8, .inl (fun _ => iZ 0))
def moB (C : cC) (q : Nat → Nat) : va_W := (List.range 5).map (fun k => (q k, moE C q k))
def toE (C : cC) (q : Nat → Nat) (k : Nat) : va_E := match k with
  | 0 => .inr (6, [.ref (q 1), .ref (q 2), .ref (q 3), .ref (q 4), .ref (q 5), .ref (q 6), .ref (q 7), .int (iZ 0), .int (iZ 0), .int (iZ 0)])
  | 7 => .inl (C.1, 4, .inl (fun k => iZ (if k < 4 then 9 else 0)))
  | _ => .inl (C.1, 6, .inl (fun _ => iZ 0))
def toB (C : cC) (q : Nat → Nat) : va_W := (List.range 8).map (fun k => (q k, toE C q k))
def siE (C : cC) (q : Nat → Nat) (k : Nat) : va_E := match k with
  | 0 => .inr (4, [.ref (q 1), .ref (q 2), .ref (q 3), .ref (q 4), .int (iZ 0)])
  | _ => .inl (C.1, 4, .inl (fun _ => iZ 0))
def siB (C : cC) (q : Nat → Nat) : va_W := (List.range 5).map (fun k => (q k, siE C q k))
def alE (C : cC) (q : Nat → Nat) (k : Nat) : va_E := match k with
  | 0 => .inr (0, [.ref (q 1), .ref (q 2), .ref (q 3), .int (iZ 0), .int (iZ 0), .int (iZ 0)])
  | 1 => .inl (C.1, 6, .inl (fun _ => iZ 0))
  | 2 => .inl (C.1, 24, .inl (fun _ => iZ 0))
  | _ => .inl (C.1, 4, .inl (fun _ => iZ 0))
def alB (C : cC) (q : Nat → Nat) : va_W := (List.range 4).map (fun k => (q k, alE C q k))
def reB (q t : Nat) : va_W := [(q, .inr (5, [.ref t, .int (iZ 0), .int (iZ 0), .int (iZ 0), .int (iZ 0), .int (iZ 0)]))]
def paE (C : cC) (q : Nat → Nat) (f : Nat → Option Nat) (k : Nat) : va_E := if k = 0 then .inr (3, [.ref (q 1), .int (iZ 0)]) else if k = 1 then .inl (C.2.1, 10, .inr (.inr (.inr (.inr f)))) else moE C (fun t => q (2 + 5 * ((k - 2) / 5) + t)) ((k - 2) % 5)
def paB (C : cC) (q : Nat → Nat) (f : Nat → Option Nat) : va_W := (List.range 52).map (fun k => (q k, paE C q f k))
def imE (C : cC) (q : Nat → Nat) (f : Nat → Option Nat) (k : Nat) : va_E := if k = 0 then .inr (1, [.ref (q 1), .ref (q 6), .int (iZ 0)]) else if k < 6 then moE C (fun t => q (1 + t)) (k - 1) else paE C (fun t => q (6 + t)) f (k - 6)
def imB (C : cC) (q : Nat → Nat) (f : Nat → Option Nat) : va_W := (List.range 58).map (fun k => (q k, imE C q f k))
theorem moB_head {C : cC} {q : Nat → Nat} {h0 : Nat} (h : q 0 = h0) : (moB C q)[0]? = some (h0, .inr (2, [.int (iZ 0), .int (iZ 0), .int (iZ 0), .ref (q 1), .ref (q 2), .ref (q 3), .ref (q 4)])) := by subst h; rfl
theorem imB_head {C : cC} {q : Nat → Nat} {f : Nat → Option Nat} {h0 : Nat} (h : q 0 = h0) : (imB C q f)[0]? = some (h0, .inr (1, [.ref (q 1), .ref (q 6), .int (iZ 0)])) := by subst h; rfl
/-- moments one by one -/
def moBs (C : cC) (us : Nat → Nat → Nat) : Nat → va_W
  | 0 => []
  | n + 1 => moB C (us n) ++ moBs C us n
theorem moB_len {C : cC} {q : Nat → Nat} : (moB C q).length = 5 := by simp [moB]
theorem moBs_len {C : cC} {us : Nat → Nat → Nat} : ∀ n, (moBs C us n).length = 5 * n
  | 0 => rfl
  | n + 1 => by simp [moBs, moB_len, moBs_len n]; omega
theorem moBs_at {C : cC} {us : Nat → Nat → Nat} : ∀ (n j k : Nat), j < n → k < 5 → (moBs C us n)[5 * (n - 1 - j) + k]? = some (us j k, moE C (us j) k) := by
  intro n
  induction n with
  | zero => intro j k hj; omega
  | succ n ih =>
    intro j k hj hk
    by_cases q : j = n
    · subst q
      rw [show 5 * (j + 1 - 1 - j) + k = k by omega]
      show (moB C (us j) ++ moBs C us j)[k]? = _
      rw [List.getElem?_append_left (by rw [moB_len]; exact hk)]
      simp [moB, hk]
    · show (moB C (us n) ++ moBs C us n)[_]? = _
      rw [List.getElem?_append_right (by rw [moB_len]; omega), moB_len, ← ih j k (by omega) hk]
      congr 1; omega
/-- what stands in a world may stand otherwise in another, where the cells hold the same -/
theorem va_P.tr {D : va_G} {cl : List vw_C} {ws ws' : va_W} {H : Heap} (h : va_P D cl ws H) (hg : ∀ (k : Nat) (q : Nat × va_E), ws'[k]? = some q → ∃ (i : Nat) (e : va_E), ws[i]? = some (q.1, e) ∧ (va_at D cl (q.1, e) H → va_at D cl q H)) : va_P D cl ws' H := fun k q hk => by
  obtain ⟨i, e, h1, h2⟩ := hg k q hk
  exact h2 (h i _ h1)
theorem arrV_ext9 {c0 : ClassId} {n : Nat} {f g : Nat → Value} (h : ∀ j, j < n → f j = g j) : arrV c0 n f = arrV c0 n g := by
  have e : (arrV c0 n f).slots = (arrV c0 n g).slots := by
    apply Array.ext_getElem?
    intro j
    by_cases hj : j < n
    · rw [arrV_read _ _ hj, arrV_read _ _ hj, h j hj]
    · rw [Array.getElem?_eq_none (by rw [arrV_size]; omega), Array.getElem?_eq_none (by rw [arrV_size]; omega)]
  show ({ cls := c0, slots := (arrV c0 n f).slots, vm := .none } : Cell) = { cls := c0, slots := (arrV c0 n g).slots, vm := .none }
  rw [e]
theorem va_at_arr {D : va_G} {cl : List vw_C} {H : Heap} {a n : Nat} {c0 : ClassId} {f g : Nat → Option Nat} (h : ∀ j, j < n → f j = g j) (q : va_at D cl (a, .inl (c0, n, .inr (.inr (.inr (.inr f))))) H) : va_at D cl (a, .inl (c0, n, .inr (.inr (.inr (.inr g))))) H := by
  have e : vp_cell c0 (n, .inr (.inr (.inr (.inr f)))) = vp_cell c0 (n, .inr (.inr (.inr (.inr g)))) := by
    show arrV c0 n (fun j => va_rf (f j)) = arrV c0 n (fun j => va_rf (g j))
    exact arrV_ext9 (fun j hj => by rw [h j hj])
  show H[a]? = some (vp_cell c0 (n, .inr (.inr (.inr (.inr g)))))
  rw [← e]
  exact q
/-- the addresses of a world are apart in another's order -/
theorem va_D.tr {A : Nat → Prop} {ws ws' : va_W} (h : va_D A ws) (g : Nat → Nat) (hg : ∀ (k : Nat) (q : Nat × va_E), ws'[k]? = some q → ∃ e : va_E, ws[g k]? = some (q.1, e)) (hi : ∀ i j : Nat, i < ws'.length → j < ws'.length → g i = g j → i = j) : va_D A ws' := by
  refine ⟨fun i j x y hx hy hxy => ?_, fun k q hk => ?_⟩
  · obtain ⟨e1, h1⟩ := hg i x hx
    obtain ⟨e2, h2⟩ := hg j y hy
    exact hi i j (List.getElem?_eq_some_iff.mp hx).1 (List.getElem?_eq_some_iff.mp hy).1 (h.1 _ _ _ _ h1 h2 hxy)
  · obtain ⟨e1, h1⟩ := hg k q hk
    exact h.2 _ (q.1, e1) h1
/-- a past out of its two cells and its moments -/
theorem paB_of {D : va_G} {C : cC} {A : Nat → Prop} {H : Heap} {h0 q1 : Nat} {us : Nat → Nat → Nat} {f : Nat → Option Nat}
    (hP : va_P D vwCl ([(h0, .inr (3, [.ref q1, .int (iZ 0)])), (q1, .inl (C.2.1, 10, .inr (.inr (.inr (.inr f)))))] ++ moBs C us 10) H) (hD : va_D A ([(h0, .inr (3, [.ref q1, .int (iZ 0)])), (q1, .inl (C.2.1, 10, .inr (.inr (.inr (.inr f)))))] ++ moBs C us 10))
    (q : Nat → Nat) (e0 : q 0 = h0) (e1 : q 1 = q1) (e2 : ∀ j k, j < 10 → k < 5 → q (2 + 5 * j + k) = us j k) : va_P D vwCl (paB C q f) H ∧ va_D A (paB C q f) := by
  have hg : ∀ (k : Nat) (x : Nat × va_E), (paB C q f)[k]? = some x → ([(h0, .inr (3, [.ref q1, .int (iZ 0)])), (q1, .inl (C.2.1, 10, .inr (.inr (.inr (.inr f)))))] ++ moBs C us 10)[if k < 2 then k else 2 + (5 * (10 - 1 - (k - 2) / 5) + (k - 2) % 5)]? = some x := by
    intro k x hx
    have hk : k < 52 := by
      have := (List.getElem?_eq_some_iff.mp hx).1
      simpa [paB] using this
    have hx2 : x = (q k, paE C q f k) := by
      have : (paB C q f)[k]? = some (q k, paE C q f k) := by simp [paB, hk]
      rw [this] at hx
      exact (Option.some.inj hx).symm
    subst hx2
    by_cases h2 : k < 2
    · rw [if_pos h2]
      rcases (show k = 0 ∨ k = 1 by omega) with rfl | rfl
      · rw [e0]
        show some _ = some _
        rw [show paE C q f 0 = .inr (3, [.ref (q 1), .int (iZ 0)]) from rfl, e1]
      · rw [e1]
        rfl
    · rw [if_neg h2, List.getElem?_append_right (by simp only [List.length_cons, List.length_nil]; omega)]
      rw [show 2 + (5 * (10 - 1 - (k - 2) / 5) + (k - 2) % 5) - ([(h0, .inr (3, [.ref q1, .int (iZ 0)])), (q1, .inl (C.2.1, 10, .inr (.inr (.inr (.inr f)))))] : va_W).length = 5 * (10 - 1 - (k - 2) / 5) + (k - 2) % 5 by simp only [List.length_cons, List.length_nil]; omega]
      rw [moBs_at 10 ((k - 2) / 5) ((k - 2) % 5) (by omega) (by omega)]
      have ea : q k = us ((k - 2) / 5) ((k - 2) % 5) := by
        rw [← e2 _ _ (by omega) (by omega)]
        congr 1; omega
      have eb : paE C q f k = moE C (us ((k - 2) / 5)) ((k - 2) % 5) := by
        unfold paE
        rw [if_neg (by omega), if_neg (by omega)]
        have hh : ∀ t, t < 5 → q (2 + 5 * ((k - 2) / 5) + t) = us ((k - 2) / 5) t := fun t ht => e2 _ _ (by omega) ht
        have hm : (k - 2) % 5 < 5 := by omega
        generalize (k - 2) % 5 = z at hm ⊢
        rcases (show z = 0 ∨ z = 1 ∨ z = 2 ∨ z = 3 ∨ z = 4 by omega) with rfl | rfl | rfl | rfl | rfl
        · simp only [moE, hh 1 (by omega), hh 2 (by omega), hh 3 (by omega), hh 4 (by omega)]
        all_goals rfl
      rw [ea, eb]
  refine ⟨hP.by _ hg, hD.by _ hg (fun i j hi hj h => ?_)⟩
  have hl : (paB C q f).length = 52 := by simp [paB]
  rw [hl] at hi hj
  revert h
  (repeat' split) <;> intro h <;> omega
