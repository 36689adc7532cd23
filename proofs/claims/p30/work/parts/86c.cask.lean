set_option maxHeartbeats 4000000 in
set_option maxRecDepth 100000 in
theorem K_X7_ask_0 (l : Launch) (D : va_G) (C : cC) (a b : Nat → Nat) (V : Nat → Nat → Int) (hto : isTo (Int.toNat (V 0 3))) (hp0 : V (Int.toNat (V 0 3)) 7 = 0) : Met l yX7_ask wsX7_ask ({ frames := 1, cells := 0, slots := 0, locals := 22 }) (va_Pc [.ref (a 0)] (cOk D C a b V)) (vp_Si (fun r => r = iZ (-9))) 0 0 (fun _ => False) := by
  refine Met.ofW (cc := cX7_ask) (maxL := 6) (ret := (some .int)) (by decide) rfl ?_
  intro p e s m args below meth c s₁ B hml hv
  obtain ⟨rfl, hP, hK, hN⟩ := hv
  have hx := B.exec
  have hb := B.bytes
  have hr := B.returns
  have hts := atoms_spec (ws := wsX7_ask) B.pre
  have hown : s.vm.findClass RX7 = some m.cls := findClass_of_methodNamed B.named
  have hlocks := B.notSynchronized
  have hin_X7 : ∀ w ∈ wsX70, w ∈ wsX7_ask := fun _ w_h => (List.mem_cons_of_mem _ (List.mem_append_left _ (List.mem_append_left _ (List.mem_append_left _ (List.mem_append_right _ w_h)))))
  have hin_X6 : ∀ w ∈ wsX60, w ∈ wsX7_ask := fun _ w_h => (List.mem_cons_of_mem _ (List.mem_append_left _ (List.mem_append_left _ (List.mem_append_right _ w_h))))
  have hin_X4 : ∀ w ∈ wsX40, w ∈ wsX7_ask := fun _ w_h => (List.mem_cons_of_mem _ (List.mem_append_left _ (List.mem_append_right _ w_h)))
  have hin_X2 : ∀ w ∈ wsX20, w ∈ wsX7_ask := fun _ w_h => (List.mem_cons_of_mem _ (List.mem_append_right _ w_h))
  have hl := lv_entry ([.ref (a 0)]) (n := 6) (Nat.le_of_ble_eq_true rfl)
  rw [lg_entry_eq]
  generalize (lg_sl ([.ref (a 0)]) ++ List.replicate (6 - (lg_sl ([.ref (a 0)])).length) Slot.unset).toArray = ls at hl ⊢
  replace hl : lv_has ls 6 [(0, .ref (a 0))] := hl
  have hS : va_S (cA a) s.heap s.heap [] := va_S.rf
  refine lv_aload_n hx hb dX7_ask_0 rfl (lv_at hl 0 rfl) ?_
  refine kq_ci (i := 0) (As := []) (rest := []) ⟨hx, hb, hml, hown, hts⟩ hK hP hN hS (by decide) (cE_0 rfl) rfl (K_X7_suspects_0 l D C a b V  (by assumption) (by omega)) (cwV 0 hts gX7_ask_X7_suspects rfl rfl rfl (by decide +kernel) ⟨Nat.le_of_ble_eq_true rfl, Nat.le_of_ble_eq_true rfl⟩) rfl rfl hl.1 (Nat.le_of_ble_eq_true rfl) ⟨Nat.le_of_ble_eq_true rfl, Nat.le_of_ble_eq_true rfl⟩ dX7_ask_1 ?_
  refine W.eq (g2 := F0 m 4 ls [.int (iZ 0)]) rfl ?_
  refine lv_istore_n (lv' := [(1, .int (iZ 0)), (0, .ref (a 0))]) hx hb dX7_ask_4 rfl hl (by decide) rfl (fun ls hl => ?_)
  refine lv_iload_n hx hb dX7_ask_5 rfl (lv_at hl 0 rfl) ?_
  refine kq_cs (As := [.int (iZ 0)]) (rest := []) ⟨hx, hb, hml, hown, hts⟩ (K_J6_bitCount_0f7a4 l 0 ) (va_cwS 1 hts gX7_ask_J6_bitCount_0f7a4 rfl rfl rfl (by decide +kernel) ⟨Nat.le_of_ble_eq_true rfl, Nat.le_of_ble_eq_true rfl⟩) rfl rfl hl.1 (Nat.le_of_ble_eq_true rfl) ⟨Nat.le_of_ble_eq_true rfl, Nat.le_of_ble_eq_true rfl⟩ dX7_ask_6 ?_
  have hbc := zbc_bd 0
  have hb0 : zbc 0 = 0 := by decide +kernel
  refine lv_iconst (v := iZ 2) hx hb dX7_ask_9 (by decide) ?_
  refine z_icmp_ge (x := (zbc 0)) (y := 2) (tgt := 16) hx hb (by omega) (by omega) dX7_ask_10 (by decide) (fun c1 => ?_) (fun c1 => ?_)
  · omega
  · refine lv_bipush (v := iZ (-9)) hx hb dX7_ask_13 (by decide) ?_
    exact mq_ret hx hb hr rfl rfl dX7_ask_15 hlocks rfl
