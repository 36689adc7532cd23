/-! The other calls that leave something. -/
theorem cR.low {V W M N : Nat → Nat → Int} (hI : mI M) (h : cR V M) (w3 : W 0 3 = V 0 3) (w4 : W 0 4 = V 0 4) (w : ∀ g, 15 ≤ g → W g = V g) (m : ∀ f, 2 ≤ f → f < 24 → N f = M f) (hx : xR W N) (hs : sR W N) (ht : W 0 12 = N 29 0) : cR W N := by
  have b := mI_now hI
  have hto := h.1.1
  unfold isTo at hto
  refine ⟨h.1.of w3 w4 (fun k hk => w _ (by omega)) (by rw [m 2 (by decide) (by decide)]) (by rw [m 5 (by decide) (by decide)]) (by rw [m 9 (by decide) (by decide)]) (fun f hf k _ => by rw [m f (by omega) (by omega)]) b.2.1.2 b.2.2.1.2 b.2.2.2.1.2, hx, hs, h.2.2.2.1.of hI (fun g hg => w g (by omega)) (by rw [m 5 (by decide) (by decide)]) (m _ (by decide) (by decide)) (m _ (by decide) (by decide)) (fun k _ => by rw [m 20 (by decide) (by decide)]) (fun k _ => by rw [m 21 (by decide) (by decide)]), h.2.2.2.2.1.of hI (fun g hg => w g (by omega)) (by rw [m 5 (by decide) (by decide)]) (m _ (by decide) (by decide)) (by rw [m 20 (by decide) (by decide)]) (fun k _ => by rw [m 21 (by decide) (by decide)]), ht⟩
theorem cR.scr {V W M N : Nat → Nat → Int} (hI : mI M) (h : cR V M) (w : ∀ g, g < 9 ∨ 15 ≤ g → W g = V g) (m : ∀ f, f ≠ 24 → f ≠ 25 → N f = M f) : cR W N := by
  have w0 := w 0 (by omega)
  exact h.low hI (by rw [w0]) (by rw [w0]) (fun g hg => w g (by omega)) (fun f h1 h2 => m f (by omega) (by omega)) (h.2.1.of (by rw [w0]) (w 1 (by omega)) (m _ (by decide) (by decide)) (by rw [m 1 (by decide) (by decide)])) (h.2.2.1.of (by rw [w 4 (by omega)]) (w _ (by omega)) (w _ (by omega)) (w _ (by omega)) (w _ (by omega)) (m _ (by decide) (by decide)) (m _ (by decide) (by decide)) (by rw [m 28 (by decide) (by decide)])) (by rw [w0, m 29 (by decide) (by decide)]; exact h.2.2.2.2.2)
theorem R_type {V M : Nat → Nat → Int} (hI : mI M) (h : cR V M) (cc : Int) : (if 0 ≤ cc ∧ cc ≤ 255 then (if V 0 1 < 120 then V 0 1 + 1 else -3) else -1) = s_type M cc ∧ cR (if (0 ≤ cc ∧ cc ≤ 255) ∧ V 0 1 < 120 then mU (mU V 1 (Int.toNat (V 0 1)) cc) 0 1 (V 0 1 + 1) else V) (f_type M cc) := by
  have e := h.2.1.1
  have t := h.2.1.2
  have b := (mI_now hI).1
  rw [e]
  refine ⟨by unfold s_type; omega, ?_⟩
  by_cases q : 0 ≤ cc ∧ cc ≤ 255
  · by_cases q2 : M 1 0 = 120
    · have ef : f_type M cc = M := by unfold f_type; rw [if_neg (fun z => z q), if_pos q2]
      rw [if_neg (fun z => by omega), ef]
      exact h
    · have ef : f_type M cc = mU (mU M 0 (M 1 0).toNat (zsb cc)) 1 0 (M 1 0 + 1) := by unfold f_type; rw [if_neg (fun z => z q), if_neg q2]
      rw [if_pos ⟨q, by omega⟩, ef]
      refine h.low hI (by rw [mU_ni _ _ _ _ (by decide), mU_nf _ _ _ _ (by decide)]) (by rw [mU_ni _ _ _ _ (by decide), mU_nf _ _ _ _ (by decide)]) (fun g hg => by rw [mU_or _ _ _ (by omega), mU_or _ _ _ (by omega)]) (fun f h1 h2 => by rw [mU_or _ _ _ (by omega), mU_or _ _ _ (by omega)]) ⟨by rw [mU_eq, mU_eq], fun k hk => ?_⟩ ?_ ?_
      · show mU V 1 (Int.toNat (M 1 0)) cc 1 k = mU M 0 (Int.toNat (M 1 0)) (zsb cc) 0 k % 256
        by_cases y : k = (M 1 0).toNat
        · rw [y, mU_eq, mU_eq]
          unfold zsb
          omega
        · rw [mU_ni _ _ _ _ y, mU_ni _ _ _ _ y]
          exact t k hk
      · exact h.2.2.1.of (by rw [mU_or _ _ _ (by decide), mU_or _ _ _ (by decide)]) (by rw [mU_or _ _ _ (by decide), mU_or _ _ _ (by decide)]) (by rw [mU_or _ _ _ (by decide), mU_or _ _ _ (by decide)]) (by rw [mU_or _ _ _ (by decide), mU_or _ _ _ (by decide)]) (by rw [mU_or _ _ _ (by decide), mU_or _ _ _ (by decide)]) (by rw [mU_or _ _ _ (by decide), mU_or _ _ _ (by decide)]) (by rw [mU_or _ _ _ (by decide), mU_or _ _ _ (by decide)]) (by rw [mU_or _ _ _ (by decide), mU_or _ _ _ (by decide)])
      · rw [mU_ni _ _ _ _ (by decide), mU_nf _ _ _ _ (by decide), mU_nf _ _ _ _ (by decide), mU_nf _ _ _ _ (by decide)]
        exact h.2.2.2.2.2
  · have ef : f_type M cc = M := by unfold f_type; rw [if_pos q]
    rw [if_neg (fun z => q z.1), ef]
    exact h
theorem R_clear {V M : Nat → Nat → Int} (hI : mI M) (h : cR V M) : V 0 1 = M 1 0 ∧ cR (mU V 0 1 0) (mU M 1 0 0) := by
  refine ⟨h.2.1.1, h.low hI (mU_ni _ _ _ _ (by decide)) (mU_ni _ _ _ _ (by decide)) (fun g hg => mU_or _ _ _ (by omega)) (fun f h1 h2 => mU_or _ _ _ (by omega)) ⟨by rw [mU_eq, mU_eq], fun k hk => ?_⟩ ?_ ?_⟩
  · rw [mU_nf _ _ _ _ (by decide), mU_nf _ _ _ _ (by decide)]
    exact h.2.1.2 k hk
  · exact h.2.2.1.of (by rw [mU_or _ _ _ (by decide)]) (mU_or _ _ _ (by decide)) (mU_or _ _ _ (by decide)) (mU_or _ _ _ (by decide)) (mU_or _ _ _ (by decide)) (mU_or _ _ _ (by decide)) (mU_or _ _ _ (by decide)) (mU_nf _ _ _ _ (by decide))
  · rw [mU_ni _ _ _ _ (by decide), mU_nf _ _ _ _ (by decide)]
    exact h.2.2.2.2.2
theorem R_forget {V M : Nat → Nat → Int} (hI : mI M) (h : cR V M) : V 4 4 = M 28 0 ∧ cR (mU V 4 4 0) (mU M 28 0 0) := by
  refine ⟨h.2.2.1.1, h.low hI (mU_nf _ _ _ _ (by decide)) (mU_nf _ _ _ _ (by decide)) (fun g hg => mU_or _ _ _ (by omega)) (fun f h1 h2 => mU_or _ _ _ (by omega)) ?_ ⟨by rw [mU_eq, mU_eq], fun k hk => ?_⟩ ?_⟩
  · exact h.2.1.of (mU_nf _ _ _ _ (by decide)) (mU_or _ _ _ (by decide)) (mU_or _ _ _ (by decide)) (mU_nf _ _ _ _ (by decide))
  · rw [mU_eq] at hk
    omega
  · rw [mU_nf _ _ _ _ (by decide), mU_nf _ _ _ _ (by decide)]
    exact h.2.2.2.2.2
theorem R_saw {V M : Nat → Nat → Int} (hI : mI M) (h : cR V M) (sy sp : Int) : (if (0 ≤ sy ∧ sy < V (Int.toNat (V 0 3)) 8) ∧ (0 ≤ sp ∧ sp ≤ 30) then (if V 4 4 < 4 then V 4 4 + 1 else -3) else -1) = s_saw M sy sp ∧ cR (if ((0 ≤ sy ∧ sy < V (Int.toNat (V 0 3)) 8) ∧ (0 ≤ sp ∧ sp ≤ 30)) ∧ V 4 4 < 4 then f_sad V sy sp (c_wind V 0) (V 39 1) else V) (f_saw M sy sp) := by
  have b := mI_now hI
  have e4 : V 4 4 = M 28 0 := h.2.2.1.1
  have cw := c_wind_bd (h.cIb hI) 0
  have cd : 0 ≤ V 39 1 ∧ V 39 1 ≤ 5 := by rw [h.2.2.2.2.1.1.2.1]; exact b.2.2.2.2.2.1
  rw [h.ne.2, e4]
  refine ⟨by unfold s_saw; omega, ?_⟩
  by_cases q : (0 ≤ sy ∧ sy < M 5 0) ∧ (0 ≤ sp ∧ sp ≤ 30)
  · by_cases q2 : M 28 0 = 4
    · have ef : f_saw M sy sp = M := by unfold f_saw; rw [if_neg (fun z => z q), if_pos q2]
      rw [if_neg (fun z => by omega), ef]
      exact h
    · have ef : f_saw M sy sp = mU (mU (mU M 26 (M 28 0).toNat sy) 27 (M 28 0).toNat sp) 28 0 (M 28 0 + 1) := by unfold f_saw; rw [if_neg (fun z => z q), if_neg q2]
      rw [if_pos ⟨q, by omega⟩, ef]
      obtain ⟨n, hn⟩ : ∃ n : Nat, M 28 0 = (n : Int) := ⟨Int.toNat (M 28 0), by omega⟩
      obtain ⟨W, hW⟩ : ∃ W, W = f_sad V sy sp (c_wind V 0) (V 39 1) := ⟨_, rfl⟩
      have eW : W = mU (mU (mU (mU (mU V 5 n sy) 6 n sp) 7 n (c_wind V 0)) 8 n (V 39 1)) 4 4 (M 28 0 + 1) := by
        rw [hW]
        have e5 : Int.toNat (V 4 4) = n := by omega
        show mU (mU (mU (mU (mU V 5 (Int.toNat (V 4 4)) sy) 6 (Int.toNat (mU V 5 (Int.toNat (V 4 4)) sy 4 4)) sp) 7 (Int.toNat (mU (mU V 5 (Int.toNat (V 4 4)) sy) 6 (Int.toNat (mU V 5 (Int.toNat (V 4 4)) sy 4 4)) sp 4 4)) (c_wind V 0)) 8 (Int.toNat (mU (mU (mU V 5 (Int.toNat (V 4 4)) sy) 6 (Int.toNat (mU V 5 (Int.toNat (V 4 4)) sy 4 4)) sp) 7 (Int.toNat (mU (mU V 5 (Int.toNat (V 4 4)) sy) 6 (Int.toNat (mU V 5 (Int.toNat (V 4 4)) sy 4 4)) sp 4 4)) (c_wind V 0) 4 4)) (V 39 1)) 4 4 _ = _
        have a1 : mU V 5 (Int.toNat (V 4 4)) sy 4 4 = V 4 4 := rfl
        rw [a1, e5]
        have a2 : mU (mU V 5 n sy) 6 n sp 4 4 = V 4 4 := rfl
        rw [a2, e5]
        have a3 : mU (mU (mU V 5 n sy) 6 n sp) 7 n (c_wind V 0) 4 4 = V 4 4 := rfl
        rw [a3, e5]
        have a4 : mU (mU (mU (mU V 5 n sy) 6 n sp) 7 n (c_wind V 0)) 8 n (V 39 1) 4 4 = V 4 4 := rfl
        rw [a4, e4]
      rw [← hW, hn, Int.toNat_natCast]
      have wo : ∀ g, g < 4 ∨ 8 < g → W g = V g := fun g hg => by rw [eW, mU_or _ _ _ (by omega), mU_or _ _ _ (by omega), mU_or _ _ _ (by omega), mU_or _ _ _ (by omega), mU_or _ _ _ (by omega)]
      have mrow : ∀ (X : Nat → Nat → Int) (r : Nat) (x : Int) (k : Nat), mU X r n x r k = if k = n then x else X r k := fun X r x k => by
        by_cases y : k = n
        · rw [y, mU_eq, if_pos rfl]
        · rw [mU_ni _ _ _ _ y, if_neg y]
      have w5 : ∀ k, W 5 k = if k = n then sy else V 5 k := fun k => by
        rw [eW, mU_nf _ _ _ _ (by decide), mU_nf _ _ _ _ (by decide), mU_nf _ _ _ _ (by decide), mU_nf _ _ _ _ (by decide), mrow]
      have w6 : ∀ k, W 6 k = if k = n then sp else V 6 k := fun k => by
        rw [eW, mU_nf _ _ _ _ (by decide), mU_nf _ _ _ _ (by decide), mU_nf _ _ _ _ (by decide), mrow, mU_nf _ _ _ _ (by decide)]
      have w7 : ∀ k, W 7 k = if k = n then c_wind V 0 else V 7 k := fun k => by
        rw [eW, mU_nf _ _ _ _ (by decide), mU_nf _ _ _ _ (by decide), mrow, mU_nf _ _ _ _ (by decide), mU_nf _ _ _ _ (by decide)]
      have w8 : ∀ k, W 8 k = if k = n then V 39 1 else V 8 k := fun k => by
        rw [eW, mU_nf _ _ _ _ (by decide), mrow, mU_nf _ _ _ _ (by decide), mU_nf _ _ _ _ (by decide), mU_nf _ _ _ _ (by decide)]
      have w44 : W 4 4 = (n : Int) + 1 := by rw [eW, mU_eq, hn]
      obtain ⟨N, hN⟩ : ∃ N, N = mU (mU (mU M 26 n sy) 27 n sp) 28 0 ((n : Int) + 1) := ⟨_, rfl⟩
      rw [← hN]
      have no : ∀ f, f < 26 ∨ 28 < f → N f = M f := fun f hf => by rw [hN, mU_or _ _ _ (by omega), mU_or _ _ _ (by omega), mU_or _ _ _ (by omega)]
      have n28 : N 28 0 = (n : Int) + 1 := by rw [hN, mU_eq]
      have n26 : ∀ k, N 26 k = if k = n then sy else M 26 k := fun k => by rw [hN, mU_nf _ _ _ _ (by decide), mU_nf _ _ _ _ (by decide), mrow]
      have n27 : ∀ k, N 27 k = if k = n then sp else M 27 k := fun k => by rw [hN, mU_nf _ _ _ _ (by decide), mrow, mU_nf _ _ _ _ (by decide)]
      have w0 := wo 0 (by omega)
      refine h.low hI (by rw [w0]) (by rw [w0]) (fun g hg => wo g (by omega)) (fun f h1 h2 => no f (by omega)) (h.2.1.of (by rw [w0]) (wo 1 (by omega)) (no 0 (by omega)) (by rw [no 1 (by omega)])) ⟨by rw [w44, n28], fun k hk => ?_⟩ (by rw [w0, no 29 (by omega)]; exact h.2.2.2.2.2)
      rw [n28] at hk
      rw [w5, w6, w7, w8, n26, n27]
      by_cases y : k = n
      · rw [if_pos y, if_pos y, if_pos y, if_pos y, if_pos y, if_pos y]
        exact ⟨⟨rfl, rfl⟩, cw, cd⟩
      · rw [if_neg y, if_neg y, if_neg y, if_neg y, if_neg y, if_neg y]
        exact h.2.2.1.2 k (by omega)
  · have ef : f_saw M sy sp = M := by unfold f_saw; rw [if_pos q]
    rw [if_neg (fun z => q z.1), ef]
    exact h
theorem R_markS {V M : Nat → Nat → Int} (hI : mI M) (h : cR V M) (kd pe : Int) : cR (if (0 ≤ pe ∧ pe < V (Int.toNat (V 0 3)) 7) ∧ (0 ≤ kd ∧ kd ≤ 5) then f_tr V (c_mkt kd) else V) (f_mark M kd pe) := by
  unfold f_mark
  rw [h.ne.1]
  by_cases q : (0 ≤ pe ∧ pe < M 2 0) ∧ (0 ≤ kd ∧ kd ≤ 5)
  · rw [if_pos q, if_neg (fun z => z ⟨q.2, q.1⟩)]
    have e : s_trN (s_bodies kd) 6 = c_mkt kd := by
      have q2 := q.2
      rcases (show kd = 0 ∨ kd = 1 ∨ kd = 2 ∨ kd = 3 ∨ kd = 4 ∨ kd = 5 by omega) with rfl | rfl | rfl | rfl | rfl | rfl <;> decide +kernel
    rw [e]
    unfold f_tr
    refine h.low hI (mU_ni _ _ _ _ (by decide)) (mU_ni _ _ _ _ (by decide)) (fun g hg => mU_or _ _ _ (by omega)) (fun f h1 h2 => mU_or _ _ _ (by omega)) (h.2.1.of (mU_ni _ _ _ _ (by decide)) (mU_or _ _ _ (by decide)) (mU_or _ _ _ (by decide)) (by rw [mU_or _ _ _ (by decide)])) (h.2.2.1.of (by rw [mU_or _ _ _ (by decide)]) (mU_or _ _ _ (by decide)) (mU_or _ _ _ (by decide)) (mU_or _ _ _ (by decide)) (mU_or _ _ _ (by decide)) (mU_or _ _ _ (by decide)) (mU_or _ _ _ (by decide)) (by rw [mU_or _ _ _ (by decide)])) ?_
    rw [mU_eq, mU_eq, h.2.2.2.2.2]
  · rw [if_neg q, if_pos (fun z => q ⟨z.2, z.1⟩)]
    exact h
theorem R_relayS {V M : Nat → Nat → Int} (hI : mI M) (h : cR V M) (sy to wh : Int) : cR (if c_rok V sy to wh then f_cs V sy to else V) (f_relay M sy to wh) := by
  refine h.scr hI (fun g hg => ?_) (fun f h1 h2 => ?_)
  · split
    · exact f_cs_o V sy to g (by omega)
    · rfl
  · unfold f_relay
    split
    · rfl
    · exact f_ms_o _ _ _ _ _ h1
theorem R_askS {V M : Nat → Nat → Int} (hI : mI M) (h : cR V M) : cR (f_ask V) M := h.scr hI (fun g hg => f_ask_o V g (by omega)) (fun _ _ _ => rfl)
theorem f_alt_o (V : Nat → Nat → Int) (hb : 0 ≤ V (Int.toNat (V 0 3)) 8 ∧ V (Int.toNat (V 0 3)) 8 ≤ 6) (st sy : Int) (g : Nat) (h : g < 9 ∨ 15 ≤ g) : f_alt V st sy g = V g := by
  unfold f_alt
  split
  · have a := (f_pa_i V st (Int.toNat (V (Int.toNat (V 0 3)) 8)) (by omega)).2.2
    have b := (f_se_o (f_pre V st) (Int.toNat (zp (2 * f_pre V st 9 3)))).1 g (by omega) (by omega)
    have c : f_sea (f_pre V st) g = f_pre V st g := b
    rw [c]
    exact a g (by omega) (by omega) (by omega) (by omega)
  · rfl
theorem R_allotS {V M : Nat → Nat → Int} (hI : mI M) (h : cR V M) (st sy : Int) : cR (f_alt V st sy) (f_allot M st sy) := by
  have b := (h.tob hI).2.1
  refine h.scr hI (fun g hg => f_alt_o V b st sy g hg) (fun f h1 h2 => ?_)
  unfold f_allot
  split
  · rfl
  · exact f_tdN_o _ _ h2
