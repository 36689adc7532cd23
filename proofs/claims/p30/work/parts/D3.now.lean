/-! Now: what its calls answer and leave. -/
theorem moR_hour {V : Nat → Nat → Int} {v w : Nat → Int} {S : Int} (h : moR V 39 v S) (x : Int) (w0 : w 0 = x) (wo : ∀ k, k ≠ 0 → w k = v k) : moR (mU V 39 0 x) 39 w S := by
  obtain ⟨h1, h2, h3, h4, h5, h6⟩ := h
  have e : ∀ k, 0 < k → mU V 39 0 x (39 + k) = V (39 + k) := fun k hk => mU_or _ _ _ (by omega)
  unfold moR
  rw [e 1 (by omega), e 2 (by omega), e 3 (by omega), e 4 (by omega), mU_eq, mU_ni _ _ _ _ (by decide), mU_ni _ _ _ _ (by decide), w0, wo 1 (by decide), wo 12 (by decide)]
  exact ⟨rfl, h2, h3, fun k hk => by rw [wo _ (by omega)]; exact h4 k hk, fun p hp => ⟨(h5 p hp).1, fun s hs => by rw [wo _ (by omega)]; exact (h5 p hp).2 s hs⟩, fun k hk => by rw [wo _ (by omega), wo _ (by omega)]; exact h6 k hk⟩
theorem moR_damp {V : Nat → Nat → Int} {v w : Nat → Int} {S : Int} (h : moR V 39 v S) (x : Int) (w1 : w 1 = x) (wo : ∀ k, k ≠ 1 → w k = v k) : moR (mU V 39 1 x) 39 w S := by
  obtain ⟨h1, h2, h3, h4, h5, h6⟩ := h
  have e : ∀ k, 0 < k → mU V 39 1 x (39 + k) = V (39 + k) := fun k hk => mU_or _ _ _ (by omega)
  unfold moR
  rw [e 1 (by omega), e 2 (by omega), e 3 (by omega), e 4 (by omega), mU_eq, mU_ni _ _ _ _ (by decide), mU_ni _ _ _ _ (by decide), w1, wo 0 (by decide), wo 12 (by decide)]
  exact ⟨h1, rfl, h3, fun k hk => by rw [wo _ (by omega)]; exact h4 k hk, fun p hp => ⟨(h5 p hp).1, fun s hs => by rw [wo _ (by omega)]; exact (h5 p hp).2 s hs⟩, fun k hk => by rw [wo _ (by omega), wo _ (by omega)]; exact h6 k hk⟩
theorem moR_fea {V : Nat → Nat → Int} {v w : Nat → Int} {S : Int} {n : Nat} (hn : n < 4) (h : moR V 39 v S) (x : Int) (w1 : w (2 + n) = x) (wo : ∀ k, k ≠ 2 + n → w k = v k) : moR (mU V 40 n x) 39 w S := by
  obtain ⟨h1, h2, h3, h4, h5, h6⟩ := h
  have e : ∀ k, k ≠ 1 → mU V 40 n x (39 + k) = V (39 + k) := fun k hk => mU_or _ _ _ (by omega)
  have e0 := e 0 (by omega)
  rw [Nat.add_zero] at e0
  unfold moR
  rw [e0, e 2 (by omega), e 3 (by omega), e 4 (by omega), wo 0 (by omega), wo 1 (by omega), wo 12 (by omega)]
  refine ⟨h1, h2, h3, fun k hk => ?_, fun p hp => ⟨(h5 p hp).1, fun s hs => by rw [wo _ (by omega)]; exact (h5 p hp).2 s hs⟩, fun k hk => by rw [wo _ (by omega), wo _ (by omega)]; exact h6 k hk⟩
  show mU V 40 n x 40 k = w (2 + k)
  by_cases q : k = n
  · subst q
    rw [mU_eq, w1]
  · rw [mU_ni _ _ _ _ q, wo _ (by omega)]; exact h4 k hk
theorem moR_tel {V : Nat → Nat → Int} {v w : Nat → Int} {S pe : Int} {n : Nat} (hn : (n : Int) < S) (hS : S ≤ 6) (hp : 0 ≤ pe) (hv : 0 ≤ v (6 + n)) (h : moR V 39 v S) (w1 : w (6 + n) = zor (v (6 + n)) pe) (wo : ∀ k, k ≠ 6 + n → w k = v k) : moR (f_tel V 39 pe (n : Int)) 39 w S := by
  obtain ⟨h1, h2, h3, h4, h5, h6⟩ := h
  have e : ∀ k, k ≠ 2 → f_tel V 39 pe (n : Int) (39 + k) = V (39 + k) := fun k hk => f_tel_o _ _ _ (by omega)
  have e0 := e 0 (by omega)
  rw [Nat.add_zero] at e0
  unfold moR
  rw [e0, e 1 (by omega), e 3 (by omega), e 4 (by omega), wo 0 (by omega), wo 1 (by omega), wo 12 (by omega)]
  refine ⟨h1, h2, h3, fun k hk => by rw [wo _ (by omega)]; exact h4 k hk, fun p hp6 => ?_, fun k hk => by rw [wo _ (by omega), wo _ (by omega)]; exact h6 k hk⟩
  obtain ⟨b, t⟩ := h5 p hp6
  have hz : 0 ≤ zp (n : Int) ∧ zp (n : Int) < ((2 ^ 6 : Nat) : Int) := ⟨zp_nn _, zp_lt (by omega) (by omega)⟩
  have ev : f_tel V 39 pe (n : Int) (39 + 2) p = if pe / zp (p : Int) % 2 = 1 then zor (V (39 + 2) p) (zp (n : Int)) else V (39 + 2) p := by
    simp only [f_tel, f_tlN]
    by_cases q : pe / zp (p : Int) % 2 = 1
    · rw [if_pos ⟨trivial, hp6, q⟩, if_pos q]
    · rw [if_neg (fun z => q z.2.2), if_neg q]
  rw [ev]
  by_cases q : pe / zp (p : Int) % 2 = 1
  · rw [if_pos q]
    refine ⟨zor_lt (k := 6) ⟨b.1, b.2⟩ hz, fun s hs => ?_⟩
    rw [zbit_or s b.1 (zp_nn _)]
    have tz := t s hs
    have zz := zbit_zp n s
    by_cases y : s = n
    · subst y
      rw [if_pos rfl] at zz
      rw [if_pos (Or.inr zz), if_pos hn, w1, zbit_or p hv hp, if_pos (Or.inr q)]
    · rw [if_neg (fun z => y z.symm)] at zz
      rw [wo (6 + s) (by omega), ← tz]
      rcases zbit_01 (V (39 + 2) p) s with z | z
      · rw [if_neg (by omega), z]
      · rw [if_pos (Or.inl z), z]
  · rw [if_neg q]
    refine ⟨b, fun s hs => ?_⟩
    have tz := t s hs
    by_cases y : s = n
    · subst y
      rw [if_pos hn] at tz ⊢
      rw [w1, zbit_or p hv hp, tz]
      rcases zbit_01 (v (6 + s)) (p : Int) with z | z
      · rw [z, if_neg (by omega)]
      · rw [z, if_pos (Or.inl rfl)]
    · rw [wo (6 + s) (by omega)]
      exact tz
theorem moR_rmv {V : Nat → Nat → Int} {v w : Nat → Int} {S : Int} {ii : Nat} (h : moR V 39 v S) (h12 : (ii : Int) < v 12 ∧ v 12 ≤ 8) (w12 : w 12 = v 12 - 1) (wo : ∀ k, k < 12 → w k = v k) (w13 : ∀ k : Nat, (k : Int) + 1 < v 12 → w (13 + k) = (if ii ≤ k then v (13 + k + 1) else v (13 + k)) ∧ w (21 + k) = (if ii ≤ k then v (21 + k + 1) else v (21 + k))) : moR (f_rmv V 39 (ii : Int)) 39 w S := by
  obtain ⟨h1, h2, h3, h4, h5, h6⟩ := h
  obtain ⟨N, hN⟩ : ∃ N : Nat, V 39 2 = (N : Int) := ⟨Int.toNat (V 39 2), by omega⟩
  obtain ⟨W, hW⟩ : ∃ W, W = f_rmv V 39 (ii : Int) := ⟨_, rfl⟩
  have eW : W = mU (f_rmN V 39 (ii : Int) N) 39 2 (V 39 2 - 1) := by
    rw [hW]
    unfold f_rmv
    rw [f_rmN_i, show Int.toNat (V 39 2) = N by omega]
  have wA : ∀ g, g ≠ 39 → g ≠ 42 → g ≠ 43 → W g = V g := fun g g1 g2 g3 => by rw [hW]; exact f_rmv_o V _ g1 (by omega) (by omega)
  have w39 : ∀ k, k ≠ 2 → W 39 k = V 39 k := fun k hk => by
    rw [eW, mU_ni _ _ _ _ hk]
    unfold f_rmN
    rw [if_neg (by omega)]
  have w392 : W 39 2 = V 39 2 - 1 := by rw [eW, mU_eq]
  have wr : ∀ g k, g = 42 ∨ g = 43 → W g k = if ii ≤ k ∧ k + 1 < N then V g (k + 1) else V g k := fun g k hg => by
    rw [eW, mU_nf _ _ _ _ (by omega)]
    unfold f_rmN
    by_cases q : ii ≤ k ∧ k + 1 < N
    · rw [if_pos ⟨by omega, by omega, q.2⟩, if_pos q]
    · rw [if_neg (by omega), if_neg q]
  rw [← hW]
  refine ⟨by rw [w39 0 (by decide), wo 0 (by decide)]; exact h1, by rw [w39 1 (by decide), wo 1 (by decide)]; exact h2, by rw [w392, w12, h3], fun k hk => by rw [wA _ (by omega) (by omega) (by omega), wo _ (by omega)]; exact h4 k hk, fun p hp => ?_, fun k hk => ?_⟩
  · rw [wA _ (by omega) (by omega) (by omega)]
    exact ⟨(h5 p hp).1, fun s hs => by rw [wo _ (by omega)]; exact (h5 p hp).2 s hs⟩
  · rw [w12] at hk
    obtain ⟨a, b⟩ := w13 k (by omega)
    have x := wr 42 k (Or.inl rfl)
    have y := wr 43 k (Or.inr rfl)
    show W 42 k = w (13 + k) ∧ W 43 k = w (21 + k)
    rw [a, b, x, y]
    by_cases q : ii ≤ k
    · have q2 : ii ≤ k ∧ k + 1 < N := ⟨q, by omega⟩
      simp only [if_pos q2, if_pos q]
      exact h6 (k + 1) (by omega)
    · have q2 : ¬ (ii ≤ k ∧ k + 1 < N) := fun z => q z.1
      simp only [if_neg q2, if_neg q]
      exact h6 k (by omega)
theorem moR_add {V : Nat → Nat → Int} {v w : Nat → Int} {S sy sp : Int} {n : Nat} (h : moR V 39 v S) (h12 : v 12 = (n : Int)) (hn : n < 8) (w12 : w 12 = v 12 + 1) (wo : ∀ k, k < 12 → w k = v k) (w13 : w (13 + n) = sy) (w21 : w (21 + n) = sp) (wr : ∀ k : Nat, k < n → w (13 + k) = v (13 + k) ∧ w (21 + k) = v (21 + k)) : moR (mU (mU (mU V 42 n sy) 43 n sp) 39 2 (V 39 2 + 1)) 39 w S := by
  obtain ⟨h1, h2, h3, h4, h5, h6⟩ := h
  obtain ⟨W, hW⟩ : ∃ W, W = mU (mU (mU V 42 n sy) 43 n sp) 39 2 (V 39 2 + 1) := ⟨_, rfl⟩
  have wA : ∀ g, g ≠ 39 → g ≠ 42 → g ≠ 43 → W g = V g := fun g g1 g2 g3 => by rw [hW, mU_or _ _ _ g1, mU_or _ _ _ g3, mU_or _ _ _ g2]
  have w39 : ∀ k, k ≠ 2 → W 39 k = V 39 k := fun k hk => by rw [hW, mU_ni _ _ _ _ hk, mU_nf _ _ _ _ (by decide), mU_nf _ _ _ _ (by decide)]
  have w392 : W 39 2 = V 39 2 + 1 := by rw [hW, mU_eq]
  have w42 : ∀ k, W 42 k = if k = n then sy else V 42 k := fun k => by
    rw [hW, mU_nf _ _ _ _ (by decide), mU_nf _ _ _ _ (by decide)]
    by_cases q : k = n
    · rw [q, mU_eq, if_pos rfl]
    · rw [mU_ni _ _ _ _ q, if_neg q]
  have w43 : ∀ k, W 43 k = if k = n then sp else V 43 k := fun k => by
    rw [hW, mU_nf _ _ _ _ (by decide)]
    by_cases q : k = n
    · rw [q, mU_eq, if_pos rfl]
    · rw [mU_ni _ _ _ _ q, mU_nf _ _ _ _ (by decide), if_neg q]
  rw [← hW]
  refine ⟨by rw [w39 0 (by decide), wo 0 (by decide)]; exact h1, by rw [w39 1 (by decide), wo 1 (by decide)]; exact h2, by rw [w392, w12, h3], fun k hk => by rw [wA _ (by omega) (by omega) (by omega), wo _ (by omega)]; exact h4 k hk, fun p hp => ?_, fun k hk => ?_⟩
  · rw [wA _ (by omega) (by omega) (by omega)]
    exact ⟨(h5 p hp).1, fun s hs => by rw [wo _ (by omega)]; exact (h5 p hp).2 s hs⟩
  · rw [w12] at hk
    show W 42 k = w (13 + k) ∧ W 43 k = w (21 + k)
    rw [w42, w43]
    by_cases q : k = n
    · subst q
      rw [if_pos rfl, if_pos rfl, w13, w21]
      exact ⟨rfl, rfl⟩
    · rw [if_neg q, if_neg q, (wr k (by omega)).1, (wr k (by omega)).2]
      exact h6 k (by omega)
-- hours, damps, plucks, undo
theorem R_hours {V M : Nat → Nat → Int} (hI : mI M) (h : cR V M) (nn : Int) : (if 1 ≤ nn ∧ nn ≤ 9 then (if V 39 0 + nn ≤ 999 then V 39 0 + nn else -2) else -1) = s_hours M nn ∧ cR (if (1 ≤ nn ∧ nn ≤ 9) ∧ V 39 0 + nn ≤ 999 then mU (f_rem V 31 39) 39 0 (f_rem V 31 39 39 0 + nn) else V) (f_hours M nn) := by
  have e0 : V 39 0 = M 19 0 := h.2.2.2.2.1.1.1
  have hk := cR_know hI h
  have hm := hk.2.2.2.2.1.1
  rw [e0]
  refine ⟨by unfold s_hours; omega, ?_⟩
  by_cases q : (1 ≤ nn ∧ nn ≤ 9) ∧ M 19 0 + nn ≤ 999
  · have ef : f_hours M nn = mU (f_know M) 19 0 (f_know M 19 0 + nn) := by
      unfold f_hours
      rw [if_neg (fun z => z q.1), if_neg (by omega)]
    rw [if_pos q, ef]
    refine cR_mom (mI_know hI) hk (fun g hg => mU_or _ _ _ (by omega)) (fun f hf => mU_or _ _ _ hf) ?_
    have e2 : f_rem V 31 39 39 0 = f_know M 19 0 := hm.1
    rw [e2]
    exact moR_hour hm _ (mU_eq _ _ _ _) (fun k hk => mU_ni _ _ _ _ hk)
  · have ef : f_hours M nn = M := by
      unfold f_hours
      split
      · rfl
      · split
        · rfl
        · exfalso; omega
    rw [if_neg q, ef]
    exact h
theorem R_damps {V M : Nat → Nat → Int} (hI : mI M) (h : cR V M) (nn : Int) : (if 0 ≤ nn ∧ nn ≤ 5 then (if nn = V 39 1 then -2 else V 39 1) else -1) = s_damps M nn ∧ cR (if (0 ≤ nn ∧ nn ≤ 5) ∧ ¬ nn = V 39 1 then mU (f_rem V 31 39) 39 1 nn else V) (f_damps M nn) := by
  have e0 : V 39 1 = M 19 1 := h.2.2.2.2.1.1.2.1
  have hk := cR_know hI h
  have hm := hk.2.2.2.2.1.1
  rw [e0]
  refine ⟨by unfold s_damps; omega, ?_⟩
  by_cases q : (0 ≤ nn ∧ nn ≤ 5) ∧ ¬ nn = M 19 1
  · have ef : f_damps M nn = mU (f_know M) 19 1 nn := by
      unfold f_damps
      rw [if_neg (fun z => z q.1), if_neg (fun z => q.2 z.symm)]
    rw [if_pos q, ef]
    refine cR_mom (mI_know hI) hk (fun g hg => mU_or _ _ _ (by omega)) (fun f hf => mU_or _ _ _ hf) ?_
    exact moR_damp hm _ (mU_eq _ _ _ _) (fun k hk => mU_ni _ _ _ _ hk)
  · have ef : f_damps M nn = M := by
      unfold f_damps
      split
      · rfl
      · split
        · rfl
        · exfalso; omega
    rw [if_neg q, ef]
    exact h
theorem R_plucks {V M : Nat → Nat → Int} (hI : mI M) (h : cR V M) (fe nn : Int) : (if (0 ≤ fe ∧ fe < 4) ∧ 1 ≤ nn ∧ nn ≤ 9 then (if V 40 (Int.toNat fe) < 20 then (if V 40 (Int.toNat fe) + nn < 20 then V 40 (Int.toNat fe) + nn else 20) else -2) else -1) = s_plucks M fe nn ∧ cR (if ((0 ≤ fe ∧ fe < 4) ∧ 1 ≤ nn ∧ nn ≤ 9) ∧ V 40 (Int.toNat fe) < 20 then mU (f_rem V 31 39) 40 (Int.toNat fe) (if f_rem V 31 39 40 (Int.toNat fe) + nn < 20 then f_rem V 31 39 40 (Int.toNat fe) + nn else 20) else V) (f_plucks M fe nn) := by
  have hk := cR_know hI h
  have hm := hk.2.2.2.2.1.1
  by_cases q : (0 ≤ fe ∧ fe < 4) ∧ 1 ≤ nn ∧ nn ≤ 9
  · obtain ⟨n, hn⟩ := Int.eq_ofNat_of_zero_le q.1.1
    have e2 : Int.toNat (2 + fe) = 2 + n := by omega
    have e3 : Int.toNat fe = n := by omega
    have n4 : n < 4 := by omega
    have e0 : V 40 n = M 19 (2 + n) := h.2.2.2.2.1.1.2.2.2.1 n n4
    have b := mI_fe hI (k := fe) (by omega)
    rw [e2] at b
    rw [e3, e0]
    refine ⟨by unfold s_plucks s_plv; rw [e2]; omega, ?_⟩
    by_cases q2 : M 19 (2 + n) < 20
    · have ef : f_plucks M fe nn = mU (f_know M) 19 (2 + n) (s_plv M fe nn) := by
        unfold f_plucks
        rw [e2, if_neg (fun z => z (by omega)), if_neg (by omega)]
      rw [if_pos ⟨q, q2⟩, ef]
      refine cR_mom (mI_know hI) hk (fun g hg => mU_or _ _ _ (by omega)) (fun f hf => mU_or _ _ _ hf) ?_
      have e4 : f_rem V 31 39 40 n = f_know M 19 (2 + n) := hm.2.2.2.1 n n4
      have e5 : f_know M 19 = M 19 := f_know_o M (by decide) (by decide)
      rw [e4]
      refine moR_fea n4 hm _ ?_ (fun k hk => mU_ni _ _ _ _ hk)
      rw [mU_eq, e5]
      unfold s_plv
      rw [e2]
      omega
    · have ef : f_plucks M fe nn = M := by
        unfold f_plucks
        split
        · rfl
        · split
          · rfl
          · rename_i y1 y2
            rw [e2] at y2
            exfalso; omega
      rw [if_neg (fun z => q2 z.2), ef]
      exact h
  · have ef : f_plucks M fe nn = M := by
      unfold f_plucks
      split
      · rfl
      · exfalso; omega
    refine ⟨?_, ?_⟩
    · rw [if_neg q]
      unfold s_plucks
      split
      · rfl
      · exfalso; omega
    · rw [if_neg (fun z => q z.1), ef]
      exact h
theorem R_undo {V M : Nat → Nat → Int} (hI : mI M) (h : cR V M) : (if 1 ≤ V 31 1 then V 31 1 - 1 else -2) = s_undo M ∧ cR (if 1 ≤ V 31 1 then f_brg V 31 39 else V) (f_undo M) := by
  obtain ⟨a, b, c⟩ := h.2.2.2.2.1
  have e1 : V 31 1 = M 20 0 := c.1
  have h20 := (mI_now hI).2.2.2.2.2.2.2.1
  rw [e1]
  refine ⟨by unfold s_undo; omega, ?_⟩
  by_cases q : 1 ≤ M 20 0
  · rw [if_pos q]
    unfold f_undo
    rw [if_neg (show ¬ M 20 0 = 0 by omega)]
    obtain ⟨n, hn⟩ : ∃ n : Nat, M 20 0 = (n : Int) + 1 := ⟨Int.toNat (M 20 0 - 1), by omega⟩
    have en : (M 20 0 - 1).toNat = n := by omega
    rw [en]
    obtain ⟨s, hs⟩ : ∃ s, s = Int.toNat (V 32 n) := ⟨_, rfl⟩
    have m := b.mo31 (j := n) (by omega)
    rw [← hs] at m
    have hm := m.1
    unfold isMo at hm
    have eW : f_brg V 31 39 = f_bec (mU V 31 1 (M 20 0 - 1)) 39 s := by
      unfold f_brg
      rw [if_pos (by omega), e1, mU_eq, mU_or _ _ _ (by omega), show Int.toNat (M 20 0 - 1) = n by omega, show (31 + 1 : Nat) = 32 from rfl, ← hs]
    obtain ⟨U, hU⟩ : ∃ U, U = mU V 31 1 (M 20 0 - 1) := ⟨_, rfl⟩
    rw [eW, ← hU]
    have uo : ∀ g, g ≠ 31 → U g = V g := fun g hg => by rw [hU, mU_or _ _ _ hg]
    have wo : ∀ g, g < 39 ∨ 43 < g → f_bec U 39 s g = U g := fun g hg => f_bec_o _ (by omega)
    obtain ⟨N, hN⟩ : ∃ N, N = f_blk (f_undo1 M) 19 21 0 (29 * n) 29 := ⟨_, rfl⟩
    rw [← hN]
    have n19 : ∀ k, k < 29 → N 19 k = M 21 (29 * n + k) := fun k hk => by
      rw [hN]
      have t : f_blk (f_undo1 M) 19 21 0 (29 * n) 29 19 k = f_undo1 M 21 (29 * n + (k - 0)) := if_pos ⟨rfl, by omega, by omega⟩
      rw [t]; rfl
    have no : ∀ f, f ≠ 19 → N f = f_undo1 M f := fun f hf => by rw [hN, f_blk_o _ _ _ _ _ hf]
    have no2 : ∀ f, f ≠ 19 → f ≠ 20 → N f = M f := fun f hf h2 => by rw [no f hf]; exact mU_or _ _ _ h2
    have n20 : N 20 0 = M 20 0 - 1 := by rw [no 20 (by decide)]; exact mU_eq _ _ _ _
    refine cR_now hI h (fun g hg => by rw [wo g (by omega), uo g (by omega)]) (fun f h1 h2 _ => no2 f h1 h2) (fun k hk => by rw [no 20 (by decide)]; exact mU_ni _ _ _ _ (by omega)) (fun k hk => by rw [no2 21 (by decide) (by decide)]) ?_
    unfold nR
    rw [no2 5 (by decide) (by decide), no2 21 (by decide) (by decide), n20]
    have x := c.2 n (by omega)
    rw [show (31 + 1 : Nat) = 32 from rfl, ← hs] at x
    have x2 : moR U s (fun k => M 21 (0 + 29 * n + k)) (M 5 0) := x.of (fun k hk => uo _ (by omega))
    have p12 := mI_12p hI (j := n) (by omega)
    refine ⟨(moR_bec isMo_39 m.1 (by omega) x2 p12).v p12 (fun k hk => ?_), ⟨⟨?_, ?_⟩, ?_⟩, ?_, fun j hj => ?_⟩
    · show N 19 k = M 21 (0 + 29 * n + k)
      rw [n19 k hk, Nat.zero_add]
    · rw [wo 31 (by omega), hU, mU_eq]; omega
    · rw [wo _ (by omega), uo _ (by omega)]; exact b.1.2
    · rw [wo _ (by omega), uo _ (by omega)]; exact b.2
    · rw [wo 31 (by omega), hU, mU_eq]
    · rw [wo _ (by omega), uo _ (by omega), show (31 + 1 : Nat) = 32 from rfl]
      have mj := b.mo31 (j := j) (by omega)
      have hj2 := mj.1
      unfold isMo at hj2
      exact (c.2 j (by omega)).of (fun k hk => by rw [wo _ (by omega), uo _ (by omega)])
  · rw [if_neg q]
    unfold f_undo
    rw [if_pos (show M 20 0 = 0 by omega)]
    exact h
-- what is told, by number
theorem cR.pe {V M : Nat → Nat → Int} (h : cR V M) {k : Int} (hk : 0 ≤ k ∧ k < M 2 0) : V (Int.toNat (V 0 3) + 1) (Int.toNat k) = M 3 (Int.toNat k) ∧ V (Int.toNat (V 0 3) + 2) (Int.toNat k) = M 4 (Int.toNat k) := h.1.2.2.2.2.2.2.2.1 _ (by omega)
theorem cR.sy {V M : Nat → Nat → Int} (h : cR V M) {k : Int} (hk : 0 ≤ k ∧ k < M 5 0) : V (Int.toNat (V 0 3) + 3) (Int.toNat k) = M 6 (Int.toNat k) ∧ V (Int.toNat (V 0 3) + 4) (Int.toNat k) = M 7 (Int.toNat k) ∧ V (Int.toNat (V 0 3) + 5) (Int.toNat k) = M 8 (Int.toNat k) := h.1.2.2.2.2.2.2.2.2.1 _ (by omega)
theorem cR.ne {V M : Nat → Nat → Int} (h : cR V M) : V (Int.toNat (V 0 3)) 7 = M 2 0 ∧ V (Int.toNat (V 0 3)) 8 = M 5 0 := ⟨h.1.2.2.2.1, h.1.2.2.2.2.1⟩
theorem cR.kn {V M : Nat → Nat → Int} (h : cR V M) {p s : Int} (hp : 0 ≤ p ∧ p < 6) (hs : 0 ≤ s ∧ s < 6) : V 41 (Int.toNat p) / zp s % 2 = if s < M 5 0 then M 19 (Int.toNat (6 + s)) / zp p % 2 else 0 := by
  obtain ⟨n, rfl⟩ := Int.eq_ofNat_of_zero_le hp.1
  obtain ⟨k, rfl⟩ := Int.eq_ofNat_of_zero_le hs.1
  have a := (h.2.2.2.2.1.1.2.2.2.2.1 n (by omega)).2 k (by omega)
  rw [show Int.toNat (6 + (k : Int)) = 6 + k by omega, Int.toNat_natCast]
  exact a
theorem cR.wind {V M : Nat → Nat → Int} (hI : mI M) (h : cR V M) {n : Int} (hn : 0 ≤ n) : c_wind V n = s_wind M n := by
  obtain ⟨-, -, -, t1, t2, t3, t4, t5, t6, t7⟩ := h.1
  have e0 : V 39 0 = M 19 0 := h.2.2.2.2.1.1.1
  have b := mI_now hI
  have q := z_mod (x := M 19 0 + n) (y := M 9 0) (by omega)
  unfold c_wind s_wind
  rw [t4, e0]
  exact t7 _ (by omega)
theorem z_sh {fe nn sd : Int} (h1 : 0 ≤ fe ∧ fe ≤ 3) (h2 : 0 ≤ nn ∧ nn ≤ 3) (h3 : 0 ≤ sd ∧ sd ≤ 1) : (100 * fe + 10 * nn + sd) / 100 = fe ∧ (100 * fe + 10 * nn + sd) / 10 % 10 = nn ∧ (100 * fe + 10 * nn + sd) % 10 = sd := by omega
/-- where a saying lands, in class and reference -/
theorem cR.la {V M : Nat → Nat → Int} (h : cR V M) {pe sy : Int} (hp : 0 ≤ pe ∧ pe < M 2 0) (hs : 0 ≤ sy ∧ sy < M 5 0) (sh bw : Int) : c_la V pe sy sh bw = s_land (M 3 (Int.toNat pe)) (M 7 (Int.toNat sy)) (M 6 (Int.toNat sy)) (M 19 1) (sh / 100) (sh / 10 % 10) (sh % 10) bw := by
  have a := h.pe hp
  have b := h.sy hs
  have d : V 39 1 = M 19 1 := h.2.2.2.2.1.1.2.1
  unfold c_la
  rw [a.1, b.1, b.2.1, d]
theorem s_heN_cong {p1 e1 p2 e2 : Nat → Int} (sp but : Int) : ∀ k : Nat, (∀ j, j < k → p1 j = p2 j ∧ e1 j = e2 j) → s_heN p1 e1 sp but k = s_heN p2 e2 sp but k
  | 0, _ => rfl
  | k + 1, h => by
    have ih := s_heN_cong sp but k (fun j hj => h j (by omega))
    have a := h k (by omega)
    simp only [s_heN]
    rw [ih, a.1, a.2]
theorem cR.he {V M : Nat → Nat → Int} (h : cR V M) (but sp : Int) : c_heN V but sp = s_hearers M sp but := by
  unfold c_heN s_hearers
  rw [h.ne.1]
  exact s_heN_cong sp but _ (fun j hj => h.1.2.2.2.2.2.2.2.1 j (by omega))
-- lets
theorem f_know_lo (M : Nat → Nat → Int) {f : Nat} (h1 : f ≠ 20) (h2 : f ≠ 21) : f_know M f = M f := f_know_o M h1 h2
theorem s_lsp_eq (M : Nat → Nat → Int) (pe sy fe nn sd : Int) (hf : 0 ≤ fe) : s_lsp M pe sy fe nn sd = s_ln M pe sy fe nn sd := by
  have e : ∀ f, f ≠ 19 → f ≠ 20 → f ≠ 21 → f_lt1 M fe nn f = M f := fun f h1 h2 h3 => by unfold f_lt1; rw [mU_or _ _ _ h1, f_know_o M h2 h3]
  have e19 : ∀ k, k < 2 → f_lt1 M fe nn 19 k = M 19 k := fun k hk => by unfold f_lt1; rw [mU_ni _ _ _ _ (by omega), f_know_o M (by decide) (by decide)]
  unfold s_lsp s_ln s_wind
  rw [e 3 (by decide) (by decide) (by decide), e 6 (by decide) (by decide) (by decide), e 7 (by decide) (by decide) (by decide), e 9 (by decide) (by decide) (by decide), e 10 (by decide) (by decide) (by decide), e19 0 (by decide), e19 1 (by decide)]
theorem s_lst_eq (M : Nat → Nat → Int) (pe sy fe nn sd : Int) (hf : 0 ≤ fe) : s_lst M pe sy fe nn sd = s_hearers M (s_ln M pe sy fe nn sd) pe := by
  have e : ∀ f, f ≠ 19 → f ≠ 20 → f ≠ 21 → f_lt1 M fe nn f = M f := fun f h1 h2 h3 => by unfold f_lt1; rw [mU_or _ _ _ h1, f_know_o M h2 h3]
  unfold s_lst s_hearers
  rw [s_lsp_eq M pe sy fe nn sd hf, e 2 (by decide) (by decide) (by decide), e 3 (by decide) (by decide) (by decide), e 4 (by decide) (by decide) (by decide)]
theorem f_take_row (M : Nat → Nat → Int) (ii : Nat) : f_take M (ii : Int) 19 12 = M 19 12 - 1 ∧ (∀ k, k < 12 → f_take M (ii : Int) 19 k = M 19 k) ∧ (∀ k : Nat, k < 7 → f_take M (ii : Int) 19 (13 + k) = (if ii ≤ k then M 19 (13 + k + 1) else M 19 (13 + k)) ∧ f_take M (ii : Int) 19 (21 + k) = (if ii ≤ k then M 19 (21 + k + 1) else M 19 (21 + k))) := by
  have t : ∀ k, k ≠ 12 → k ≠ 20 → k ≠ 28 → f_take M (ii : Int) 19 k = f_tk M ii 7 19 k := fun k h1 h2 h3 => by
    unfold f_take f_take1
    rw [mU_ni _ _ _ _ h1, mU_ni _ _ _ _ h3, mU_ni _ _ _ _ h2, Int.toNat_natCast]
  refine ⟨f_take_12 M _, fun k hk => ?_, fun k hk => ⟨?_, ?_⟩⟩
  · rw [t k (by omega) (by omega) (by omega)]
    unfold f_tk
    rw [if_neg (by omega), if_neg (by omega)]
  · rw [t _ (by omega) (by omega) (by omega)]
    unfold f_tk
    by_cases q : ii ≤ k
    · rw [if_pos ⟨rfl, by omega, by omega⟩, if_pos q]
    · rw [if_neg (by omega), if_neg (by omega), if_neg q]
  · rw [t _ (by omega) (by omega) (by omega)]
    unfold f_tk
    by_cases q : ii ≤ k
    · rw [if_neg (by omega), if_pos ⟨rfl, by omega, by omega⟩, if_pos q]
    · rw [if_neg (by omega), if_neg (by omega), if_neg q]
theorem moR_take {V M : Nat → Nat → Int} {S : Int} {ii : Nat} (h : moR V 39 (M 19) S) (h12 : (ii : Int) < M 19 12 ∧ M 19 12 ≤ 8) : moR (f_rmv V 39 (ii : Int)) 39 (f_take M (ii : Int) 19) S := by
  obtain ⟨a, b, c⟩ := f_take_row M ii
  exact moR_rmv h h12 a b (fun k hk => c k (by omega))
theorem moR_lt3 {V M : Nat → Nat → Int} {S sy sp : Int} {n : Nat} (h : moR V 39 (M 19) S) (h12 : M 19 12 = (n : Int)) (hn : n < 8) : moR (mU (mU (mU V 42 n sy) 43 n sp) 39 2 (V 39 2 + 1)) 39 (f_lt3 M sy sp 19) S := by
  have e13 : Int.toNat (13 + M 19 12) = 13 + n := by omega
  obtain ⟨A, hA⟩ : ∃ A, A = mU M 19 (13 + n) sy := ⟨_, rfl⟩
  have eA : f_lta M sy = A := by unfold f_lta; rw [e13, hA]
  have a12 : A 19 12 = M 19 12 := by rw [hA, mU_ni _ _ _ _ (by omega)]
  obtain ⟨B, hB⟩ : ∃ B, B = mU A 19 (21 + n) sp := ⟨_, rfl⟩
  have eB : f_ltb A sp = B := by unfold f_ltb; rw [a12, show Int.toNat (21 + M 19 12) = 21 + n by omega, hB]
  have b12 : B 19 12 = M 19 12 := by rw [hB, mU_ni _ _ _ _ (by omega), a12]
  have eN : f_lt3 M sy sp = mU B 19 12 (M 19 12 + 1) := by unfold f_lt3 f_ltc; rw [eA, eB, b12]
  rw [eN]
  have o : ∀ k, k ≠ 12 → mU B 19 12 (M 19 12 + 1) 19 k = B 19 k := fun k hk => mU_ni _ _ _ _ hk
  have ob : ∀ k, k ≠ 21 + n → k ≠ 13 + n → B 19 k = M 19 k := fun k h1 h2 => by rw [hB, mU_ni _ _ _ _ h1, hA, mU_ni _ _ _ _ h2]
  refine moR_add h h12 hn (mU_eq _ _ _ _) (fun k hk => ?_) ?_ ?_ (fun k hk => ⟨?_, ?_⟩)
  · rw [o _ (by omega), ob _ (by omega) (by omega)]
  · rw [o _ (by omega), hB, mU_ni _ _ _ _ (by omega), hA, mU_eq]
  · rw [o _ (by omega), hB, mU_eq]
  · rw [o _ (by omega), ob _ (by omega) (by omega)]
  · rw [o _ (by omega), ob _ (by omega) (by omega)]
theorem f_ads_eq {V : Nat → Nat → Int} {i n : Nat} (hi : isMo i) (sy sp : Int) (hn : f_ad1 V i i 2 = (n : Int)) : f_ads V i sy sp = mU (mU (mU (f_ad1 V i) (i + 3) n sy) (i + 4) n sp) i 2 (f_ad1 V i i 2 + 1) := by
  unfold f_ads
  have e1 : mU (f_ad1 V i) (i + 3) (Int.toNat (f_ad1 V i i 2)) sy i 2 = f_ad1 V i i 2 := mU_nf _ _ _ _ (by omega)
  have e2 : mU (mU (f_ad1 V i) (i + 3) (Int.toNat (f_ad1 V i i 2)) sy) (i + 4) (Int.toNat (mU (f_ad1 V i) (i + 3) (Int.toNat (f_ad1 V i i 2)) sy i 2)) sp i 2 = f_ad1 V i i 2 := by rw [mU_nf _ _ _ _ (by omega), e1]
  show mU (mU (mU (f_ad1 V i) (i + 3) (Int.toNat (f_ad1 V i i 2)) sy) (i + 4) (Int.toNat (mU (f_ad1 V i) (i + 3) (Int.toNat (f_ad1 V i i 2)) sy i 2)) sp) i 2 (mU (mU (f_ad1 V i) (i + 3) (Int.toNat (f_ad1 V i i 2)) sy) (i + 4) (Int.toNat (mU (f_ad1 V i) (i + 3) (Int.toNat (f_ad1 V i i 2)) sy i 2)) sp i 2 + 1) = _
  rw [e2, e1, hn, Int.toNat_natCast]
theorem moR_ads {V M : Nat → Nat → Int} {S sy sp : Int} (h : moR V 39 (M 19) S) (h12 : 0 ≤ M 19 12 ∧ M 19 12 ≤ 8) : moR (f_ads V 39 sy sp) 39 (f_lt3 (if M 19 12 = 8 then f_take M 0 else M) sy sp 19) S := by
  have e2 : V 39 2 = M 19 12 := h.2.2.1
  by_cases q : M 19 12 = 8
  · rw [if_pos q]
    have x := moR_take (ii := 0) h (by omega)
    have t := (f_take_row M 0).1
    have ea : f_ad1 V 39 = f_rmv V 39 ((0 : Nat) : Int) := by unfold f_ad1; rw [if_pos (by omega)]; rfl
    have e7 : f_ad1 V 39 39 2 = ((7 : Nat) : Int) := by
      rw [ea]
      unfold f_rmv
      rw [mU_eq, f_rmN_i]; omega
    rw [f_ads_eq isMo_39 sy sp e7, ea]
    exact moR_lt3 (M := f_take M ((0 : Nat) : Int)) x (by rw [t]; omega) (by omega)
  · rw [if_neg q]
    obtain ⟨n, hn⟩ := Int.eq_ofNat_of_zero_le h12.1
    have ea : f_ad1 V 39 = V := by unfold f_ad1; rw [if_neg (by omega)]
    rw [f_ads_eq (n := n) isMo_39 sy sp (by rw [ea]; omega), ea]
    exact moR_lt3 h hn (by omega)
theorem f_ads_o (V : Nat → Nat → Int) (sy sp : Int) {g : Nat} (h1 : g ≠ 39) (h2 : g ≠ 42) (h3 : g ≠ 43) : f_ads V 39 sy sp g = V g := by
  unfold f_ads
  show mU _ 39 2 _ g = V g
  rw [mU_or _ _ _ h1, mU_or _ _ _ (by omega), mU_or _ _ _ (by omega)]
  unfold f_ad1
  split
  · exact f_rmv_o V _ h1 (by omega) (by omega)
  · rfl
theorem R_lets {V M : Nat → Nat → Int} (hI : mI M) (h : cR V M) (pe sy fe nn sd : Int) : c_letR V pe sy fe nn sd = s_lets M pe sy fe nn sd ∧ cR (c_letS V pe sy fe nn sd) (f_lets M pe sy fe nn sd) := by
  have b := mI_now hI
  have ok : c_lok V pe sy fe nn sd ↔ s_lok M pe sy fe nn sd := by unfold c_lok s_lok; rw [h.ne.1, h.ne.2]
  by_cases q : s_lok M pe sy fe nn sd
  · have q2 := ok.mpr q
    obtain ⟨l1, l2, l3, l4, l5⟩ := id q
    obtain ⟨s, hs⟩ := Int.eq_ofNat_of_zero_le l2.1
    obtain ⟨f, hf⟩ := Int.eq_ofNat_of_zero_le l3.1
    have ef : Int.toNat fe = f := by omega
    have ef2 : Int.toNat (2 + fe) = 2 + f := by omega
    have es : Int.toNat (6 + sy) = 6 + s := by omega
    have go : c_lgo V pe sy fe nn ↔ s_lgo M pe sy fe nn := by
      have a := h.kn (p := pe) (s := sy) (by omega) (by omega)
      have c : V 40 f = M 19 (2 + f) := h.2.2.2.2.1.1.2.2.2.1 f (by omega)
      unfold c_lgo s_lgo
      rw [a, if_pos l2.2, ef, ef2, c]
    by_cases g : s_lgo M pe sy fe nn
    · have g2 := go.mpr g
      have r1 : c_letR V pe sy fe nn sd = c_lh V pe sy fe nn sd := by unfold c_letR; rw [if_pos q2, if_pos g2]
      have r2 : s_lets M pe sy fe nn sd = s_lst M pe sy fe nn sd := by unfold s_lets; rw [if_neg (fun z => z q), if_neg (fun z => z g)]
      have r3 : c_letS V pe sy fe nn sd = c_lts V sy fe nn (c_lh V pe sy fe nn sd) (c_ll V pe sy fe nn sd) := by unfold c_letS; rw [if_pos ⟨q2, g2⟩]
      have r4 : f_lets M pe sy fe nn sd = if s_lst M pe sy fe nn sd = 0 ∧ s_lsp M pe sy fe nn sd ≠ -9 then f_lt3 (if f_lt2 M pe sy fe nn sd 19 12 = 8 then f_take (f_lt2 M pe sy fe nn sd) 0 else f_lt2 M pe sy fe nn sd) sy (s_lsp M pe sy fe nn sd) else f_lt2 M pe sy fe nn sd := by unfold f_lets; rw [if_neg (fun z => z q), if_neg (fun z => z g)]
      rw [r1, r2, r3, r4]
      have z := z_sh l3 l4 l5
      have eL : c_ll V pe sy fe nn sd = s_lsp M pe sy fe nn sd := by
        unfold c_ll
        rw [h.la l1 l2, z.1, z.2.1, z.2.2, h.wind hI (by omega), s_lsp_eq M pe sy fe nn sd l3.1]
        rfl
      have eH : c_lh V pe sy fe nn sd = s_lst M pe sy fe nn sd := by
        unfold c_lh
        rw [eL, h.he, s_lst_eq M pe sy fe nn sd l3.1, s_lsp_eq M pe sy fe nn sd l3.1]
      have hb : 0 ≤ s_lst M pe sy fe nn sd ∧ s_lst M pe sy fe nn sd < 64 := by
        rw [s_lst_eq M pe sy fe nn sd l3.1]
        exact s_hearers_bd _ _ _ b.2.1.2
      rw [eH, eL]
      refine ⟨rfl, ?_⟩
      -- what is known, the feathers, who is told
      have hk := cR_know hI h
      have hIk := mI_know hI
      have hm := hk.2.2.2.2.1.1
      have e5 : f_know M 5 = M 5 := f_know_o M (by decide) (by decide)
      have e19 : f_know M 19 = M 19 := f_know_o M (by decide) (by decide)
      obtain ⟨K, hK9⟩ : ∃ K, K = f_rem V 31 39 := ⟨_, rfl⟩
      obtain ⟨L, hL9⟩ : ∃ L, L = f_know M := ⟨_, rfl⟩
      rw [← hK9, ← hL9] at hk hm
      rw [← hL9] at hIk e5 e19
      have c40 : K 40 f = L 19 (2 + f) := hm.2.2.2.1 f (by omega)
      have eA : c_lt1 V fe nn = mU K 40 f (L 19 (2 + f) - nn) := by unfold c_lt1; rw [← hK9, ef, c40]
      have eB : f_lt1 M fe nn = mU L 19 (2 + f) (L 19 (2 + f) - nn) := by unfold f_lt1; rw [← hL9, ef2]
      obtain ⟨A, hA⟩ : ∃ A, A = c_lt1 V fe nn := ⟨_, rfl⟩
      obtain ⟨B, hB⟩ : ∃ B, B = f_lt1 M fe nn := ⟨_, rfl⟩
      rw [← hA] at eA
      rw [← hB] at eB
      have m1 : moR A 39 (B 19) (L 5 0) := by
        rw [eA, eB]
        exact moR_fea (by omega) hm _ (mU_eq _ _ _ _) (fun k hk => mU_ni _ _ _ _ hk)
      have b6 : B 19 (6 + s) = M 19 (6 + s) := by rw [eB, mU_ni _ _ _ _ (by omega), e19]
      have k6 := mI_kn hI (k := sy) (by omega)
      rw [es] at k6
      have hsS : (s : Int) < L 5 0 := by rw [e5]; omega
      have hS6 : L 5 0 ≤ 6 := by rw [e5]; exact b.2.2.1.2
      obtain ⟨E, hE⟩ : ∃ E, E = f_lt2 M pe sy fe nn sd := ⟨_, rfl⟩
      have eE : E = mU B 19 (6 + s) (zor (B 19 (6 + s)) (s_lst M pe sy fe nn sd)) := by rw [hE]; unfold f_lt2; rw [← hB, es]
      have m2 : moR (f_tel A 39 (s_lst M pe sy fe nn sd) sy) 39 (E 19) (L 5 0) := by
        rw [eE]
        have t := moR_tel (pe := s_lst M pe sy fe nn sd) (w := mU B 19 (6 + s) (zor (B 19 (6 + s)) (s_lst M pe sy fe nn sd)) 19) hsS hS6 hb.1 (by rw [b6]; exact k6.1) m1 (mU_eq _ _ _ _) (fun k hk => mU_ni _ _ _ _ hk)
        rw [← hs] at t
        exact t
      have eo : ∀ x, x ≠ 19 → E x = L x := fun x hx => by rw [eE, mU_or _ _ _ hx, eB, mU_or _ _ _ hx]
      have ao : ∀ g, ¬ (39 ≤ g ∧ g < 44) → f_tel A 39 (s_lst M pe sy fe nn sd) sy g = K g := fun g hg => by rw [f_tel_o _ _ _ (by omega), eA, mU_or _ _ _ (by omega)]
      rw [← hE]
      unfold c_lts
      rw [← hA]
      by_cases w : s_lst M pe sy fe nn sd = 0 ∧ s_lsp M pe sy fe nn sd ≠ -9
      · rw [if_pos w, if_pos w]
        have e12 : E 19 12 = M 19 12 := by rw [eE, mU_ni _ _ _ _ (by omega), eB, mU_ni _ _ _ _ (by omega), e19]
        refine cR_mom hIk hk (fun g hg => by rw [f_ads_o _ _ _ (by omega) (by omega) (by omega)]; exact ao g hg) (fun x hx => ?_) (moR_ads m2 (by rw [e12]; exact b.2.2.2.2.2.2.1))
        unfold f_lt3 f_ltc f_ltb f_lta
        rw [mU_or _ _ _ hx, mU_or _ _ _ hx, mU_or _ _ _ hx]
        split
        · rw [f_take_o _ _ hx]; exact eo x hx
        · exact eo x hx
      · rw [if_neg w, if_neg w]
        exact cR_mom hIk hk ao eo m2
    · have g2 : ¬ c_lgo V pe sy fe nn := fun z => g (go.mp z)
      have r1 : c_letR V pe sy fe nn sd = -2 := by unfold c_letR; rw [if_pos q2, if_neg g2]
      have r2 : s_lets M pe sy fe nn sd = -2 := by unfold s_lets; rw [if_neg (fun z => z q), if_pos g]
      have r3 : c_letS V pe sy fe nn sd = V := by unfold c_letS; rw [if_neg (fun z => g2 z.2)]
      have r4 : f_lets M pe sy fe nn sd = M := by unfold f_lets; rw [if_neg (fun z => z q), if_pos g]
      rw [r1, r2, r3, r4]
      exact ⟨rfl, h⟩
  · have q2 : ¬ c_lok V pe sy fe nn sd := fun z => q (ok.mp z)
    have r1 : c_letR V pe sy fe nn sd = -1 := by unfold c_letR; rw [if_neg q2]
    have r2 : s_lets M pe sy fe nn sd = -1 := by unfold s_lets; rw [if_pos q]
    have r3 : c_letS V pe sy fe nn sd = V := by unfold c_letS; rw [if_neg (fun z => q2 z.1)]
    have r4 : f_lets M pe sy fe nn sd = M := by unfold f_lets; rw [if_pos q]
    rw [r1, r2, r3, r4]
    exact ⟨rfl, h⟩
theorem zfind_cong {b d : Int → Bool} {T : Int} (hb : ∀ i, 0 ≤ i → i < T → b i = d i) : ∀ (n : Nat) (i : Int), 0 ≤ i → i + n ≤ T → zfind b n i = zfind d n i
  | 0, _, _, _ => rfl
  | n + 1, i, h0, hn => by
    have ih := zfind_cong hb n (i + 1) (by omega) (by omega)
    simp only [zfind]
    rw [hb i h0 (by omega), ih]
theorem R_picks {V M : Nat → Nat → Int} (hI : mI M) (h : cR V M) (pe : Int) : c_pkR V pe = s_picks M pe ∧ cR (c_pkS V pe) (f_picks M pe) := by
  have b := mI_now hI
  by_cases q : 0 ≤ pe ∧ pe < M 2 0
  · have q2 : 0 ≤ pe ∧ pe < V (Int.toNat (V 0 3)) 7 := by rw [h.ne.1]; exact q
    have hm0 := h.2.2.2.2.1.1
    have e2 : V 39 2 = M 19 12 := hm0.2.2.1
    have ef : c_fnd V pe = s_fnd M pe := by
      unfold c_fnd s_fnd
      rw [e2, (h.pe q).1, show M 19 12 - 0 = M 19 12 by omega]
      refine zfind_cong (T := M 19 12) (fun i i0 i1 => ?_) _ 0 (by omega) (by omega)
      have a : V 43 (Int.toNat i) = M 19 (21 + Int.toNat i) := (hm0.2.2.2.2.2 (Int.toNat i) (by omega)).2
      rw [a, show Int.toNat (21 + i) = 21 + Int.toNat i by omega]
    have bd := zfind_bd2 (fun q => decide (M 19 (Int.toNat (21 + q)) = M 3 (Int.toNat pe))) (M 19 12 - 0).toNat 0 (by omega)
    have bd2 : s_fnd M pe = -9 ∨ (0 ≤ s_fnd M pe ∧ s_fnd M pe < M 19 12) := by
      unfold s_fnd
      omega
    by_cases g : s_fnd M pe = -9
    · have r1 : c_pkR V pe = -2 := by unfold c_pkR; rw [if_pos q2, if_neg (by omega)]
      have r2 : s_picks M pe = -2 := by unfold s_picks; rw [if_neg (fun z => z q), if_pos g]
      have r3 : c_pkS V pe = V := by unfold c_pkS; rw [if_neg (fun z => by omega)]
      have r4 : f_picks M pe = M := by unfold f_picks; rw [if_neg (fun z => z q), if_pos g]
      rw [r1, r2, r3, r4]
      exact ⟨rfl, h⟩
    · have r1 : c_pkR V pe = V 42 (Int.toNat (s_fnd M pe)) := by unfold c_pkR; rw [if_pos q2, if_pos (by omega), ef]
      have r2 : s_picks M pe = M 19 (Int.toNat (13 + s_fnd M pe)) := by unfold s_picks; rw [if_neg (fun z => z q), if_neg g]
      have r3 : c_pkS V pe = f_tel (f_rmv (f_rem V 31 39) 39 (s_fnd M pe)) 39 (zp pe) (f_rem V 31 39 42 (Int.toNat (s_fnd M pe))) := by unfold c_pkS; rw [if_pos ⟨q2, by omega⟩, ef]
      have r4 : f_picks M pe = f_pk (f_know M) (f_know M 19 (Int.toNat (13 + s_fnd M pe))) pe (s_fnd M pe) := by unfold f_picks; rw [if_neg (fun z => z q), if_neg g]
      rw [r1, r2, r3, r4]
      obtain ⟨n, hn⟩ : ∃ n : Nat, s_fnd M pe = (n : Int) := ⟨Int.toNat (s_fnd M pe), by omega⟩
      rw [hn]
      have e13 : Int.toNat (13 + (n : Int)) = 13 + n := by omega
      rw [e13, Int.toNat_natCast]
      have x := (hm0.2.2.2.2.2 n (by omega)).1
      refine ⟨x, ?_⟩
      have hk := cR_know hI h
      have hIk := mI_know hI
      have hm := hk.2.2.2.2.1.1
      have e19 : f_know M 19 = M 19 := f_know_o M (by decide) (by decide)
      have e5 : f_know M 5 = M 5 := f_know_o M (by decide) (by decide)
      have v := (mI_v hI).2.2.2.2.2.1 n (by omega)
      obtain ⟨s, hs⟩ := Int.eq_ofNat_of_zero_le v.1.1
      have e42 : f_rem V 31 39 42 n = (s : Int) := by
        have y := (hm.2.2.2.2.2 n (by rw [e19]; omega)).1
        rw [e19] at y
        exact y.trans hs
      rw [e42, e19, hs]
      unfold f_pk
      rw [show Int.toNat (6 + (s : Int)) = 6 + s by omega]
      have k6 := mI_kn hI (k := (s : Int)) (by omega)
      rw [show Int.toNat (6 + (s : Int)) = 6 + s by omega] at k6
      have r1 : moR (f_rmv (f_rem V 31 39) 39 (n : Int)) 39 (f_take (f_know M) (n : Int) 19) (f_know M 5 0) := moR_take hm (by rw [e19]; omega)
      obtain ⟨t1, t2, t3⟩ := f_take_row (f_know M) n
      obtain ⟨u1, u2, u3⟩ := f_take_row (mU (f_know M) 19 (6 + s) (zor (f_know M 19 (6 + s)) (zp pe))) n
      have hU : ∀ k, k ≠ 6 + s → mU (f_know M) 19 (6 + s) (zor (f_know M 19 (6 + s)) (zp pe)) 19 k = f_know M 19 k := fun k hk => mU_ni _ _ _ _ hk
      have r2 : moR (f_tel (f_rmv (f_rem V 31 39) 39 (n : Int)) 39 (zp pe) (s : Int)) 39 (fun k => if k = 6 + s then zor (f_know M 19 (6 + s)) (zp pe) else f_take (f_know M) (n : Int) 19 k) (f_know M 5 0) := by
        refine moR_tel (by rw [e5]; omega) (by rw [e5]; exact b.2.2.1.2) (zp_nn _) ?_ r1 ?_ (fun k hk => if_neg hk)
        · rw [t2 _ (by omega), e19]; exact k6.1
        · rw [if_pos rfl, t2 _ (by omega)]
      refine cR_mom hIk hk (fun g hg => ?_) (fun f hf => ?_) ?_
      · rw [f_tel_o _ _ _ (by omega), f_rmv_o _ _ (by omega) (by omega) (by omega)]
      · rw [f_take_o _ _ hf, mU_or _ _ _ hf]
      · obtain ⟨a1, a2, a3, a4, a5, a6⟩ := r2
        have s6 : s < 6 := by omega
        refine ⟨a1.trans ?_, a2.trans ?_, a3.trans ?_, fun k hk => (a4 k hk).trans ?_, fun p hp => ⟨(a5 p hp).1, fun s2 hs2 => ((a5 p hp).2 s2 hs2).trans ?_⟩, fun k hk => ?_⟩
        · show (if 0 = 6 + s then _ else f_take (f_know M) (n : Int) 19 0) = _
          rw [if_neg (by omega), t2 _ (by omega), u2 _ (by omega), hU _ (by omega)]
        · show (if 1 = 6 + s then _ else f_take (f_know M) (n : Int) 19 1) = _
          rw [if_neg (by omega), t2 _ (by omega), u2 _ (by omega), hU _ (by omega)]
        · show (if 12 = 6 + s then _ else f_take (f_know M) (n : Int) 19 12) = _
          rw [if_neg (by omega), t1, u1, hU _ (by omega)]
        · show (if 2 + k = 6 + s then _ else f_take (f_know M) (n : Int) 19 (2 + k)) = _
          rw [if_neg (by omega), t2 _ (by omega), u2 _ (by omega), hU _ (by omega)]
        · show (if (s2 : Int) < f_know M 5 0 then (if 6 + s2 = 6 + s then zor (f_know M 19 (6 + s)) (zp pe) else f_take (f_know M) (n : Int) 19 (6 + s2)) / zp (p : Int) % 2 else 0) = _
          rw [u2 _ (by omega), t2 _ (by omega)]
          by_cases y : s2 = s
          · subst y
            rw [if_pos rfl, mU_eq]
          · rw [if_neg (show ¬ 6 + s2 = 6 + s by omega), hU _ (by omega)]
        · rw [u1, hU _ (by omega)] at hk
          have k7 : k < 7 := by rw [e19] at hk; omega
          have y := a6 k (by show (k : Int) < (if 12 = 6 + s then _ else f_take (f_know M) (n : Int) 19 12); rw [if_neg (by omega), t1]; exact hk)
          rw [(u3 k k7).1, (u3 k k7).2, hU _ (by omega), hU _ (by omega), hU _ (by omega), hU _ (by omega)]
          refine ⟨y.1.trans ?_, y.2.trans ?_⟩
          · show (if 13 + k = 6 + s then _ else f_take (f_know M) (n : Int) 19 (13 + k)) = _
            rw [if_neg (by omega), (t3 k k7).1]
          · show (if 21 + k = 6 + s then _ else f_take (f_know M) (n : Int) 19 (21 + k)) = _
            rw [if_neg (by omega), (t3 k k7).2]
  · have q2 : ¬ (0 ≤ pe ∧ pe < V (Int.toNat (V 0 3)) 7) := by rw [h.ne.1]; exact q
    have r1 : c_pkR V pe = -1 := by unfold c_pkR; rw [if_neg q2]
    have r2 : s_picks M pe = -1 := by unfold s_picks; rw [if_pos q]
    have r3 : c_pkS V pe = V := by unfold c_pkS; rw [if_neg (fun z => q2 z.1)]
    have r4 : f_picks M pe = M := by unfold f_picks; rw [if_pos q]
    rw [r1, r2, r3, r4]
    exact ⟨rfl, h⟩
