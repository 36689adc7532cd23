/-! Now and past: what is known before a call. -/
theorem moR_bec {V : Nat → Nat → Int} {i j : Nat} (hi : isMo i) (hj : isMo j) (hne : j ≠ i) {v : Nat → Int} {S : Int} (h : moR V j v S) (h12 : v 12 ≤ 8) : moR (f_bec V i j) i v S := by
  obtain ⟨h1, h2, h3, h4, h5, h6⟩ := h
  have b0 := f_bec_0 V hne
  have b1 := f_bec_1 V hne hi hj
  have b2 := f_bec_2 V hne hi hj
  have b3 := f_bec_3 V hne hi hj
  have b4 := f_bec_4 V hne hi hj
  unfold moR
  rw [b0, b1, b2, b3, b4]
  refine ⟨h1, h2, h3, fun k hk => ?_, fun p hp => ?_, fun k hk => ?_⟩
  · show (if k < 4 then V (j + 1) k else V (i + 1) k) = v (2 + k)
    rw [if_pos hk]; exact h4 k hk
  · show (0 ≤ (if p < 6 then V (j + 2) p else V (i + 2) p) ∧ (if p < 6 then V (j + 2) p else V (i + 2) p) < 64) ∧ ∀ s : Nat, s < 6 → (if p < 6 then V (j + 2) p else V (i + 2) p) / zp (s : Int) % 2 = if (s : Int) < S then v (6 + s) / zp (p : Int) % 2 else 0
    rw [if_pos hp]; exact h5 p hp
  · show (if k < 8 then V (j + 3) k else V (i + 3) k) = v (13 + k) ∧ (if k < 8 then V (j + 4) k else V (i + 4) k) = v (21 + k)
    rw [if_pos (by omega), if_pos (by omega)]; exact h6 k hk
theorem moR_beo {V : Nat → Nat → Int} {i j g : Nat} (hi : isMo i) (hg : isMo g) (hne : g ≠ i) {v : Nat → Int} {S : Int} (h : moR V g v S) : moR (f_bec V i j) g v S :=
  h.of (fun k hk => f_bec_o V (by unfold isMo at hi hg; omega))
theorem nR_kn1 {V M : Nat → Nat → Int} (hI : mI M) (h : nR V M) : nR (f_re1 V 31) (f_kn1 M) := by
  obtain ⟨a, b, c⟩ := id h
  have b1 := b.1.1
  have e1 : V 31 1 = M 20 0 := c.1
  unfold f_re1 f_kn1
  by_cases q : M 20 0 = 10
  · rw [if_pos (by omega), if_pos q]
    obtain ⟨N, hN⟩ : ∃ N, N = mU (f_blk M 21 21 0 29 261) 20 0 (f_blk M 21 21 0 29 261 20 0 - 1) := ⟨_, rfl⟩
    rw [← hN]
    have n20 : N 20 0 = 9 := by rw [hN, mU_eq, f_blk_o _ _ _ _ _ (by decide), q]; rfl
    have no : ∀ f, f ≠ 20 → f ≠ 21 → N f = M f := fun f f1 f2 => by rw [hN, mU_or _ _ _ f1, f_blk_o _ _ _ _ _ f2]
    have n21 : ∀ k, N 21 k = if k < 261 then M 21 (29 + k) else M 21 k := fun k => by
      rw [hN, mU_nf _ _ _ _ (by decide)]
      unfold f_blk
      by_cases y : k < 261
      · rw [if_pos ⟨rfl, by omega, by omega⟩, if_pos y]; rfl
      · rw [if_neg (by omega), if_neg y]
    obtain ⟨p1, p2⟩ := f_los_pa b.1 (by omega)
    have w32 : ∀ k, k < 10 → f_los V 31 32 k = if k < 9 then V 32 (k + 1) else V 32 0 := fun k hk => by
      simp only [f_los]
      by_cases y : k < 9
      · rw [if_pos ⟨by decide, y⟩, if_pos y]
      · rw [if_neg (by omega), if_pos ⟨by decide, by omega⟩, if_neg y]
    have wo : ∀ g, g ≠ 31 → g ≠ 32 → f_los V 31 g = V g := fun g g1 g2 => f_los_o V g1 g2
    unfold nR
    rw [no 5 (by decide) (by decide), no 19 (by decide) (by decide), n20]
    refine ⟨a.of (fun k hk => wo _ (by omega) (by omega)), ⟨p1, fun j k hjk hk => ?_⟩, by rw [p2]; omega, fun j hj => ?_⟩
    · show ¬ Int.toNat (f_los V 31 32 j) = Int.toNat (f_los V 31 32 k)
      rw [w32 j (by omega), w32 k hk, if_pos (by omega)]
      by_cases y : k < 9
      · rw [if_pos y]
        exact b.ne31 (j := j + 1) (k := k + 1) (by omega) (by omega) (by omega)
      · rw [if_neg y]
        exact b.ne31 (j := j + 1) (k := 0) (by omega) (by omega) (by omega)
    · show moR (f_los V 31) (Int.toNat (f_los V 31 32 j)) _ _
      rw [w32 j (by omega), if_pos (by omega)]
      have m := b.mo31 (j := j + 1) (by omega)
      have x := c.2 (j + 1) (by omega)
      refine (x.v (mI_12p hI (by omega)) (w := fun k => N 21 (0 + 29 * j + k)) (fun k hk => ?_)).of (fun k hk => wo _ (by unfold isMo at m; omega) (by unfold isMo at m; omega))
      show N 21 (0 + 29 * j + k) = M 21 (0 + 29 * (j + 1) + k)
      rw [n21, if_pos (by omega)]
      congr 1; omega
  · rw [if_neg (by omega), if_neg q]
    exact h
theorem f_kn1_bd {M : Nat → Nat → Int} (hI : mI M) : (0 ≤ f_kn1 M 20 0 ∧ f_kn1 M 20 0 ≤ 9) ∧ (∀ j : Nat, (j : Int) < f_kn1 M 20 0 → f_kn1 M 21 (0 + 29 * j + 12) ≤ 8) := by
  have b := (mI_now hI).2.2.2.2.2.2.2.1
  rw [f_kn1_20]
  refine ⟨by omega, fun j hj => ?_⟩
  rw [f_kn1_21]
  by_cases q : M 20 0 = 10
  · rw [if_pos q] at hj
    rw [if_pos (by omega), show 29 + (0 + 29 * j + 12) = 0 + 29 * (j + 1) + 12 by omega]
    exact mI_12p hI (by omega)
  · rw [if_neg q] at hj
    rw [if_neg (by omega)]
    exact mI_12p hI hj
theorem nR_kn2 {U M : Nat → Nat → Int} (h : nR U M) (hn : 0 ≤ M 20 0 ∧ M 20 0 ≤ 9) (h12 : M 19 12 ≤ 8) (h12p : ∀ j : Nat, (j : Int) < M 20 0 → M 21 (0 + 29 * j + 12) ≤ 8) : nR (mU (f_bec U (Int.toNat (U 32 (Int.toNat (U 31 1)))) 39) 31 1 (f_bec U (Int.toNat (U 32 (Int.toNat (U 31 1)))) 39 31 1 + 1)) (f_kn2 M) := by
  obtain ⟨a, b, c⟩ := id h
  have e1 : U 31 1 = M 20 0 := c.1
  obtain ⟨n, hn2⟩ := Int.eq_ofNat_of_zero_le hn.1
  have en : Int.toNat (U 31 1) = n := by omega
  rw [en]
  obtain ⟨s, hs⟩ : ∃ s, s = Int.toNat (U 32 n) := ⟨_, rfl⟩
  rw [← hs]
  have m : isMo s ∧ 54 ≤ s ∧ s < 104 := by
    rw [hs]
    exact b.mo31 (by omega)
  have hm := m.1
  unfold isMo at hm
  obtain ⟨W, hW⟩ : ∃ W, W = mU (f_bec U s 39) 31 1 (f_bec U s 39 31 1 + 1) := ⟨_, rfl⟩
  rw [← hW]
  have w31 : W 31 1 = M 20 0 + 1 := by rw [hW, mU_eq, f_bec_o _ (by omega), e1]
  have wo : ∀ g, g ≠ 31 → W g = f_bec U s 39 g := fun g hg => by rw [hW, mU_or _ _ _ hg]
  have wlo : ∀ g, g ≠ 31 → g < 54 → W g = U g := fun g hg h2 => by rw [wo g hg, f_bec_o _ (by omega)]
  obtain ⟨N, hN⟩ : ∃ N, N = f_kn2 M := ⟨_, rfl⟩
  rw [← hN]
  have eN : N = mU (f_blk M 21 19 (29 * n) 0 29) 20 0 (M 20 0 + 1) := by
    rw [hN]
    unfold f_kn2
    rw [f_blk_o _ _ _ _ _ (by decide), show (M 20 0).toNat = n by omega]
  have n20 : N 20 0 = M 20 0 + 1 := by rw [eN, mU_eq]
  have no : ∀ f, f ≠ 20 → f ≠ 21 → N f = M f := fun f f1 f2 => by rw [eN, mU_or _ _ _ f1, f_blk_o _ _ _ _ _ f2]
  have n21 : ∀ k, N 21 k = if 29 * n ≤ k ∧ k < 29 * n + 29 then M 19 (k - 29 * n) else M 21 k := fun k => by
    rw [eN, mU_nf _ _ _ _ (by decide)]
    unfold f_blk
    by_cases y : 29 * n ≤ k ∧ k < 29 * n + 29
    · rw [if_pos ⟨rfl, y.1, y.2⟩, if_pos y, Nat.zero_add]
    · rw [if_neg (by omega), if_neg y]
  have bW : paS W 31 := by
    refine ⟨⟨by rw [w31]; omega, ?_⟩, ?_⟩
    · rw [wlo 32 (by omega) (by omega)]; exact b.1.2
    · rw [wlo 32 (by omega) (by omega)]; exact b.2
  unfold nR
  rw [no 5 (by decide) (by decide), no 19 (by decide) (by decide), n20]
  refine ⟨a.of (fun k hk => wlo _ (by omega) (by omega)), bW, w31, fun j hj => ?_⟩
  show moR W (Int.toNat (W 32 j)) _ _
  rw [wlo 32 (by omega) (by omega)]
  have mj := b.mo31 (j := j) (by omega)
  have hj2 := mj.1
  unfold isMo at hj2
  by_cases y : j = n
  · subst y
    rw [← hs]
    have x := moR_bec (V := U) (i := s) (j := 39) m.1 isMo_39 (by omega) a h12
    refine (x.v h12 (w := fun k => N 21 (0 + 29 * j + k)) (fun k hk => ?_)).of (fun k hk => wo _ (by omega))
    show N 21 (0 + 29 * j + k) = M 19 k
    rw [n21, if_pos (by omega)]
    congr 1; omega
  · have x := c.2 j (by omega)
    have ne : ¬ Int.toNat (U 32 j) = s := by rw [hs]; exact b.ne31 (by omega) (by omega) y
    have x2 := moR_beo (V := U) (i := s) (j := 39) m.1 mj.1 ne x
    refine (x2.v (h12p j (by omega)) (w := fun k => N 21 (0 + 29 * j + k)) (fun k hk => ?_)).of (fun k hk => wo _ (by omega))
    show N 21 (0 + 29 * j + k) = M 21 (0 + 29 * j + k)
    rw [n21, if_neg (by omega)]
theorem nR_know {V M : Nat → Nat → Int} (hI : mI M) (h : nR V M) : nR (f_rem V 31 39) (f_know M) := by
  have a := nR_kn1 hI h
  obtain ⟨b1, b2⟩ := f_kn1_bd hI
  exact nR_kn2 a b1 (by rw [f_kn1_19]; exact mI_12 hI) b2
/-- where now and past alone have changed -/
theorem cR_now {V W M N : Nat → Nat → Int} (hI : mI M) (h : cR V M) (hw : ∀ g, ¬ (g = 31 ∨ g = 32 ∨ (39 ≤ g ∧ g < 44) ∨ (54 ≤ g ∧ g < 104)) → W g = V g) (m : ∀ f, f ≠ 19 → f ≠ 20 → f ≠ 21 → N f = M f) (m20 : ∀ k, 0 < k → N 20 k = M 20 k) (m21 : ∀ k, 290 ≤ k → N 21 k = M 21 k) (hn : nR W N) : cR W N := by
  obtain ⟨ht, hx, hs, hi, hn0, htr⟩ := h
  have b := mI_now hI
  have h0 : W 0 = V 0 := hw 0 (by omega)
  have hto := ht.1
  unfold isTo at hto
  refine ⟨ht.of (by rw [h0]) (by rw [h0]) (fun k hk => hw _ (by omega)) (by rw [m 2 (by decide) (by decide) (by decide)]) (by rw [m 5 (by decide) (by decide) (by decide)]) (by rw [m 9 (by decide) (by decide) (by decide)]) (fun f hf k _ => by rw [m f (by omega) (by omega) (by omega)]) b.2.1.2 b.2.2.1.2 b.2.2.2.1.2, hx.of (by rw [h0]) (hw _ (by omega)) (m _ (by decide) (by decide) (by decide)) (by rw [m 1 (by decide) (by decide) (by decide)]), hs.of (by rw [hw 4 (by omega)]) (hw _ (by omega)) (hw _ (by omega)) (hw _ (by omega)) (hw _ (by omega)) (m _ (by decide) (by decide) (by decide)) (m _ (by decide) (by decide) (by decide)) (by rw [m 28 (by decide) (by decide) (by decide)]), hi.of hI (fun g hg => hw g (by omega)) (by rw [m 5 (by decide) (by decide) (by decide)]) (m _ (by decide) (by decide) (by decide)) (m _ (by decide) (by decide) (by decide)) m20 m21, hn, by rw [h0, m 29 (by decide) (by decide) (by decide)]; exact htr⟩
theorem f_know_hi {M : Nat → Nat → Int} (hI : mI M) {k : Nat} (hk : 290 ≤ k) : f_know M 21 k = M 21 k := by
  have b := (f_kn1_bd hI).1
  rw [f_know_21, if_neg (by omega), f_kn1_21, if_neg (by omega)]
theorem cR_know {V M : Nat → Nat → Int} (hI : mI M) (h : cR V M) : cR (f_rem V 31 39) (f_know M) :=
  cR_now hI h (fun g hg => f_rem_o h.2.2.2.2.1.2.1.1 (by omega) (by omega) (by omega)) (fun f _ h2 h3 => f_know_o M h2 h3) (fun k hk => f_know_20s M (by omega)) (fun k hk => f_know_hi hI hk) (nR_know hI h.2.2.2.2.1)
/-- where the moment that is now alone has changed -/
theorem cR_mom {V W M N : Nat → Nat → Int} (hI : mI M) (h : cR V M) (hw : ∀ g, ¬ (39 ≤ g ∧ g < 44) → W g = V g) (m : ∀ f, f ≠ 19 → N f = M f) (hm : moR W 39 (N 19) (M 5 0)) : cR W N := by
  obtain ⟨a, b, c⟩ := h.2.2.2.2.1
  have h20 := (mI_now hI).2.2.2.2.2.2.2.1
  refine cR_now hI h (fun g hg => hw g (by omega)) (fun f h1 _ _ => m f h1) (fun k _ => by rw [m 20 (by decide)]) (fun k _ => by rw [m 21 (by decide)]) ?_
  unfold nR
  rw [m 5 (by decide), m 20 (by decide), m 21 (by decide)]
  exact ⟨hm, b.of (hw _ (by omega)) (hw _ (by omega)), c.of b h20.2 (hw _ (by omega)) (hw _ (by omega)) (fun g g1 g2 => hw g (by omega)) (fun k hk => rfl) (fun j hj => mI_12p hI hj)⟩
