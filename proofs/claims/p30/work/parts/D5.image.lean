/-! Images. -/
theorem pbN_mo {V : Nat → Nat → Int} {i j : Nat} (hi : isPa i) (hj : isPa j) (hij : i ≠ j) (si : paS V i) (sj : paS V j) {v : Nat → Int} {off n : Nat} {S : Int} (hn : n ≤ 10) (h : ∀ k : Nat, k < n → moR V (Int.toNat (V (j + 1) k)) (fun x => v (off + 29 * k + x)) S) (h12 : ∀ k : Nat, k < n → v (off + 29 * k + 12) ≤ 8) : ∀ m : Nat, m ≤ n → ∀ k : Nat, k < m → moR (f_pbN V i j m) (Int.toNat (V (i + 1) k)) (fun x => v (off + 29 * k + x)) S := by
  intro m
  induction m with
  | zero => intro _ k hk; omega
  | succ m ih =>
    intro hm k hk
    have hi2 := hi
    have hj2 := hj
    unfold isPa at hi2 hj2
    obtain ⟨U, hU⟩ : ∃ U, U = f_pbN V i j m := ⟨_, rfl⟩
    have uo : ∀ g, g ≠ i → (g < 54 + 25 * (i - 31) ∨ 104 + 25 * (i - 31) ≤ g) → U g = V g := fun g h1 h2 => by rw [hU]; exact f_pbN_o hi hj si.1 sj.1 h1 h2 m (by omega)
    have u1 := uo (i + 1) (by omega) (by omega)
    have u2 := uo (j + 1) (by omega) (by omega)
    have eW : f_pbN V i j (m + 1) = f_bec U (Int.toNat (V (i + 1) m)) (Int.toNat (V (j + 1) m)) := by
      show f_bec (f_pbN V i j m) (Int.toNat (f_pbN V i j m (i + 1) m)) (Int.toNat (f_pbN V i j m (j + 1) m)) = _
      rw [← hU, u1, u2]
    rw [eW]
    have ma := si.mo (j := m) (by omega)
    have mb := sj.mo (j := m) (by omega)
    have hb := mb.1
    unfold isMo at hb
    by_cases y : k = m
    · subst y
      have x := h k (by omega)
      exact moR_bec ma.1 mb.1 (by omega) (x.of (fun z hz => uo _ (by omega) (by omega))) (h12 k (by omega))
    · have x := ih (by omega) k (by omega)
      rw [← hU] at x
      exact moR_beo ma.1 (si.mo (j := k) (by omega)).1 (si.ne (by omega) (by omega) y) x
theorem R_keep {V M : Nat → Nat → Int} (hI : mI M) (h : cR V M) (im : Int) : (if 0 ≤ im ∧ im < 2 then V 39 0 else -1) = s_keep M im ∧ cR (if 0 ≤ im ∧ im < 2 then f_tak V (37 + Int.toNat im) 39 31 else V) (f_keep M im) := by
  have e0 : V 39 0 = M 19 0 := h.2.2.2.2.1.1.1
  have b := mI_now hI
  unfold s_keep f_keep
  by_cases z : 0 ≤ im ∧ im < 2
  · rw [if_pos z, if_neg (fun y => y (by omega)), if_pos z, if_neg (fun y => y (by omega))]
    refine ⟨e0, ?_⟩
    obtain ⟨q, rfl⟩ := Int.eq_ofNat_of_zero_le z.1
    have hq : q < 2 := by omega
    rw [Int.toNat_natCast, show Int.toNat (1 + (q : Int)) = 1 + q by omega]
    obtain ⟨n1, n2, n3⟩ := h.2.2.2.2.1
    have h31 : V 31 1 = M 20 0 := n3.1
    obtain ⟨n, hn⟩ := Int.eq_ofNat_of_zero_le b.2.2.2.2.2.2.2.1.1
    obtain ⟨i1, i2, i3⟩ := h.2.2.2.1 q hq
    have hpa : isPa (33 + 2 * q) := by unfold isPa; omega
    have hmo : isMo (44 + 5 * q) := by unfold isMo; omega
    obtain ⟨U, hU⟩ : ∃ U, U = f_bec V (44 + 5 * q) 39 := ⟨_, rfl⟩
    have uo : ∀ g, g < 44 + 5 * q ∨ 44 + 5 * q + 4 < g → U g = V g := fun g hg => by rw [hU]; exact f_bec_o V hg
    obtain ⟨P, hP⟩ : ∃ P, P = f_pbN U (33 + 2 * q) 31 n := ⟨_, rfl⟩
    obtain ⟨W, hW⟩ : ∃ W, W = mU P (37 + q) 2 1 := ⟨_, rfl⟩
    have eW : f_tak V (37 + q) 39 31 = W := by
      unfold f_tak
      rw [show 37 + q - 37 = q by omega, ← hU, uo 31 (by omega), h31, hn, Int.toNat_natCast, ← hP, hW]
    rw [eW]
    have sU : paS U (33 + 2 * q) := i2.of (uo _ (by omega)) (uo _ (by omega))
    have sU1 : paS U 31 := n2.of (uo _ (by omega)) (uo _ (by omega))
    have po : ∀ g, g ≠ 33 + 2 * q → (g < 104 + 50 * q ∨ 154 + 50 * q ≤ g) → P g = U g := fun g h1 h2 => by
      rw [hP]
      exact f_pbN_o hpa isPa_31 sU.1 sU1.1 h1 (by omega) n (by omega)
    have wo : ∀ g, g ≠ 37 + q → W g = P g := fun g hg => by rw [hW, mU_or _ _ _ hg]
    have wv : ∀ g, g ≠ 37 + q → g ≠ 33 + 2 * q → (g < 44 + 5 * q ∨ 44 + 5 * q + 4 < g) → (g < 104 + 50 * q ∨ 154 + 50 * q ≤ g) → W g = V g := fun g h1 h2 h3 h4 => by rw [wo g h1, po g h2 h4, uo g h3]
    have pp := f_pbN_pa hpa isPa_31 sU.1 sU1.1 n (by omega)
    rw [← hP] at pp
    have p1 : P (33 + 2 * q) 1 = M 20 0 := by rw [pp.2.2, uo 31 (by omega)]; exact h31
    obtain ⟨N, hN⟩ : ∃ N, N = mU (mU (f_kp2 M (q : Int)) 20 (1 + q) (M 20 0)) 23 q 1 := ⟨_, rfl⟩
    rw [← hN]
    have eN : N = mU (mU (f_blk (f_blk M 22 19 (29 * q) 0 29) 21 21 (290 * (1 + q)) 0 290) 20 (1 + q) (M 20 0)) 23 q 1 := by
      rw [hN]
      unfold f_kp2 f_kp1
      rw [show Int.toNat (29 * (q : Int)) = 29 * q by omega, show Int.toNat (290 * (1 + (q : Int))) = 290 * (1 + q) by omega]
    have n22 : ∀ k, N 22 k = if 29 * q ≤ k ∧ k < 29 * q + 29 then M 19 (0 + (k - 29 * q)) else M 22 k := fun k => by rw [eN]; simp [mU, f_blk]
    have n21 : ∀ k, N 21 k = if 290 * (1 + q) ≤ k ∧ k < 290 * (1 + q) + 290 then M 21 (0 + (k - 290 * (1 + q))) else M 21 k := fun k => by rw [eN]; simp [mU, f_blk]
    have n20 : ∀ k, N 20 k = if k = 1 + q then M 20 0 else M 20 k := fun k => by rw [eN]; simp [mU, f_blk]
    have n23 : ∀ k, N 23 k = if k = q then 1 else M 23 k := fun k => by rw [eN]; simp [mU, f_blk]
    have no : ∀ f, f ≠ 20 → f ≠ 21 → f ≠ 22 → f ≠ 23 → N f = M f := fun f a1 a2 a3 a4 => by rw [eN]; funext j; simp [mU, f_blk, a1, a2, a3, a4]
    have nl : ∀ f, f < 20 ∨ 23 < f → N f = M f := fun f hf => no f (by omega) (by omega) (by omega) (by omega)
    have w0 := wv 0 (by omega) (by omega) (by omega) (by omega)
    have hto := h.1.1
    unfold isTo at hto
    refine ⟨h.1.of (by rw [w0]) (by rw [w0]) (fun k hk => wv _ (by omega) (by omega) (by omega) (by omega)) (by rw [nl 2 (by omega)]) (by rw [nl 5 (by omega)]) (by rw [nl 9 (by omega)]) (fun f hf k _ => by rw [nl f (by omega)]) b.2.1.2 b.2.2.1.2 b.2.2.2.1.2, h.2.1.of (by rw [w0]) (wv _ (by omega) (by omega) (by omega) (by omega)) (nl _ (by omega)) (by rw [nl 1 (by omega)]), h.2.2.1.of (by rw [wv 4 (by omega) (by omega) (by omega) (by omega)]) (wv _ (by omega) (by omega) (by omega) (by omega)) (wv _ (by omega) (by omega) (by omega) (by omega)) (wv _ (by omega) (by omega) (by omega) (by omega)) (wv _ (by omega) (by omega) (by omega) (by omega)) (nl _ (by omega)) (nl _ (by omega)) (by rw [nl 28 (by omega)]), fun w hw => ?_, h.2.2.2.2.1.of hI (fun g hg => wv g (by omega) (by omega) (by omega) (by omega)) (by rw [nl 5 (by omega)]) (nl _ (by omega)) (by rw [n20, if_neg (by omega)]) (fun k hk => by rw [n21, if_neg (by omega)]), by rw [w0, nl 29 (by omega)]; exact h.2.2.2.2.2⟩
    rw [nl 5 (by omega)]
    by_cases y : w = q
    · subst y
      have sW : paS W (33 + 2 * w) := by
        refine ⟨pp.1.of (wo _ (by omega)) (wo _ (by omega)), ?_⟩
        rw [wo _ (by omega), po _ (by omega) (by omega)]
        exact sU.2
      refine ⟨by rw [hW, mU_eq, n23, if_pos rfl], sW, fun _ => ⟨?_, by rw [wo _ (by omega), p1, n20, if_pos rfl], fun j hj => ?_⟩⟩
      · have x := moR_bec (V := V) hmo isMo_39 (by omega) n1 (mI_12 hI)
        rw [← hU] at x
        refine (x.v (mI_12 hI) (fun k hk => ?_)).of (fun k hk => by rw [wo _ (by omega), po _ (by omega) (by omega)])
        rw [n22, if_pos (by omega)]
        congr 1; omega
      · rw [n20, if_pos rfl] at hj
        have x := pbN_mo hpa isPa_31 (by omega) sU sU1 (v := M 21) (off := 0) (n := n) (S := M 5 0) (by omega) (fun k hk => ?_) (fun k hk => mI_12p hI (by omega)) n (by omega) j (by omega)
        · rw [← hP] at x
          have m := sU.mo (j := j) (by omega)
          rw [wo _ (by omega), po (33 + 2 * w + 1) (by omega) (by omega)]
          refine (x.v (mI_12p hI (by omega)) (fun k hk => ?_)).of (fun k hk => wo _ (by omega))
          show N 21 (290 * (1 + w) + 29 * j + k) = M 21 (0 + 29 * j + k)
          rw [n21, if_pos (by omega)]
          congr 1; omega
        · have t := n3.2 k (by omega)
          have m := n2.mo31 (j := k) (by omega)
          rw [uo _ (by omega), show (31 + 1 : Nat) = 32 from rfl]
          exact t.of (fun z hz => uo _ (by omega))
    · have v37 := wv (37 + w) (by omega) (by omega) (by omega) (by omega)
      obtain ⟨j1, j2, j3⟩ := h.2.2.2.1 w hw
      rw [v37, n23, if_neg y]
      refine ⟨j1, j2.of (wv _ (by omega) (by omega) (by omega) (by omega)) (wv _ (by omega) (by omega) (by omega) (by omega)), fun yy => ?_⟩
      obtain ⟨c1, c2⟩ := j3 yy
      obtain ⟨d1, d2, d3⟩ := mI_im hI hw yy
      rw [n20, if_neg (by omega)]
      refine ⟨(c1.v d1 (fun k hk => by rw [n22, if_neg (by omega)])).of (fun k hk => wv _ (by omega) (by omega) (by omega) (by omega)), ?_⟩
      exact c2.of j2 d2.2 (wv _ (by omega) (by omega) (by omega) (by omega)) (wv _ (by omega) (by omega) (by omega) (by omega)) (fun g g1 g2 => wv g (by omega) (by omega) (by omega) (by omega)) (fun k hk => by rw [n21, if_neg (by omega)]) d3
  · rw [if_neg z, if_pos (by omega), if_neg z, if_pos (by omega)]
    exact ⟨rfl, h⟩
theorem R_back {V M : Nat → Nat → Int} (hI : mI M) (h : cR V M) (im : Int) : (if 0 ≤ im ∧ im < 2 then (if V (37 + Int.toNat im) 2 = 0 then -2 else f_giv V (37 + Int.toNat im) 39 31 39 0) else -1) = s_back M im ∧ cR (if (0 ≤ im ∧ im < 2) ∧ ¬ V (37 + Int.toNat im) 2 = 0 then f_giv V (37 + Int.toNat im) 39 31 else V) (f_back M im) := by
  have b := mI_now hI
  by_cases z : 0 ≤ im ∧ im < 2
  · obtain ⟨q, rfl⟩ := Int.eq_ofNat_of_zero_le z.1
    have hq : q < 2 := by omega
    have z1 : ¬ ¬ (0 ≤ (q : Int) ∧ (q : Int) ≤ 1) := fun y => y (by omega)
    have g1 : s_back M (q : Int) = if M 23 q = 0 then -2 else M 22 (29 * q) := by
      unfold s_back
      rw [if_neg z1, Int.toNat_natCast, show Int.toNat (29 * (q : Int)) = 29 * q by omega]
    have g2 : f_back M (q : Int) = if M 23 q = 0 then M else mU (f_bk2 M (q : Int)) 20 0 (M 20 (1 + q)) := by
      unfold f_back
      rw [if_neg z1, Int.toNat_natCast, show Int.toNat (1 + (q : Int)) = 1 + q by omega]
    rw [g1, g2, if_pos z, Int.toNat_natCast]
    obtain ⟨i1, i2, i3⟩ := h.2.2.2.1 q hq
    rw [i1]
    by_cases y : M 23 q = 0
    · have y2 : ¬ ((0 ≤ (q : Int) ∧ (q : Int) < 2) ∧ ¬ M 23 q = 0) := fun w => w.2 y
      simp only [if_pos y, if_neg y2]
      exact ⟨trivial, h⟩
    · have y2 : (0 ≤ (q : Int) ∧ (q : Int) < 2) ∧ ¬ M 23 q = 0 := ⟨z, y⟩
      simp only [if_neg y, if_pos y2]
      have y1 : M 23 q = 1 := by
        rcases (hI.2.2.2.2.2.2.2.2.2.2.2.1 q hq).1 with w | w
        · exact absurd w y
        · exact w
      obtain ⟨c1, c2⟩ := i3 y1
      obtain ⟨d1, d2, d3⟩ := mI_im hI hq y1
      obtain ⟨n1, n2, n3⟩ := h.2.2.2.2.1
      obtain ⟨n, hn⟩ := Int.eq_ofNat_of_zero_le d2.1
      have hpa : isPa (33 + 2 * q) := by unfold isPa; omega
      have hmo : isMo (44 + 5 * q) := by unfold isMo; omega
      obtain ⟨U, hU⟩ : ∃ U, U = f_bec V 39 (44 + 5 * q) := ⟨_, rfl⟩
      have uo : ∀ g, g < 39 ∨ 43 < g → U g = V g := fun g hg => by rw [hU]; exact f_bec_o V (by omega)
      have sU : paS U (33 + 2 * q) := i2.of (uo _ (by omega)) (uo _ (by omega))
      have sU1 : paS U 31 := n2.of (uo _ (by omega)) (uo _ (by omega))
      have h33 : V (33 + 2 * q) 1 = M 20 (1 + q) := c2.1
      obtain ⟨W, hW⟩ : ∃ W, W = f_pbN U 31 (33 + 2 * q) n := ⟨_, rfl⟩
      have eW : f_giv V (37 + q) 39 31 = W := by
        unfold f_giv
        rw [show 37 + q - 37 = q by omega, ← hU, uo _ (by omega), h33, hn, Int.toNat_natCast, hW]
      rw [eW]
      have po : ∀ g, g ≠ 31 → (g < 54 ∨ 104 ≤ g) → W g = U g := fun g h1 h2 => by
        rw [hW]
        exact f_pbN_o isPa_31 hpa sU1.1 sU.1 h1 (by omega) n (by omega)
      have pp := f_pbN_pa isPa_31 hpa sU1.1 sU.1 n (by omega)
      rw [← hW] at pp
      have p1 : W 31 1 = M 20 (1 + q) := by rw [pp.2.2, uo _ (by omega)]; exact h33
      obtain ⟨N, hN⟩ : ∃ N, N = mU (f_bk2 M (q : Int)) 20 0 (M 20 (1 + q)) := ⟨_, rfl⟩
      rw [← hN]
      have eN : N = mU (f_blk (f_blk M 19 22 0 (29 * q) 29) 21 21 0 (290 * (1 + q)) 290) 20 0 (M 20 (1 + q)) := by
        rw [hN]
        unfold f_bk2 f_bk1
        rw [show Int.toNat (29 * (q : Int)) = 29 * q by omega, show Int.toNat (290 * (1 + (q : Int))) = 290 * (1 + q) by omega]
      have n19 : ∀ k, k < 29 → N 19 k = M 22 (29 * q + k) := fun k hk => by rw [eN]; simp [mU, f_blk, hk]
      have n21 : ∀ k, N 21 k = if k < 290 then M 21 (290 * (1 + q) + k) else M 21 k := fun k => by rw [eN]; simp [mU, f_blk]
      have n20 : ∀ k, N 20 k = if k = 0 then M 20 (1 + q) else M 20 k := fun k => by rw [eN]; simp [mU, f_blk]
      have no : ∀ f, f ≠ 19 → f ≠ 20 → f ≠ 21 → N f = M f := fun f a1 a2 a3 => by rw [eN]; funext j; simp [mU, f_blk, a1, a2, a3]
      have m39 : moR W 39 (N 19) (M 5 0) := by
        have x := moR_bec (V := V) isMo_39 hmo (by omega) c1 d1
        rw [← hU] at x
        exact (x.v d1 (fun k hk => n19 k hk)).of (fun k hk => po _ (by omega) (by omega))
      refine ⟨m39.1.trans (by rw [n19 0 (by omega), Nat.add_zero]), cR_now hI h (fun g hg => by rw [po g (by omega) (by omega), uo g (by omega)]) no (fun k hk => by rw [n20, if_neg (by omega)]) (fun k hk => by rw [n21, if_neg (by omega)]) ?_⟩
      unfold nR
      rw [no 5 (by decide) (by decide) (by decide), n20, if_pos rfl]
      refine ⟨m39, ⟨pp.1, ?_⟩, p1, fun j hj => ?_⟩
      · rw [po _ (by omega) (by omega)]
        exact sU1.2
      · have x := pbN_mo isPa_31 hpa (by omega) sU1 sU (v := M 21) (off := 290 * (1 + q)) (n := n) (S := M 5 0) (by omega) (fun k hk => ?_) (fun k hk => d3 k (by omega)) n (by omega) j (by omega)
        · rw [← hW] at x
          have m := sU1.mo31 (j := j) (by omega)
          rw [po (31 + 1) (by omega) (by omega)]
          refine x.v (d3 j hj) (fun k hk => ?_)
          show N 21 (0 + 29 * j + k) = M 21 (290 * (1 + q) + 29 * j + k)
          rw [n21, if_pos (by omega)]
          congr 1; omega
        · have t := c2.2 k (by omega)
          have m := i2.mo (j := k) (by omega)
          rw [uo _ (by omega)]
          exact t.of (fun x hx => uo _ (by omega))
  · have z1 : ¬ (0 ≤ im ∧ im ≤ 1) := by omega
    have g1 : s_back M im = -1 := if_pos z1
    have g2 : f_back M im = M := if_pos z1
    rw [g1, g2, if_neg z, if_neg (fun w => z w.1)]
    exact ⟨rfl, h⟩
