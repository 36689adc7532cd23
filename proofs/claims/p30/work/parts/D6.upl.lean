/-! Uplands. -/
theorem fr_f {M N : Nat → Nat → Int} (h : fr M N) {f : Nat} (hf : f < 2 ∨ 19 ≤ f) : N f = M f := by
  funext k
  exact h f k (by unfold lowI; omega)
theorem mI_fr {M N : Nat → Nat → Int} (hI : mI M) (h : fr M N) : mI N := by
  obtain ⟨h1, h2, h3, h4, h5, h6, h7, h8, h9, h10, h11, h12, h13, h14⟩ := hI
  have e2 : N 2 0 = M 2 0 := h 2 0 (by unfold lowI; omega)
  have e5 : N 5 0 = M 5 0 := h 5 0 (by unfold lowI; omega)
  have e9 : N 9 0 = M 9 0 := h 9 0 (by unfold lowI; omega)
  have e : ∀ f k, (f = 3 ∨ f = 4 ∨ f = 6 ∨ f = 7 ∨ f = 8 ∨ f = 10) → k < 6 → N f k = M f k := fun f k h1 h2 => h f k (by unfold lowI; omega)
  unfold mI
  rw [fr_f h (f := 0) (by decide), fr_f h (f := 1) (by decide), e2, e5, e9, fr_f h (f := 19) (by decide), fr_f h (f := 20) (by decide), fr_f h (f := 21) (by decide), fr_f h (f := 22) (by decide), fr_f h (f := 23) (by decide), fr_f h (f := 26) (by decide), fr_f h (f := 27) (by decide), fr_f h (f := 28) (by decide)]
  refine ⟨h1, h2, h3, h4, h5, fun k hk => ?_, fun k hk => ?_, fun k hk => ?_, h9, h10, h11, h12, h13, h14⟩
  · rw [e 3 k (by decide) (by omega), e 4 k (by decide) (by omega)]; exact h6 k hk
  · rw [e 6 k (by decide) (by omega), e 7 k (by decide) (by omega), e 8 k (by decide) (by omega)]; exact h7 k hk
  · rw [e 10 k (by decide) (by omega)]; exact h8 k hk
/-- what uplands leaves where the text has no fault -/
theorem upl_rows {M A Z : Nat → Nat → Int} (hA : A = f_read M) (hZ : Z = f_upE (f_upF (f_upW (f_upS (f_upP (f_upZ (f_up0 M) 29) 6) 6) 6) 4)) : (Z 2 0 = A 2 1 ∧ Z 5 0 = A 5 1 ∧ Z 9 0 = A 9 1) ∧ (∀ f k, (f = 3 ∨ f = 4 ∨ f = 6 ∨ f = 7 ∨ f = 8 ∨ f = 10) → k < 6 → Z f k = A f (6 + k)) ∧ (∀ k, k < 29 → Z 19 k = if 2 ≤ k ∧ k < 6 then A 11 (k - 2) else if 6 ≤ k ∧ k < 12 then (if (k : Int) - 6 < A 5 1 then zp (A 8 k) else 0) else 0) ∧ (Z 20 0 = 0 ∧ Z 23 0 = 0 ∧ Z 23 1 = 0 ∧ Z 28 0 = 0 ∧ Z 1 0 = 0) ∧ (∀ f, f = 0 ∨ f = 21 ∨ f = 22 ∨ f = 26 ∨ f = 27 ∨ f = 29 → Z f = A f) := by
  obtain ⟨K, hK⟩ : ∃ K, K = f_up0 M := ⟨_, rfl⟩
  have eK : K = mU (mU (mU A 2 0 (A 2 1)) 5 0 (A 5 1)) 9 0 (A 9 1) := by
    rw [hK]
    unfold f_up0
    rw [← hA]
    rfl
  have k0 : K 2 0 = A 2 1 ∧ K 5 0 = A 5 1 ∧ K 9 0 = A 9 1 := by rw [eK]; exact ⟨rfl, rfl, rfl⟩
  have ko : ∀ f, f ≠ 2 → f ≠ 5 → f ≠ 9 → K f = A f := fun f h1 h2 h3 => by rw [eK, mU_or _ _ _ h3, mU_or _ _ _ h2, mU_or _ _ _ h1]
  rw [← hK] at hZ
  have zE : ∀ f, f ≠ 20 → f ≠ 23 → f ≠ 28 → f ≠ 1 → Z f = f_upF (f_upW (f_upS (f_upP (f_upZ K 29) 6) 6) 6) 4 f := fun f h1 h2 h3 h4 => by
    rw [hZ]
    unfold f_upE
    rw [mU_or _ _ _ h4, mU_or _ _ _ h3, mU_or _ _ _ h2, mU_or _ _ _ h2, mU_or _ _ _ h1]
  have zo : ∀ f k, f ≠ 20 → f ≠ 23 → f ≠ 28 → f ≠ 1 → f ≠ 19 → f ≠ 10 → f ≠ 6 → f ≠ 7 → f ≠ 8 → f ≠ 3 → f ≠ 4 → Z f k = K f k := fun f k h1 h2 h3 h4 h5 h6 h7 h8 h9 h10 h11 => by
    rw [zE f h1 h2 h3 h4, f_upF_o _ _ h5, f_upW_o _ _ (Or.inl h6), f_upS_o _ _ (Or.inl ⟨h7, h8, h9, h5⟩), f_upP_o _ _ (Or.inl ⟨h10, h11⟩), f_upZ_o _ _ h5]
  refine ⟨⟨?_, ?_, ?_⟩, fun f k hf hk => ?_, fun k hk => ?_, ⟨?_, ?_, ?_, ?_, ?_⟩, fun f hf => ?_⟩
  · rw [zo 2 0 (by decide) (by decide) (by decide) (by decide) (by decide) (by decide) (by decide) (by decide) (by decide) (by decide) (by decide)]; exact k0.1
  · rw [zo 5 0 (by decide) (by decide) (by decide) (by decide) (by decide) (by decide) (by decide) (by decide) (by decide) (by decide) (by decide)]; exact k0.2.1
  · rw [zo 9 0 (by decide) (by decide) (by decide) (by decide) (by decide) (by decide) (by decide) (by decide) (by decide) (by decide) (by decide)]; exact k0.2.2
  · have kk : K f (6 + k) = A f (6 + k) := by rw [ko f (by omega) (by omega) (by omega)]
    rw [zE f (by omega) (by omega) (by omega) (by omega), f_upF_o _ _ (by omega), ← kk]
    by_cases y : f = 10
    · have t : f_upW (f_upS (f_upP (f_upZ K 29) 6) 6) 6 f k = f_upS (f_upP (f_upZ K 29) 6) 6 f (6 + k) := if_pos ⟨y, hk⟩
      rw [t, f_upS_o _ _ (Or.inl (by omega)), f_upP_o _ _ (Or.inl (by omega)), f_upZ_o _ _ (by omega)]
    · rw [f_upW_o _ _ (Or.inl y)]
      by_cases y2 : f = 3 ∨ f = 4
      · rw [f_upS_o _ _ (Or.inl (by omega))]
        have t : f_upP (f_upZ K 29) 6 f k = f_upZ K 29 f (6 + k) := if_pos ⟨y2, hk⟩
        rw [t, f_upZ_o _ _ (by omega)]
      · have t : f_upS (f_upP (f_upZ K 29) 6) 6 f k = f_upP (f_upZ K 29) 6 f (6 + k) := if_pos ⟨by omega, hk⟩
        rw [t, f_upP_o _ _ (Or.inl (by omega)), f_upZ_o _ _ (by omega)]
  · rw [zE 19 (by decide) (by decide) (by decide) (by decide)]
    by_cases y : 2 ≤ k ∧ k < 6
    · have t : f_upF (f_upW (f_upS (f_upP (f_upZ K 29) 6) 6) 6) 4 19 k = f_upW (f_upS (f_upP (f_upZ K 29) 6) 6) 6 11 (k - 2) := if_pos ⟨rfl, by omega, by omega⟩
      rw [if_pos y, t, f_upW_o _ _ (Or.inl (by decide)), f_upS_o _ _ (Or.inl (by decide)), f_upP_o _ _ (Or.inl (by decide)), f_upZ_o _ _ (by decide), ko 11 (by decide) (by decide) (by decide)]
    · have t : f_upF (f_upW (f_upS (f_upP (f_upZ K 29) 6) 6) 6) 4 19 k = f_upW (f_upS (f_upP (f_upZ K 29) 6) 6) 6 19 k := if_neg (by omega)
      rw [if_neg y, t, f_upW_o _ _ (Or.inl (by decide))]
      by_cases y2 : 6 ≤ k ∧ k < 12
      · have t2 : f_upS (f_upP (f_upZ K 29) 6) 6 19 k = if (k : Int) - 6 < f_upP (f_upZ K 29) 6 5 0 then zp (f_upP (f_upZ K 29) 6 8 k) else 0 := by
          unfold f_upS
          rw [if_neg (by omega), if_pos (by omega)]
        rw [if_pos y2, t2, f_upP_o _ _ (Or.inl (by decide)), f_upP_o _ _ (Or.inl (by decide)), f_upZ_o _ _ (by decide), f_upZ_o _ _ (by decide), k0.2.1, ko 8 (by decide) (by decide) (by decide)]
      · have t2 : f_upS (f_upP (f_upZ K 29) 6) 6 19 k = f_upP (f_upZ K 29) 6 19 k := by
          unfold f_upS
          rw [if_neg (by omega), if_neg (by omega)]
        have t3 : f_upZ K 29 19 k = 0 := if_pos ⟨rfl, hk⟩
        rw [if_neg y2, t2, f_upP_o _ _ (Or.inl (by decide)), t3]
  · rw [hZ]; rfl
  · rw [hZ]; rfl
  · rw [hZ]; rfl
  · rw [hZ]; rfl
  · rw [hZ]; rfl
  · funext k
    rw [zo f k (by omega) (by omega) (by omega) (by omega) (by omega) (by omega) (by omega) (by omega) (by omega) (by omega) (by omega), ko f (by omega) (by omega) (by omega)]
theorem zp_6 {k : Int} (h : 0 ≤ k ∧ k < 6) : 0 < zp k ∧ zp k < 64 := by
  rcases (show k = 0 ∨ k = 1 ∨ k = 2 ∨ k = 3 ∨ k = 4 ∨ k = 5 by omega) with rfl | rfl | rfl | rfl | rfl | rfl <;> decide
theorem mI_upl {M : Nat → Nat → Int} (hI : mI M) : mI (f_upl M) := by
  have hT := hI.1
  have hfr := fr_read hT
  unfold f_upl
  by_cases z : f_read M 16 0 = 0
  · rw [if_pos z]
    obtain ⟨A, hA⟩ : ∃ A, A = f_read M := ⟨_, rfl⟩
    obtain ⟨Z, hZ⟩ : ∃ Z, Z = f_upE (f_upF (f_upW (f_upS (f_upP (f_upZ (f_up0 M) 29) 6) 6) 6) 4) := ⟨_, rfl⟩
    obtain ⟨⟨r2, r5, r9⟩, rl, r19, ⟨r20, r23, r231, r28, r1⟩, ro⟩ := upl_rows hA hZ
    have q := qI_read hT z
    have p := (pJ_read hT).1
    rw [← hA] at q p hfr
    rw [← hZ]
    obtain ⟨q1, q2, q3, q4, q5⟩ := q
    obtain ⟨p1, p2, p3, p4, p5, p6, p7, p8, p9, p10⟩ := p
    have l3 : ∀ k, k < 6 → Z 3 k = A 3 (6 + k) := fun k hk => rl 3 k (by decide) hk
    have l4 : ∀ k, k < 6 → Z 4 k = A 4 (6 + k) := fun k hk => rl 4 k (by decide) hk
    have l6 : ∀ k, k < 6 → Z 6 k = A 6 (6 + k) := fun k hk => rl 6 k (by decide) hk
    have l7 : ∀ k, k < 6 → Z 7 k = A 7 (6 + k) := fun k hk => rl 7 k (by decide) hk
    have l8 : ∀ k, k < 6 → Z 8 k = A 8 (6 + k) := fun k hk => rl 8 k (by decide) hk
    have l10 : ∀ k, k < 6 → Z 10 k = A 10 (6 + k) := fun k hk => rl 10 k (by decide) hk
    unfold mI
    rw [r1, r2, r5, r9, r20, r28, ro 0 (by decide), fr_f hfr (f := 0) (by decide)]
    refine ⟨by decide, hI.2.1, p7, p8, ⟨q5, p9.2⟩, fun k hk => ?_, fun k hk => ?_, fun k hk => ?_, ⟨?_, ?_, fun k hk => ?_, fun k hk => ?_, ?_, fun k hk => ?_, fun k hk => ?_⟩, by decide, fun j hj => absurd hj (by omega), fun i hi => ?_, by decide, fun k hk => absurd hk (by omega)⟩
    · rw [l3 k (by omega), l4 k (by omega)]; exact q1 k hk
    · rw [l6 k (by omega), l7 k (by omega), l8 k (by omega)]; exact q2 k hk
    · rw [l10 k (by omega)]; exact q3 k hk
    · rw [r19 0 (by decide), if_neg (by decide), if_neg (by decide)]; decide
    · rw [r19 1 (by decide), if_neg (by decide), if_neg (by decide)]; decide
    · rw [r19 (2 + k) (by omega), if_pos (by omega), show 2 + k - 2 = k by omega]
      exact q4 k hk
    · rw [r19 (6 + k) (by omega), if_neg (by omega), if_pos (by omega)]
      by_cases y : ((6 + k : Nat) : Int) - 6 < A 5 1
      · rw [if_pos y]
        have b := (q2 k (by omega)).2.2
        have := zp_6 (k := A 8 (6 + k)) (by omega)
        omega
      · rw [if_neg y]; decide
    · rw [r19 12 (by decide), if_neg (by decide), if_neg (by decide)]; decide
    · rw [r19 12 (by decide), if_neg (by decide), if_neg (by decide)] at hk
      omega
    · rw [r19 (6 + k) (by omega), if_neg (by omega), if_pos (by omega), if_pos (by omega)]
      have b := (q2 k hk).2.2
      exact (zp_6 (k := A 8 (6 + k)) (by omega)).1
    · rcases (show i = 0 ∨ i = 1 by omega) with rfl | rfl
      · rw [r23]; exact ⟨Or.inl rfl, fun y => absurd y (by decide)⟩
      · rw [r231]; exact ⟨Or.inl rfl, fun y => absurd y (by decide)⟩
  · rw [if_neg z]
    exact mI_fr hI hfr
theorem zor_z {a : Int} (h : 0 ≤ a) : zor 0 a = a := by
  unfold zor
  rw [show (0 : Int).toNat = 0 from rfl, Nat.zero_or]
  omega
/-- the moment that begins as told -/
theorem bg4_moR {Y : Nat → Nat → Int} {d : Nat} {S : Int} {v : Nat → Int} (hd : d < 39) (hS : S ≤ 6) (h : moR Y 39 v S) (h0 : ∀ s, s < 6 → v (6 + s) = 0) : ∀ n : Nat, (n : Int) ≤ S → moR (f_bg4 Y 39 d n) 39 (fun k => if 6 ≤ k ∧ k < 6 + n then zp (Y (d + 5) (k - 6)) else v k) S
  | 0, _ => by
    have e : (fun k => if 6 ≤ k ∧ k < 6 + 0 then zp (Y (d + 5) (k - 6)) else v k) = v := by
      funext k
      exact if_neg (by omega)
    rw [e]
    exact h
  | n + 1, hn => by
    have ih := bg4_moR hd hS h h0 n (by omega)
    have e5 : f_bg4 Y 39 d n (d + 5) = Y (d + 5) ∨ d + 5 = 41 := by
      by_cases q : d + 5 = 41
      · exact Or.inr q
      · exact Or.inl (f_bg4_o Y (by omega) n)
    show moR (f_tel (f_bg4 Y 39 d n) 39 (zp (Y (d + 5) n)) (n : Int)) 39 _ S
    refine moR_tel (by omega) hS (zp_nn _) ?_ ih ?_ (fun k hk => ?_)
    · rw [if_neg (by omega), h0 n (by omega)]; decide
    · rw [if_pos (by omega), if_neg (by omega), h0 n (by omega), show 6 + n - 6 = n by omega]
      exact (zor_z (zp_nn _)).symm
    · by_cases y : 6 ≤ k ∧ k < 6 + n
      · rw [if_pos y, if_pos (by omega)]
      · rw [if_neg y, if_neg (by omega)]
theorem R_uplands {V M : Nat → Nat → Int} (hI : mI M) (h : cR V M) : (f_cread V (Int.toNat (V 0 4)) (V 0 1)).2 = (if f_read M 16 0 = 0 then f_read M 17 0 else -10 - f_read M 13 0) ∧ cR (f_cup V) (f_upl M) ∧ (-1000 ≤ (f_cread V (Int.toNat (V 0 4)) (V 0 1)).2 ∧ (f_cread V (Int.toNat (V 0 4)) (V 0 1)).2 ≤ 120) ∧ (0 ≤ (f_cread V (Int.toNat (V 0 4)) (V 0 1)).2 → ∀ k : Nat, (k : Int) < (f_cread V (Int.toNat (V 0 4)) (V 0 1)).1 (Int.toNat (V 0 4)) 8 → 0 ≤ (f_cread V (Int.toNat (V 0 4)) (V 0 1)).1 (Int.toNat (V 0 4) + 5) k ∧ (f_cread V (Int.toNat (V 0 4)) (V 0 1)).1 (Int.toNat (V 0 4) + 5) k ≤ 30) := by
  have hT := hI.1
  have hfr := fr_read hT
  obtain ⟨ht, hx, hs, hi, hn, htr⟩ := id h
  obtain ⟨to1, to2, to3, tdt⟩ := id ht
  have hby : k_by V := fun k hk => by rw [hx.2 k hk]; omega
  have hV01 : 0 ≤ V 0 1 ∧ V 0 1 ≤ 120 := by rw [hx.1]; exact hT
  obtain ⟨d, hd⟩ : ∃ d, d = Int.toNat (V 0 4) := ⟨_, rfl⟩
  obtain ⟨tt, htt⟩ : ∃ tt, tt = Int.toNat (V 0 3) := ⟨_, rfl⟩
  have rel := cr_eq (V := V) (M := M) to2 hx.1 hT hx.2
  have rdI9 := rd_cread to2 hV01 hby
  have fro : ∀ g, x_far d g → (f_cread V (Int.toNat (V 0 4)) (V 0 1)).1 g = V g := fun g hg => f_cread_o V (V 0 1) (by rw [← hd]; exact hg)
  unfold f_cup f_upl
  rw [← hd] at rel rdI9 fro to2 to3 ⊢
  rw [← htt] at to1 to3
  obtain ⟨P, hP⟩ : ∃ P, P = f_cread V d (V 0 1) := ⟨_, rfl⟩
  rw [← hP] at rel rdI9 fro ⊢
  have d2 := to2
  have t2 := to1
  unfold isTo at d2 t2
  have p0 : P.1 0 = V 0 := fro 0 (by omega)
  obtain ⟨A, hA⟩ : ∃ A, A = f_read M := ⟨_, rfl⟩
  rcases rel with ⟨a1, a2, a3⟩ | ⟨a1, a2⟩
  · have z16 := a3.2.1
    rw [if_pos z16, if_neg (by omega), if_pos z16]
    have q := qI_read hT z16
    have p := (pJ_read hT).1
    obtain ⟨Z, hZ⟩ : ∃ Z, Z = f_upE (f_upF (f_upW (f_upS (f_upP (f_upZ (f_up0 M) 29) 6) 6) 6) 4) := ⟨_, rfl⟩
    obtain ⟨⟨r2, r5, r9⟩, rl, r19, ⟨r20, r23, r231, r28, r1⟩, ro⟩ := upl_rows hA hZ
    rw [← hA] at q p a3 a1 z16 hfr ⊢
    rw [← hZ]
    obtain ⟨q1, q2, q3, q4, q5⟩ := q
    obtain ⟨p1, p2, p3, p4, p5, p6, p7, p8, p9, p10⟩ := p
    obtain ⟨tk, -, td, wd⟩ := a3
    obtain ⟨u7, u8, uP, uS, uF⟩ := td
    refine ⟨a1, ?_, by omega, fun _ k hk => ?_⟩
    · rw [p0, ← hd, ← htt]
      obtain ⟨X, hX⟩ : ∃ X, X = mU (mU (mU P.1 0 3 ((d : Nat) : Int)) 0 4 ((Int.toNat (mU P.1 0 3 ((d : Nat) : Int) 0 3) : Nat) : Int)) 0 1 0 := ⟨_, rfl⟩
      obtain ⟨X2, hX2⟩ : ∃ X2, X2 = mU (mU (mU P.1 0 3 ((d : Nat) : Int)) 0 4 ((tt : Nat) : Int)) 0 1 0 := ⟨_, rfl⟩
      rw [← hX2]
      have x03 : X2 0 3 = (d : Int) := by rw [hX2]; rfl
      have x04 : X2 0 4 = (tt : Int) := by rw [hX2]; rfl
      have x01 : X2 0 1 = 0 := by rw [hX2]; rfl
      have x012 : X2 0 12 = V 0 12 := by rw [hX2, ← p0]; rfl
      have xo : ∀ g, g ≠ 0 → X2 g = P.1 g := fun g hg => by rw [hX2, mU_or _ _ _ hg, mU_or _ _ _ hg, mU_or _ _ _ hg]
      have xv : ∀ g, g ≠ 0 → x_far d g → X2 g = V g := fun g hg h2 => by rw [xo g hg, fro g h2]
      unfold f_anew
      rw [x03, Int.toNat_natCast]
      obtain ⟨Y, hY⟩ : ∃ Y, Y = f_beg X2 39 d := ⟨_, rfl⟩
      rw [← hY]
      have yo : ∀ g, g < 39 ∨ 41 < g → Y g = X2 g := fun g hg => by rw [hY]; exact f_beg_o X2 (by omega)
      obtain ⟨W, hW⟩ : ∃ W, W = f_ikN (mU (mU Y 31 1 0) 4 4 0) 2 := ⟨_, rfl⟩
      rw [← hW]
      have wo : ∀ g k, ¬ ((g = 37 ∨ g = 38) ∧ k = 2) → ¬ (g = 31 ∧ k = 1) → ¬ (g = 4 ∧ k = 4) → W g k = Y g k := fun g k h1 h2 h3 => by
        rw [hW]
        unfold f_ikN
        rw [if_neg (by omega)]
        simp only [mU]
        rw [if_neg h3, if_neg h2]
      have wr : ∀ g, g ≠ 37 → g ≠ 38 → g ≠ 31 → g ≠ 4 → W g = Y g := fun g h1 h2 h3 h4 => by
        funext k
        exact wo g k (by omega) (by omega) (by omega)
      have wx : ∀ g, g ≠ 37 → g ≠ 38 → g ≠ 31 → g ≠ 4 → (g < 39 ∨ 41 < g) → W g = X2 g := fun g h1 h2 h3 h4 h5 => by rw [wr g h1 h2 h3 h4, yo g h5]
      have w0 : W 0 = X2 0 := wx 0 (by omega) (by omega) (by omega) (by omega) (by omega)
      have wd9 : ∀ k, k < 8 → W (d + k) = P.1 (d + k) := fun k hk => by rw [wx _ (by omega) (by omega) (by omega) (by omega) (by omega), xo _ (by omega)]
      have wd0 := wd9 0 (by omega)
      rw [Nat.add_zero] at wd0
      have w44 : W 4 4 = 0 := by
        rw [hW]
        unfold f_ikN
        rw [if_neg (by omega), mU_eq]
      have w31 : W 31 1 = 0 := by
        rw [hW]
        unfold f_ikN
        rw [if_neg (by omega), mU_nf _ _ _ _ (by decide), mU_eq]
      have w37 : ∀ w, w < 2 → W (37 + w) 2 = 0 := fun w hw => by
        rw [hW]
        unfold f_ikN
        rw [if_pos (by omega)]
      have w33 : ∀ g, (32 ≤ g ∧ g < 37) → W g = V g := fun g hg => by rw [wx g (by omega) (by omega) (by omega) (by omega) (by omega), xv g (by omega) (by omega)]
      have l3 : ∀ k, k < 6 → Z 3 k = A 3 (6 + k) := fun k hk => rl 3 k (by decide) hk
      have l4 : ∀ k, k < 6 → Z 4 k = A 4 (6 + k) := fun k hk => rl 4 k (by decide) hk
      have l6 : ∀ k, k < 6 → Z 6 k = A 6 (6 + k) := fun k hk => rl 6 k (by decide) hk
      have l7 : ∀ k, k < 6 → Z 7 k = A 7 (6 + k) := fun k hk => rl 7 k (by decide) hk
      have l8 : ∀ k, k < 6 → Z 8 k = A 8 (6 + k) := fun k hk => rl 8 k (by decide) hk
      have l10 : ∀ k, k < 6 → Z 10 k = A 10 (6 + k) := fun k hk => rl 10 k (by decide) hk
      refine ⟨?_, ⟨by rw [w0, x01, r1], fun k hk => ?_⟩, ⟨by rw [w44, r28], fun k hk => absurd hk (by rw [r28]; omega)⟩, fun w hw => ?_, ?_, by rw [w0, x012, ro 29 (by decide), fr_f hfr (by decide)]; exact htr⟩
      · unfold tR
        rw [w0, x03, x04, Int.toNat_natCast, Int.toNat_natCast]
        refine ⟨to2, to1, fun y => to3 y.symm, ?_⟩
        unfold tdT
        rw [wd0, wd9 1 (by omega), wd9 2 (by omega), wd9 3 (by omega), wd9 4 (by omega), wd9 5 (by omega), wd9 6 (by omega), r2, r5, r9]
        refine ⟨u7.1, u8.1, ?_, ?_, fun k hk => ?_, fun k hk => ?_, fun k hk => ?_⟩
        · rcases wd with y | y
          · rw [y.1]; decide
          · omega
        · rcases wd with y | y
          · rw [y.1, y.2.2.1]; decide
          · have := y.2.2.1
            omega
        · rw [l3 k (by omega), l4 k (by omega)]; exact uP k hk
        · rw [l6 k (by omega), l7 k (by omega), l8 k (by omega)]; exact uS k hk
        · rw [l10 k (by omega)]
          rcases wd with y | y
          · have y9 := y.2.2.1
            have k0 : k = 0 := by omega
            subst k0
            rw [y.2.2.2.1]; exact y.2.2.2.2.symm
          · exact y.2.2.2 k hk
      · rw [wx 1 (by omega) (by omega) (by omega) (by omega) (by omega), xv 1 (by omega) (by omega), ro 0 (by decide), fr_f hfr (by decide)]
        exact hx.2 k hk
      · obtain ⟨j1, j2, j3⟩ := hi w hw
        have z23 : Z 23 w = 0 := by
          rcases (show w = 0 ∨ w = 1 by omega) with rfl | rfl
          · exact r23
          · exact r231
        refine ⟨by rw [w37 w hw, z23], j2.of (w33 _ (by omega)) (w33 _ (by omega)), fun y => absurd y (by rw [z23]; decide)⟩
      · obtain ⟨n1, n2, n3⟩ := hn
        have S6 : A 5 1 ≤ 6 := p8.2
        unfold nR
        rw [r5, r20]
        refine ⟨?_, ⟨⟨by rw [w31]; decide, ?_⟩, ?_⟩, w31, fun j hj => absurd hj (by omega)⟩
        · have base : moR (f_bg3 (f_bg2 (f_bg1 X2 39) 39 d 4) 39 6) 39 (fun k => if 2 ≤ k ∧ k < 6 then A 11 (k - 2) else 0) (A 5 1) := by
            obtain ⟨B, hB⟩ : ∃ B, B = f_bg3 (f_bg2 (f_bg1 X2 39) 39 d 4) 39 6 := ⟨_, rfl⟩
            rw [← hB]
            have b39 : ∀ k, k < 3 → B 39 k = 0 := fun k hk => by
              rw [hB]
              unfold f_bg3 f_bg2 f_bg1
              rw [if_neg (by omega), if_neg (by omega)]
              rcases (show k = 0 ∨ k = 1 ∨ k = 2 by omega) with rfl | rfl | rfl <;> rfl
            have b40 : ∀ k, k < 4 → B (39 + 1) k = A 11 k := fun k hk => by
              rw [hB]
              have t1 : f_bg3 (f_bg2 (f_bg1 X2 39) 39 d 4) 39 6 (39 + 1) k = f_bg2 (f_bg1 X2 39) 39 d 4 (39 + 1) k := if_neg (by omega)
              have t2 : f_bg2 (f_bg1 X2 39) 39 d 4 (39 + 1) k = f_bg1 X2 39 (d + 7) k := if_pos ⟨rfl, hk⟩
              rw [t1, t2]
              unfold f_bg1
              rw [mU_nf _ _ _ _ (by omega), mU_nf _ _ _ _ (by omega), mU_nf _ _ _ _ (by omega), xo _ (by omega)]
              exact uF k hk
            have b41 : ∀ k, k < 6 → B (39 + 2) k = 0 := fun k hk => by
              rw [hB]
              exact if_pos ⟨rfl, hk⟩
            refine ⟨b39 0 (by omega), b39 1 (by omega), b39 2 (by omega), fun k hk => ?_, fun p hp => ?_, fun k hk => ?_⟩
            · show B (39 + 1) k = (if 2 ≤ 2 + k ∧ 2 + k < 6 then A 11 (2 + k - 2) else 0)
              rw [b40 k hk, if_pos (by omega)]
              congr 1; omega
            · rw [b41 p hp]
              refine ⟨by decide, fun s hs => ?_⟩
              have e6 : (if 2 ≤ 6 + s ∧ 6 + s < 6 then A 11 (6 + s - 2) else 0) = 0 := if_neg (by omega)
              show (0 : Int) / zp (s : Int) % 2 = if (s : Int) < A 5 1 then (if 2 ≤ 6 + s ∧ 6 + s < 6 then A 11 (6 + s - 2) else 0) / zp (p : Int) % 2 else 0
              rw [e6, zbit_0, zbit_0]
              split <;> rfl
            · have hk2 : (k : Int) < (if 2 ≤ 12 ∧ 12 < 6 then A 11 (12 - 2) else 0) := hk
              rw [if_neg (by decide)] at hk2
              omega
          obtain ⟨n, hn9⟩ := Int.eq_ofNat_of_zero_le p8.1
          have bg := bg4_moR (d := d) (by omega) S6 base (fun s hs => if_neg (by omega)) n (by omega)
          have eY : Y = f_bg4 (f_bg3 (f_bg2 (f_bg1 X2 39) 39 d 4) 39 6) 39 d n := by
            rw [hY]
            unfold f_beg
            rw [xo d (by omega), u8.1, hn9, Int.toNat_natCast]
          rw [← eY] at bg
          have e5 : f_bg3 (f_bg2 (f_bg1 X2 39) 39 d 4) 39 6 (d + 5) = P.1 (d + 5) := by
            funext k
            unfold f_bg3 f_bg2 f_bg1
            rw [if_neg (by omega), if_neg (by omega), mU_nf _ _ _ _ (by omega), mU_nf _ _ _ _ (by omega), mU_nf _ _ _ _ (by omega), xo _ (by omega)]
          rw [e5] at bg
          refine (bg.v (by rw [if_neg (by omega), if_neg (by decide)]; decide) (fun k hk => ?_)).of (fun k hk => wr _ (by omega) (by omega) (by omega) (by omega))
          rw [r19 k hk]
          by_cases y : 2 ≤ k ∧ k < 6
          · rw [if_pos y, if_neg (by omega), if_pos y]
          · rw [if_neg y, if_neg y]
            by_cases y2 : 6 ≤ k ∧ k < 12
            · rw [if_pos y2]
              by_cases y3 : (k : Int) - 6 < A 5 1
              · rw [if_pos y3, if_pos (by omega)]
                have u := (uS (k - 6) (by omega)).2.2
                rw [u, show 6 + (k - 6) = k by omega]
              · rw [if_neg y3, if_neg (by omega)]
            · rw [if_neg y2, if_neg (by omega)]
        · rw [w33 (31 + 1) (by omega)]; exact n2.1.2
        · rw [w33 (31 + 1) (by omega)]; exact n2.2
    · rw [u8.1] at hk
      have u := (uS k hk).2.2
      have b := (q2 k hk).2.2
      rw [u]; omega
  · have b := rdI9.1.1.2.2.1
    have c := rdI9.1.1.2.1
    have e := rdI9.1.1.1
    rw [if_neg a2.1, if_pos (by omega), if_neg a2.1]
    refine ⟨by rw [a1, a2.2], ?_, by omega, fun y => absurd y (by omega)⟩
    rw [← hA] at hfr ⊢
    have bb := mI_now hI
    have pv : ∀ g, x_far d g → P.1 g = V g := fro
    have tof : ∀ k, k < 8 → x_far d (tt + k) := fun k hk => by omega
    refine ⟨ht.of (by rw [p0]) (by rw [p0]) (fun k hk => ?_) (hfr 2 0 (by unfold lowI; omega)) (hfr 5 0 (by unfold lowI; omega)) (hfr 9 0 (by unfold lowI; omega)) (fun f hf k hk => hfr f k (by unfold lowI; omega)) bb.2.1.2 bb.2.2.1.2 bb.2.2.2.1.2, hx.of (by rw [p0]) (pv 1 (by omega)) (fr_f hfr (by decide)) (hfr 1 0 (by unfold lowI; omega)), hs.of (by rw [pv 4 (by omega)]) (pv _ (by omega)) (pv _ (by omega)) (pv _ (by omega)) (pv _ (by omega)) (fr_f hfr (by decide)) (fr_f hfr (by decide)) (hfr 28 0 (by unfold lowI; omega)), hi.of hI (fun g hg => pv g (by omega)) (hfr 5 0 (by unfold lowI; omega)) (fr_f hfr (by decide)) (fr_f hfr (by decide)) (fun k _ => hfr 20 k (by unfold lowI; omega)) (fun k _ => hfr 21 k (by unfold lowI; omega)), hn.of hI (fun g hg => pv g (by omega)) (hfr 5 0 (by unfold lowI; omega)) (fr_f hfr (by decide)) (hfr 20 0 (by unfold lowI; omega)) (fun k _ => hfr 21 k (by unfold lowI; omega)), by rw [p0, hfr 29 0 (by unfold lowI; omega)]; exact htr⟩
    rw [← htt]
    exact pv _ (tof k hk)
