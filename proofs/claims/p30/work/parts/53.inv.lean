/-! The invariant behind know, and what let off makes. -/
theorem vI_ext {P S : Int} {v w : Nat → Int} (hS : S ≤ 6) (h : vI P S v) (e : ∀ k, k < 29 → w k = v k) : vI P S w := by
  obtain ⟨v1, v2, v3, v4, v5, v6, v7⟩ := h
  refine ⟨by rw [e 0 (by omega)]; exact v1, by rw [e 1 (by omega)]; exact v2, fun k hk => ?_, fun k hk => ?_, by rw [e 12 (by omega)]; exact v5, fun k hk => ?_, fun k hk => ?_⟩
  · rw [e _ (by omega)]; exact v3 k hk
  · rw [e _ (by omega)]; exact v4 k hk
  · rw [e 12 (by omega)] at hk; rw [e _ (by omega), e _ (by omega)]; exact v6 k hk
  · rw [e _ (by omega)]; exact v7 k hk
theorem f_kn1_20 (M : Nat → Nat → Int) : f_kn1 M 20 0 = if M 20 0 = 10 then 9 else M 20 0 := by
  unfold f_kn1
  split
  · rename_i q
    show M 20 0 - 1 = 9
    omega
  · rfl
theorem f_kn1_20s (M : Nat → Nat → Int) {k : Nat} (hk : k ≠ 0) : f_kn1 M 20 k = M 20 k := by
  unfold f_kn1
  split
  · simp [mU, f_blk, hk]
  · rfl
theorem f_kn1_21 (M : Nat → Nat → Int) (j : Nat) : f_kn1 M 21 j = if M 20 0 = 10 ∧ j < 261 then M 21 (29 + j) else M 21 j := by
  unfold f_kn1
  by_cases q : M 20 0 = 10
  · rw [if_pos q]
    simp [mU, f_blk, q]
  · rw [if_neg q, if_neg (fun h => q h.1)]
theorem f_know_20 (M : Nat → Nat → Int) : f_know M 20 0 = f_kn1 M 20 0 + 1 := by
  simp [f_know, f_kn2, mU, f_blk]
theorem f_know_20s (M : Nat → Nat → Int) {k : Nat} (hk : k ≠ 0) : f_know M 20 k = M 20 k := by
  rw [← f_kn1_20s M hk]
  simp [f_know, f_kn2, mU, f_blk, hk]
theorem f_know_21 (M : Nat → Nat → Int) (j : Nat) : f_know M 21 j = if 29 * (f_kn1 M 20 0).toNat ≤ j ∧ j < 29 * (f_kn1 M 20 0).toNat + 29 then f_kn1 M 19 (0 + (j - 29 * (f_kn1 M 20 0).toNat)) else f_kn1 M 21 j := by
  simp [f_know, f_kn2, mU, f_blk]
theorem f_kn1_19 (M : Nat → Nat → Int) : f_kn1 M 19 = M 19 := by
  unfold f_kn1
  split
  · funext j; simp [mU, f_blk]
  · rfl
theorem mI_know {M : Nat → Nat → Int} (hI : mI M) : mI (f_know M) := by
  obtain ⟨h1, h2, h3, h4, h5, h6, h7, h8, h9, h10, h11, h12, h13, h14⟩ := hI
  have o : ∀ f, f ≠ 20 → f ≠ 21 → f_know M f = M f := fun f a b => f_know_o M a b
  have hk := f_kn1_20 M
  have hn := f_know_20 M
  unfold mI
  rw [o 0 (by decide) (by decide), o 1 (by decide) (by decide), o 2 (by decide) (by decide), o 3 (by decide) (by decide), o 4 (by decide) (by decide), o 5 (by decide) (by decide), o 6 (by decide) (by decide), o 7 (by decide) (by decide), o 8 (by decide) (by decide), o 9 (by decide) (by decide), o 10 (by decide) (by decide), o 19 (by decide) (by decide), o 22 (by decide) (by decide), o 23 (by decide) (by decide), o 26 (by decide) (by decide), o 27 (by decide) (by decide), o 28 (by decide) (by decide)]
  refine ⟨h1, h2, h3, h4, h5, h6, h7, h8, h9, by rw [hn]; omega, fun j hj => ?_, fun i hi => ?_, h13, h14⟩
  · rw [hn] at hj
    by_cases q : j = (f_kn1 M 20 0).toNat
    · refine vI_ext h4.2 h9 (fun k hk2 => ?_)
      show f_know M 21 (29 * j + k) = M 19 k
      rw [f_know_21, if_pos (by omega), f_kn1_19]
      congr 1; omega
    · have hjn : (j : Int) < f_kn1 M 20 0 := by omega
      by_cases q2 : M 20 0 = 10
      · refine vI_ext h4.2 (h11 (j + 1) (by omega)) (fun k hk2 => ?_)
        show f_know M 21 (29 * j + k) = M 21 (29 * (j + 1) + k)
        rw [f_know_21, if_neg (by omega), f_kn1_21, if_pos (by omega)]
        congr 1; omega
      · refine vI_ext h4.2 (h11 j (by omega)) (fun k hk2 => ?_)
        show f_know M 21 (29 * j + k) = M 21 (29 * j + k)
        rw [f_know_21, if_neg (by omega), f_kn1_21, if_neg (by omega)]
  · obtain ⟨a1, a2⟩ := h12 i hi
    refine ⟨a1, fun h => ?_⟩
    obtain ⟨b1, b2, b3⟩ := a2 h
    rw [f_know_20s M (by omega)]
    refine ⟨b1, b2, fun j hj => vI_ext h4.2 (b3 j hj) (fun k hk2 => ?_)⟩
    show f_know M 21 (290 * (1 + i) + 29 * j + k) = M 21 (290 * (1 + i) + 29 * j + k)
    rw [f_know_21, if_neg (by omega), f_kn1_21, if_neg (by omega)]
def f_lt1 (M : Nat → Nat → Int) (fe nn : Int) : Nat → Nat → Int := mU (f_know M) 19 (Int.toNat (2 + fe)) (f_know M 19 (Int.toNat (2 + fe)) - nn)
def s_lsp (M : Nat → Nat → Int) (pe sy fe nn sd : Int) : Int := s_ln (f_lt1 M fe nn) pe sy fe nn sd
def s_lst (M : Nat → Nat → Int) (pe sy fe nn sd : Int) : Int := s_hearers (f_lt1 M fe nn) (s_lsp M pe sy fe nn sd) pe
def f_lt2 (M : Nat → Nat → Int) (pe sy fe nn sd : Int) : Nat → Nat → Int := mU (f_lt1 M fe nn) 19 (Int.toNat (6 + sy)) (zor (f_lt1 M fe nn 19 (Int.toNat (6 + sy))) (s_lst M pe sy fe nn sd))
def f_lta (K : Nat → Nat → Int) (sy : Int) : Nat → Nat → Int := mU K 19 (Int.toNat (13 + K 19 12)) sy
def f_ltb (K : Nat → Nat → Int) (sp : Int) : Nat → Nat → Int := mU K 19 (Int.toNat (21 + K 19 12)) sp
def f_ltc (K : Nat → Nat → Int) : Nat → Nat → Int := mU K 19 12 (K 19 12 + 1)
def f_lt3 (K : Nat → Nat → Int) (sy sp : Int) : Nat → Nat → Int := f_ltc (f_ltb (f_lta K sy) sp)
abbrev s_lok (M : Nat → Nat → Int) (pe sy fe nn sd : Int) : Prop := (0 ≤ pe ∧ pe < M 2 0) ∧ (0 ≤ sy ∧ sy < M 5 0) ∧ (0 ≤ fe ∧ fe ≤ 3) ∧ (0 ≤ nn ∧ nn ≤ 3) ∧ (0 ≤ sd ∧ sd ≤ 1)
abbrev s_lgo (M : Nat → Nat → Int) (pe sy fe nn : Int) : Prop := M 19 (Int.toNat (6 + sy)) / zp pe % 2 = 1 ∧ nn ≤ M 19 (Int.toNat (2 + fe))
def s_lets (M : Nat → Nat → Int) (pe sy fe nn sd : Int) : Int := if ¬ s_lok M pe sy fe nn sd then -1 else if ¬ s_lgo M pe sy fe nn then -2 else s_lst M pe sy fe nn sd
def f_lets (M : Nat → Nat → Int) (pe sy fe nn sd : Int) : Nat → Nat → Int := if ¬ s_lok M pe sy fe nn sd then M else if ¬ s_lgo M pe sy fe nn then M else if s_lst M pe sy fe nn sd = 0 ∧ s_lsp M pe sy fe nn sd ≠ -9 then f_lt3 (if f_lt2 M pe sy fe nn sd 19 12 = 8 then f_take (f_lt2 M pe sy fe nn sd) 0 else f_lt2 M pe sy fe nn sd) sy (s_lsp M pe sy fe nn sd) else f_lt2 M pe sy fe nn sd
theorem f_take_12 (M : Nat → Nat → Int) (ii : Int) : f_take M ii 19 12 = M 19 12 - 1 := by
  have q : f_tk M (Int.toNat ii) 7 19 12 = M 19 12 := by
    unfold f_tk
    rw [if_neg (by omega), if_neg (by omega)]
  show f_tk M (Int.toNat ii) 7 19 12 - 1 = _
  rw [q]
theorem mI_lt1 {M : Nat → Nat → Int} (hI : mI M) {fe nn : Int} (hf : 0 ≤ fe ∧ fe ≤ 3) (hn : 0 ≤ nn ∧ nn ≤ M 19 (Int.toNat (2 + fe))) : mI (f_lt1 M fe nn) := by
  have hK := mI_know hI
  have e : f_know M 19 = M 19 := f_know_o M (by decide) (by decide)
  have hb := mI_fe hI (k := fe) (by omega)
  refine mI_now19 hK (mU_f19 _ _ _) (vI_fea (mI_v hK) rfl (by omega) ?_)
  rw [e]
  omega
/-- traces: what the bodies asked come to -/
def zt (k : Int) : Int := ((10 ^ k.toNat : Nat) : Int)
theorem zt_succ {k : Int} (h : 0 ≤ k) : zt (k + 1) = zt k * 10 := by
  obtain ⟨n, rfl⟩ := Int.eq_ofNat_of_zero_le h
  show ((10 ^ (n + 1) : Nat) : Int) = ((10 ^ n : Nat) : Int) * 10
  rw [Nat.pow_succ]
  simp
def s_trN (b : Int) : Nat → Int
  | 0 => 0
  | k + 1 => s_trN b k + (if b / zp k % 2 = 1 then zt k else 0)
theorem s_trN_succ (b : Int) {k : Int} (h : 0 ≤ k) : s_trN b (Int.toNat (k + 1)) = s_trN b (Int.toNat k) + (if b / zp k % 2 = 1 then zt k else 0) := by
  obtain ⟨n, rfl⟩ := Int.eq_ofNat_of_zero_le h
  rfl
theorem s_bodies_bd (kd : Int) : 1 ≤ s_bodies kd ∧ s_bodies kd ≤ 33 := by unfold s_bodies; omega
theorem s_knN_bd (kn : Nat → Int) (pe : Int) : ∀ (k N : Nat), k ≤ N → 0 ≤ s_knN kn pe k ∧ s_knN kn pe k < ((2 ^ N : Nat) : Int)
  | 0, N, _ => ⟨Int.le_refl _, by show (0 : Int) < _; exact_mod_cast Nat.pos_of_ne_zero (by simp)⟩
  | k + 1, N, h => by
    have h1 := s_knN_bd kn pe k N (by omega)
    refine zor_lt h1 ?_
    have h2 : (2 : Nat) ^ k < 2 ^ N := Nat.pow_lt_pow_right (by omega) (by omega)
    have h3 : zp (k : Int) = ((2 ^ k : Nat) : Int) := rfl
    split
    · rw [h3]
      exact ⟨Int.natCast_nonneg _, by exact_mod_cast h2⟩
    · exact ⟨Int.le_refl _, by omega⟩
theorem s_kn_bd (M : Nat → Nat → Int) (pe : Int) (h : M 5 0 ≤ 6) : 0 ≤ s_kn M pe ∧ s_kn M pe < 64 := s_knN_bd (M 19) pe (M 5 0).toNat 6 (by omega)
def s_mkv (M : Nat → Nat → Int) (b pe : Int) : Int := (if b / zp 3 % 2 = 1 then 2 * (M 3 (Int.toNat pe) + (if b / zp 1 % 2 = 1 then s_bits (s_kn M pe) else 0) - (if b / zp 2 % 2 = 1 then M 19 1 else 0)) else M 3 (Int.toNat pe) + (if b / zp 1 % 2 = 1 then s_bits (s_kn M pe) else 0) - (if b / zp 2 % 2 = 1 then M 19 1 else 0)) + (if b / zp 4 % 2 = 1 then pe else 0) + (if b / zp 5 % 2 = 1 then M 19 2 + M 19 3 + M 19 4 + M 19 5 else 0)
def s_mark (M : Nat → Nat → Int) (kd pe : Int) : Int := if ¬ ((0 ≤ kd ∧ kd ≤ 5) ∧ (0 ≤ pe ∧ pe < M 2 0)) then -1000000 else s_mkv M (s_bodies kd) pe
def f_mark (M : Nat → Nat → Int) (kd pe : Int) : Nat → Nat → Int := if ¬ ((0 ≤ kd ∧ kd ≤ 5) ∧ (0 ≤ pe ∧ pe < M 2 0)) then M else mU M 29 0 (M 29 0 + s_trN (s_bodies kd) 6)
theorem mI_o29 {M M2 : Nat → Nat → Int} (hI : mI M) (h : ∀ f, f ≠ 29 → M2 f = M f) : mI M2 := by
  obtain ⟨h1, h2, h3, h4, h5, h6, h7, h8, h9, h10, h11, h12, h13, h14⟩ := hI
  unfold mI
  rw [h 0 (by decide), h 1 (by decide), h 2 (by decide), h 3 (by decide), h 4 (by decide), h 5 (by decide), h 6 (by decide), h 7 (by decide), h 8 (by decide), h 9 (by decide), h 10 (by decide), h 19 (by decide), h 20 (by decide), h 21 (by decide), h 22 (by decide), h 23 (by decide), h 26 (by decide), h 27 (by decide), h 28 (by decide)]
  exact ⟨h1, h2, h3, h4, h5, h6, h7, h8, h9, h10, h11, h12, h13, h14⟩
theorem mU_mU (M : Nat → Nat → Int) (f i : Nat) (v w : Int) : mU (mU M f i v) f i w = mU M f i w := by
  funext g j
  by_cases q : g = f ∧ j = i <;> simp [mU, q]
theorem mU_id (M : Nat → Nat → Int) (f i : Nat) {v : Int} (h : v = M f i) : mU M f i v = M := by
  funext g j
  subst h
  by_cases q : g = f ∧ j = i
  · simp [mU, q]
  · simp [mU, q]
theorem s_one_2 (M : Nat → Nat → Int) {pe : Int} (h : 0 ≤ pe ∧ pe < M 2 0) : s_one M pe 2 = s_kn M pe := by
  unfold s_one
  rw [if_neg (fun q => q h), if_neg (by decide), if_neg (by decide), if_pos rfl]
theorem s_bits_bd (st : Int) : 0 ≤ s_bits st ∧ s_bits st ≤ 31 := s_bitsN_bd st 31
