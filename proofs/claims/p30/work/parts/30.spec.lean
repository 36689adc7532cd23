/-! What the reference answers, in numbers. -/
theorem zp_nn (k : Int) : 0 ≤ zp k := Int.natCast_nonneg _
theorem zp_pos (k : Int) : 0 < zp k := by
  unfold zp
  exact_mod_cast Nat.pos_of_ne_zero (by simp)
theorem z_mod {x y : Int} (hy : 0 < y) : 0 ≤ x % y ∧ x % y < y := ⟨Int.emod_nonneg _ (by omega), Int.emod_lt_of_pos _ hy⟩
def s_lift (f : Int) : Int := if f = 0 then 3 else if f = 1 then 6 else if f = 2 then 4 else 2
theorem s_lift_bd (f : Int) : 2 ≤ s_lift f ∧ s_lift f ≤ 6 := by unfold s_lift; omega
theorem s_lift_mul {n : Int} (f : Int) (h : 0 ≤ n ∧ n ≤ 3) : 0 ≤ n * s_lift f ∧ n * s_lift f ≤ 18 := by
  have q := s_lift_bd f
  rcases (show n = 0 ∨ n = 1 ∨ n = 2 ∨ n = 3 by omega) with rfl | rfl | rfl | rfl <;> omega
abbrev s_hear (pl ea sp : Int) : Prop := sp ≠ -9 ∧ pl - sp ≤ ea ∧ sp - pl ≤ ea
def s_fly (tw we dm fe nn : Int) : Int := if nn = 0 then tw else if nn * s_lift fe + tw - we - (if fe = 2 then 0 else dm) < 0 then 0 else nn * s_lift fe + tw - we - (if fe = 2 then 0 else dm)
def s_to (pl fl fe nn sd bw : Int) : Int := pl + (if (nn = 0 ∧ sd = 0) ∨ (nn ≠ 0 ∧ sd = 1) then fl else -fl) + (if 0 < fl ∧ (nn = 0 ∨ fe ≠ 3) then bw else 0)
def s_land (pl tw we dm fe nn sd bw : Int) : Int := if 0 ≤ s_to pl (s_fly tw we dm fe nn) fe nn sd bw ∧ s_to pl (s_fly tw we dm fe nn) fe nn sd bw ≤ 30 then s_to pl (s_fly tw we dm fe nn) fe nn sd bw else -9
theorem s_land_bd (pl tw we dm fe nn sd bw : Int) : -9 ≤ s_land pl tw we dm fe nn sd bw ∧ s_land pl tw we dm fe nn sd bw ≤ 30 := by unfold s_land; omega
/-- who of the first k hears what lands there, but one -/
def s_heN (pl ea : Nat → Int) (sp but : Int) : Nat → Int
  | 0 => 0
  | k + 1 => zor (s_heN pl ea sp but k) (if (k : Int) ≠ but ∧ s_hear (pl k) (ea k) sp then zp k else 0)
theorem s_heN_succ (pl ea : Nat → Int) (sp but : Int) {k : Int} (h : 0 ≤ k) : s_heN pl ea sp but (k + 1).toNat = zor (s_heN pl ea sp but k.toNat) (if k ≠ but ∧ s_hear (pl k.toNat) (ea k.toNat) sp then zp k else 0) := by
  obtain ⟨n, rfl⟩ := Int.eq_ofNat_of_zero_le h
  rfl
theorem zor_lt {a b : Int} {k : Nat} (ha : 0 ≤ a ∧ a < ((2 ^ k : Nat) : Int)) (hb : 0 ≤ b ∧ b < ((2 ^ k : Nat) : Int)) : 0 ≤ zor a b ∧ zor a b < ((2 ^ k : Nat) : Int) := by
  obtain ⟨n, rfl⟩ := Int.eq_ofNat_of_zero_le ha.1
  obtain ⟨j, rfl⟩ := Int.eq_ofNat_of_zero_le hb.1
  refine ⟨Int.natCast_nonneg _, ?_⟩
  have h1 : n < 2 ^ k := by exact_mod_cast ha.2
  have h2 : j < 2 ^ k := by exact_mod_cast hb.2
  have h3 : n ||| j < 2 ^ k := Nat.or_lt_two_pow h1 h2
  show (((n ||| j : Nat)) : Int) < _
  exact_mod_cast h3
theorem s_heN_bd (pl ea : Nat → Int) (sp but : Int) : ∀ (k N : Nat), k ≤ N → 0 ≤ s_heN pl ea sp but k ∧ s_heN pl ea sp but k < ((2 ^ N : Nat) : Int)
  | 0, N, _ => ⟨Int.le_refl _, by show (0 : Int) < _; exact_mod_cast Nat.pos_of_ne_zero (by simp)⟩
  | k + 1, N, h => by
    have h1 := s_heN_bd pl ea sp but k N (by omega)
    refine zor_lt h1 ?_
    have h2 : (2 : Nat) ^ k < 2 ^ N := Nat.pow_lt_pow_right (by omega) (by omega)
    have h3 : zp (k : Int) = ((2 ^ k : Nat) : Int) := rfl
    split
    · rw [h3]
      exact ⟨Int.natCast_nonneg _, by exact_mod_cast h2⟩
    · exact ⟨Int.le_refl _, by omega⟩
def s_hearers (M : Nat → Nat → Int) (sp but : Int) : Int := s_heN (M 3) (M 4) sp but (M 2 0).toNat
/-- how many bits -/
def s_bitsN (st : Int) : Nat → Int
  | 0 => 0
  | k + 1 => s_bitsN st k + st / zp k % 2
theorem s_bitsN_succ (st : Int) {k : Int} (h : 0 ≤ k) : s_bitsN st (k + 1).toNat = s_bitsN st k.toNat + st / zp k % 2 := by
  obtain ⟨n, rfl⟩ := Int.eq_ofNat_of_zero_le h
  rfl
theorem s_bitsN_bd (st : Int) : ∀ k : Nat, 0 ≤ s_bitsN st k ∧ s_bitsN st k ≤ k
  | 0 => ⟨Int.le_refl _, Int.le_refl _⟩
  | k + 1 => by
    have h1 := s_bitsN_bd st k
    have h2 : 0 ≤ st / zp k % 2 ∧ st / zp k % 2 < 2 := z_mod (by omega)
    show 0 ≤ s_bitsN st k + st / zp k % 2 ∧ s_bitsN st k + st / zp k % 2 ≤ _
    omega
def s_bits (st : Int) : Int := s_bitsN st 31
/-- which sayings one knows, of the first k -/
def s_knN (kn : Nat → Int) (pe : Int) : Nat → Int
  | 0 => 0
  | k + 1 => zor (s_knN kn pe k) (if kn (6 + k) / zp pe % 2 = 1 then zp k else 0)
theorem s_knN_succ (kn : Nat → Int) (pe : Int) {k : Int} (h : 0 ≤ k) : s_knN kn pe (k + 1).toNat = zor (s_knN kn pe k.toNat) (if kn (Int.toNat (6 + k)) / zp pe % 2 = 1 then zp k else 0) := by
  obtain ⟨n, rfl⟩ := Int.eq_ofNat_of_zero_le h
  rfl
theorem zor_nn (a b : Int) : 0 ≤ zor a b := Int.natCast_nonneg _
theorem s_knN_nn (kn : Nat → Int) (pe : Int) : ∀ k : Nat, 0 ≤ s_knN kn pe k
  | 0 => Int.le_refl _
  | k + 1 => zor_nn _ _
def s_wind (M : Nat → Nat → Int) (n : Int) : Int := M 10 (Int.toNat ((M 19 0 + n) % M 9 0))
/-- what a row of now may hold -/
def vI (P S : Int) (v : Nat → Int) : Prop := (0 ≤ v 0 ∧ v 0 ≤ 999) ∧ (0 ≤ v 1 ∧ v 1 ≤ 5) ∧ (∀ k : Nat, k < 4 → 0 ≤ v (2 + k) ∧ v (2 + k) ≤ 20) ∧ (∀ k : Nat, k < 6 → 0 ≤ v (6 + k) ∧ v (6 + k) < 64) ∧ (0 ≤ v 12 ∧ v 12 ≤ 8) ∧ (∀ k : Nat, (k : Int) < v 12 → (0 ≤ v (13 + k) ∧ v (13 + k) < S) ∧ (0 ≤ v (21 + k) ∧ v (21 + k) ≤ 30)) ∧ (∀ k : Nat, (k : Int) < S → 0 < v (6 + k))
/-- what holds between calls -/
def mI (M : Nat → Nat → Int) : Prop :=
  (0 ≤ M 1 0 ∧ M 1 0 ≤ 120) ∧ (∀ k : Nat, k < 120 → -128 ≤ M 0 k ∧ M 0 k < 128) ∧
  (0 ≤ M 2 0 ∧ M 2 0 ≤ 6) ∧ (0 ≤ M 5 0 ∧ M 5 0 ≤ 6) ∧ (1 ≤ M 9 0 ∧ M 9 0 ≤ 6) ∧
  (∀ k : Nat, (k : Int) < M 2 0 → (0 ≤ M 3 k ∧ M 3 k ≤ 30) ∧ (0 ≤ M 4 k ∧ M 4 k ≤ 5)) ∧
  (∀ k : Nat, (k : Int) < M 5 0 → (1 ≤ M 6 k ∧ M 6 k ≤ 9) ∧ (0 ≤ M 7 k ∧ M 7 k ≤ 3) ∧ (0 ≤ M 8 k ∧ M 8 k < M 2 0)) ∧
  (∀ k : Nat, (k : Int) < M 9 0 → -4 ≤ M 10 k ∧ M 10 k ≤ 4) ∧
  vI (M 2 0) (M 5 0) (M 19) ∧
  (0 ≤ M 20 0 ∧ M 20 0 ≤ 10) ∧ (∀ j : Nat, (j : Int) < M 20 0 → vI (M 2 0) (M 5 0) (fun k => M 21 (29 * j + k))) ∧
  (∀ i : Nat, i < 2 → (M 23 i = 0 ∨ M 23 i = 1) ∧ (M 23 i = 1 → vI (M 2 0) (M 5 0) (fun k => M 22 (29 * i + k)) ∧ (0 ≤ M 20 (1 + i) ∧ M 20 (1 + i) ≤ 10) ∧ (∀ j : Nat, (j : Int) < M 20 (1 + i) → vI (M 2 0) (M 5 0) (fun k => M 21 (290 * (1 + i) + 29 * j + k))))) ∧
  (0 ≤ M 28 0 ∧ M 28 0 ≤ 4) ∧ (∀ k : Nat, (k : Int) < M 28 0 → (0 ≤ M 26 k ∧ M 26 k < M 5 0) ∧ (0 ≤ M 27 k ∧ M 27 k ≤ 30))
theorem mI_now {M : Nat → Nat → Int} (hI : mI M) : (0 ≤ M 1 0 ∧ M 1 0 ≤ 120) ∧ (0 ≤ M 2 0 ∧ M 2 0 ≤ 6) ∧ (0 ≤ M 5 0 ∧ M 5 0 ≤ 6) ∧ (1 ≤ M 9 0 ∧ M 9 0 ≤ 6) ∧ (0 ≤ M 19 0 ∧ M 19 0 ≤ 999) ∧ (0 ≤ M 19 1 ∧ M 19 1 ≤ 5) ∧ (0 ≤ M 19 12 ∧ M 19 12 ≤ 8) ∧ (0 ≤ M 20 0 ∧ M 20 0 ≤ 10) ∧ (0 ≤ M 28 0 ∧ M 28 0 ≤ 4) := by
  obtain ⟨h1, h2, h3, h4, h5, h6, h7, h8, h9, h10, h11, h12, h13, h14⟩ := hI
  obtain ⟨v1, v2, v3, v4, v5, v6, v7⟩ := h9
  exact ⟨h1, h3, h4, h5, v1, v2, v5, h10, h13⟩
theorem mI_pe {M : Nat → Nat → Int} (hI : mI M) {k : Int} (h : 0 ≤ k ∧ k < M 2 0) : (0 ≤ M 3 (Int.toNat k) ∧ M 3 (Int.toNat k) ≤ 30) ∧ (0 ≤ M 4 (Int.toNat k) ∧ M 4 (Int.toNat k) ≤ 5) := by
  obtain ⟨n, rfl⟩ := Int.eq_ofNat_of_zero_le h.1
  exact hI.2.2.2.2.2.1 n h.2
theorem mI_sy {M : Nat → Nat → Int} (hI : mI M) {k : Int} (h : 0 ≤ k ∧ k < M 5 0) : (1 ≤ M 6 (Int.toNat k) ∧ M 6 (Int.toNat k) ≤ 9) ∧ (0 ≤ M 7 (Int.toNat k) ∧ M 7 (Int.toNat k) ≤ 3) ∧ (0 ≤ M 8 (Int.toNat k) ∧ M 8 (Int.toNat k) < M 2 0) := by
  obtain ⟨n, rfl⟩ := Int.eq_ofNat_of_zero_le h.1
  exact hI.2.2.2.2.2.2.1 n h.2
theorem mI_wd {M : Nat → Nat → Int} (hI : mI M) (n : Int) : -4 ≤ s_wind M n ∧ s_wind M n ≤ 4 := by
  have h5 := hI.2.2.2.2.1
  have q : 0 ≤ (M 19 0 + n) % M 9 0 ∧ (M 19 0 + n) % M 9 0 < M 9 0 := z_mod (by omega)
  unfold s_wind
  obtain ⟨j, hj⟩ := Int.eq_ofNat_of_zero_le q.1
  rw [hj]
  exact hI.2.2.2.2.2.2.2.1 j (by omega)
theorem mI_wk {M : Nat → Nat → Int} (hI : mI M) {k : Int} (h : 0 ≤ k ∧ k < M 9 0) : -4 ≤ M 10 (Int.toNat k) ∧ M 10 (Int.toNat k) ≤ 4 := by
  obtain ⟨n, rfl⟩ := Int.eq_ofNat_of_zero_le h.1
  exact hI.2.2.2.2.2.2.2.1 n h.2
theorem mI_kn {M : Nat → Nat → Int} (hI : mI M) {k : Int} (h : 0 ≤ k ∧ k < 6) : 0 ≤ M 19 (Int.toNat (6 + k)) ∧ M 19 (Int.toNat (6 + k)) < 64 := by
  obtain ⟨n, rfl⟩ := Int.eq_ofNat_of_zero_le h.1
  exact hI.2.2.2.2.2.2.2.2.1.2.2.2.1 n (by omega)
theorem mI_fe {M : Nat → Nat → Int} (hI : mI M) {k : Int} (h : 0 ≤ k ∧ k < 4) : 0 ≤ M 19 (Int.toNat (2 + k)) ∧ M 19 (Int.toNat (2 + k)) ≤ 20 := by
  obtain ⟨n, rfl⟩ := Int.eq_ofNat_of_zero_le h.1
  exact hI.2.2.2.2.2.2.2.2.1.2.2.1 n (by omega)
