/-! Odds, places, who, ask. -/
def s_upN (M : Nat → Nat → Int) (pe ot sy sh : Int) : Nat → Int
  | 0 => 0
  | k + 1 => s_upN M pe ot sy sh k + (if s_hrd M pe ot sy sh (M 10 k) then 1 else 0)
theorem s_upN_succ (M : Nat → Nat → Int) (pe ot sy sh : Int) {k : Int} (h : 0 ≤ k) : s_upN M pe ot sy sh (Int.toNat (k + 1)) = s_upN M pe ot sy sh (Int.toNat k) + (if s_hrd M pe ot sy sh (M 10 (Int.toNat k)) then 1 else 0) := by
  obtain ⟨n, rfl⟩ := Int.eq_ofNat_of_zero_le h
  rfl
theorem zg_step {a b : Int} (ha : 0 ≤ a) (hb : 0 < b) : Nat.gcd (Int.toNat b) (Int.toNat (a % b)) = Nat.gcd (Int.toNat a) (Int.toNat b) := by
  obtain ⟨n, rfl⟩ := Int.eq_ofNat_of_zero_le ha
  obtain ⟨k, rfl⟩ := Int.eq_ofNat_of_zero_le (Int.le_of_lt hb)
  have e : Int.toNat ((n : Int) % (k : Int)) = n % k := by rw [← Int.natCast_emod]; rfl
  rw [e, Int.toNat_natCast, Int.toNat_natCast, Nat.gcd_comm k (n % k), Nat.gcd_comm n k]
  exact (Nat.gcd_rec k n).symm
theorem zg_end {a b : Int} {g : Nat} (h : Nat.gcd (Int.toNat a) (Int.toNat b) = g) (hb : b = 0) (ha : 0 ≤ a) : a = (g : Int) := by
  subst hb
  have q : Nat.gcd (Int.toNat a) (Int.toNat 0) = Int.toNat a := Nat.gcd_zero_right _
  omega
def s_up (M : Nat → Nat → Int) (pe ot sy sh : Int) : Int := s_upN M pe ot sy sh (Int.toNat (M 9 0))
def s_ogc (M : Nat → Nat → Int) (pe ot sy sh : Int) : Int := ((Nat.gcd (Int.toNat (s_up M pe ot sy sh)) (Int.toNat (M 9 0)) : Nat) : Int)
def s_odds (M : Nat → Nat → Int) (pe ot sy sh wh : Int) : Int := if ¬ (((0 ≤ pe ∧ pe < M 2 0) ∧ (0 ≤ ot ∧ ot < M 2 0) ∧ ¬ (pe = ot)) ∧ (0 ≤ sy ∧ sy < M 5 0) ∧ (0 ≤ sh ∧ sh / 100 ≤ 3 ∧ sh / 10 % 10 ≤ 3 ∧ sh % 10 ≤ 1) ∧ (0 ≤ wh ∧ wh ≤ 1)) then -1 else if wh = 0 then s_up M pe ot sy sh / s_ogc M pe ot sy sh else M 9 0 / s_ogc M pe ot sy sh
theorem s_land_or (pl tw we dm fe nn sd bw : Int) : s_land pl tw we dm fe nn sd bw = -9 ∨ 0 ≤ s_land pl tw we dm fe nn sd bw := by unfold s_land; omega
def s_spN (M : Nat → Nat → Int) (pe sy : Int) : Nat → Int
  | 0 => 0
  | k + 1 => zor (s_spN M pe sy k) (if s_ln M pe sy ((k : Int) / 8) ((k : Int) / 2 % 4) ((k : Int) % 2) = -9 then 0 else zp (s_ln M pe sy ((k : Int) / 8) ((k : Int) / 2 % 4) ((k : Int) % 2)))
theorem s_spN_succ (M : Nat → Nat → Int) (pe sy : Int) {k : Int} (h : 0 ≤ k) : s_spN M pe sy (Int.toNat (k + 1)) = zor (s_spN M pe sy (Int.toNat k)) (if s_ln M pe sy (k / 8) (k / 2 % 4) (k % 2) = -9 then 0 else zp (s_ln M pe sy (k / 8) (k / 2 % 4) (k % 2))) := by
  obtain ⟨n, rfl⟩ := Int.eq_ofNat_of_zero_le h
  rfl
theorem zp_lt {k : Int} {N : Nat} (h : k < (N : Int)) (hN : 0 < N) : zp k < ((2 ^ N : Nat) : Int) := by
  unfold zp
  have q : 2 ^ k.toNat < 2 ^ N := Nat.pow_lt_pow_right (by omega) (by omega)
  exact_mod_cast q
theorem s_spN_bd (M : Nat → Nat → Int) (pe sy : Int) : ∀ k : Nat, 0 ≤ s_spN M pe sy k ∧ s_spN M pe sy k < ((2 ^ 31 : Nat) : Int)
  | 0 => ⟨Int.le_refl _, by show (0 : Int) < _; decide⟩
  | k + 1 => by
    refine zor_lt (s_spN_bd M pe sy k) ?_
    split
    · exact ⟨Int.le_refl _, by decide⟩
    · have q : s_ln M pe sy ((k : Int) / 8) ((k : Int) / 2 % 4) ((k : Int) % 2) ≤ 30 := (s_land_bd _ _ _ _ _ _ _ _).2
      exact ⟨zp_nn _, zp_lt (by omega) (by omega)⟩
def s_spots (M : Nat → Nat → Int) (pe sy : Int) : Int := s_spN M pe sy 32
theorem s_spots_bd (M : Nat → Nat → Int) (pe sy : Int) : 0 ≤ s_spots M pe sy ∧ s_spots M pe sy < 2147483648 := s_spN_bd M pe sy 32
theorem mI_si {M : Nat → Nat → Int} (hI : mI M) {k : Int} (h : 0 ≤ k ∧ k < M 28 0) : (0 ≤ M 26 (Int.toNat k) ∧ M 26 (Int.toNat k) < M 5 0) ∧ (0 ≤ M 27 (Int.toNat k) ∧ M 27 (Int.toNat k) ≤ 30) := by
  obtain ⟨n, rfl⟩ := Int.eq_ofNat_of_zero_le h.1
  exact hI.2.2.2.2.2.2.2.2.2.2.2.2.2 n h.2
def s_isN (M : Nat → Nat → Int) (pp : Int) : Nat → Int
  | 0 => 1
  | k + 1 => if s_isN M pp k = 1 ∧ s_spots M pp (M 26 k) / zp (M 27 k) % 2 = 1 then 1 else 0
theorem s_isN_succ (M : Nat → Nat → Int) (pp : Int) {k : Int} (h : 0 ≤ k) : s_isN M pp (Int.toNat (k + 1)) = if s_isN M pp (Int.toNat k) = 1 ∧ s_spots M pp (M 26 (Int.toNat k)) / zp (M 27 (Int.toNat k)) % 2 = 1 then 1 else 0 := by
  obtain ⟨n, rfl⟩ := Int.eq_ofNat_of_zero_le h
  rfl
def s_whoN (M : Nat → Nat → Int) : Nat → Int
  | 0 => 0
  | p + 1 => zor (s_whoN M p) (if s_isN M (p : Int) (Int.toNat (M 28 0)) = 1 then zp p else 0)
theorem s_whoN_succ (M : Nat → Nat → Int) {p : Int} (h : 0 ≤ p) : s_whoN M (Int.toNat (p + 1)) = zor (s_whoN M (Int.toNat p)) (if s_isN M p (Int.toNat (M 28 0)) = 1 then zp p else 0) := by
  obtain ⟨n, rfl⟩ := Int.eq_ofNat_of_zero_le h
  rfl
theorem s_whoN_bd (M : Nat → Nat → Int) : ∀ (k N : Nat), k ≤ N → 0 ≤ s_whoN M k ∧ s_whoN M k < ((2 ^ N : Nat) : Int)
  | 0, N, _ => ⟨Int.le_refl _, by show (0 : Int) < _; exact_mod_cast Nat.pos_of_ne_zero (by simp)⟩
  | k + 1, N, h => by
    refine zor_lt (s_whoN_bd M k N (by omega)) ?_
    split
    · exact ⟨zp_nn _, zp_lt (by omega) (by omega)⟩
    · exact ⟨Int.le_refl _, by exact_mod_cast Nat.pos_of_ne_zero (by simp)⟩
def s_who (M : Nat → Nat → Int) : Int := s_whoN M (Int.toNat (M 2 0))
theorem s_who_bd (M : Nat → Nat → Int) (h : M 2 0 ≤ 6) : 0 ≤ s_who M ∧ s_who M < 64 := s_whoN_bd M (Int.toNat (M 2 0)) 6 (by omega)
def s_cntN (M : Nat → Nat → Int) (ws sy pe : Int) : Nat → Int
  | 0 => 0
  | o + 1 => s_cntN M ws sy pe o + (if ws / zp pe % 2 = 1 ∧ ws / zp (o : Int) % 2 = 1 ∧ s_bits (s_spots M (o : Int) sy) = s_bits (s_spots M pe sy) then 1 else 0)
theorem s_cntN_succ (M : Nat → Nat → Int) (ws sy pe : Int) {o : Int} (h : 0 ≤ o) : s_cntN M ws sy pe (Int.toNat (o + 1)) = s_cntN M ws sy pe (Int.toNat o) + (if ws / zp pe % 2 = 1 ∧ ws / zp o % 2 = 1 ∧ s_bits (s_spots M o sy) = s_bits (s_spots M pe sy) then 1 else 0) := by
  obtain ⟨n, rfl⟩ := Int.eq_ofNat_of_zero_le h
  rfl
theorem s_cntN_bd (M : Nat → Nat → Int) (ws sy pe : Int) : ∀ o : Nat, 0 ≤ s_cntN M ws sy pe o ∧ s_cntN M ws sy pe o ≤ (o : Int)
  | 0 => ⟨Int.le_refl _, Int.le_refl _⟩
  | o + 1 => by
    have h := s_cntN_bd M ws sy pe o
    show 0 ≤ s_cntN M ws sy pe o + (if _ then (1 : Int) else 0) ∧ s_cntN M ws sy pe o + (if _ then (1 : Int) else 0) ≤ _
    split <;> omega
def s_cnt (M : Nat → Nat → Int) (ws sy pe : Int) : Int := s_cntN M ws sy pe (Int.toNat (M 2 0))
def s_mostN (M : Nat → Nat → Int) (ws sy : Int) : Nat → Int
  | 0 => 0
  | p + 1 => if s_mostN M ws sy p < s_cnt M ws sy (p : Int) then s_cnt M ws sy (p : Int) else s_mostN M ws sy p
theorem s_mostN_succ (M : Nat → Nat → Int) (ws sy : Int) {p : Int} (h : 0 ≤ p) : s_mostN M ws sy (Int.toNat (p + 1)) = if s_mostN M ws sy (Int.toNat p) < s_cnt M ws sy p then s_cnt M ws sy p else s_mostN M ws sy (Int.toNat p) := by
  obtain ⟨n, rfl⟩ := Int.eq_ofNat_of_zero_le h
  rfl
def s_most (M : Nat → Nat → Int) (ws sy : Int) : Int := s_mostN M ws sy (Int.toNat (M 2 0))
def s_askN (M : Nat → Nat → Int) (ws : Int) : Nat → Int × Int
  | 0 => (-9, 0)
  | s + 1 => if (s_askN M ws s).1 = -9 ∨ s_most M ws (s : Int) < (s_askN M ws s).2 then ((s : Int), s_most M ws (s : Int)) else s_askN M ws s
theorem s_askN_1 (M : Nat → Nat → Int) (ws : Int) {s : Int} (h : 0 ≤ s) : (s_askN M ws (Int.toNat (s + 1))).1 = if (s_askN M ws (Int.toNat s)).1 = -9 ∨ s_most M ws s < (s_askN M ws (Int.toNat s)).2 then s else (s_askN M ws (Int.toNat s)).1 := by
  obtain ⟨n, rfl⟩ := Int.eq_ofNat_of_zero_le h
  rw [Int.toNat_natCast]
  show (if (s_askN M ws n).1 = -9 ∨ s_most M ws (n : Int) < (s_askN M ws n).2 then ((n : Int), s_most M ws (n : Int)) else s_askN M ws n).1 = _
  by_cases q : (s_askN M ws n).1 = -9 ∨ s_most M ws (n : Int) < (s_askN M ws n).2
  · rw [if_pos q, if_pos q]
  · rw [if_neg q, if_neg q]
theorem s_askN_2 (M : Nat → Nat → Int) (ws : Int) {s : Int} (h : 0 ≤ s) : (s_askN M ws (Int.toNat (s + 1))).2 = if (s_askN M ws (Int.toNat s)).1 = -9 ∨ s_most M ws s < (s_askN M ws (Int.toNat s)).2 then s_most M ws s else (s_askN M ws (Int.toNat s)).2 := by
  obtain ⟨n, rfl⟩ := Int.eq_ofNat_of_zero_le h
  rw [Int.toNat_natCast]
  show (if (s_askN M ws n).1 = -9 ∨ s_most M ws (n : Int) < (s_askN M ws n).2 then ((n : Int), s_most M ws (n : Int)) else s_askN M ws n).2 = _
  by_cases q : (s_askN M ws n).1 = -9 ∨ s_most M ws (n : Int) < (s_askN M ws n).2
  · rw [if_pos q, if_pos q]
  · rw [if_neg q, if_neg q]
def s_ask (M : Nat → Nat → Int) : Int := if s_bits (s_who M) ≤ 1 then -9 else (s_askN M (s_who M) (Int.toNat (M 5 0))).1
