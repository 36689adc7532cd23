/-! Relay. -/
theorem mI_oo {M M2 : Nat → Nat → Int} (hI : mI M) (h : ∀ f, f ≠ 24 → f ≠ 25 → M2 f = M f) : mI M2 := by
  obtain ⟨h1, h2, h3, h4, h5, h6, h7, h8, h9, h10, h11, h12, h13, h14⟩ := hI
  unfold mI
  rw [h 0 (by decide) (by decide), h 1 (by decide) (by decide), h 2 (by decide) (by decide), h 3 (by decide) (by decide), h 4 (by decide) (by decide), h 5 (by decide) (by decide), h 6 (by decide) (by decide), h 7 (by decide) (by decide), h 8 (by decide) (by decide), h 9 (by decide) (by decide), h 10 (by decide) (by decide), h 19 (by decide) (by decide), h 20 (by decide) (by decide), h 21 (by decide) (by decide), h 22 (by decide) (by decide), h 23 (by decide) (by decide), h 26 (by decide) (by decide), h 27 (by decide) (by decide), h 28 (by decide) (by decide)]
  exact ⟨h1, h2, h3, h4, h5, h6, h7, h8, h9, h10, h11, h12, h13, h14⟩
theorem zor_ge {a b : Int} (ha : 0 ≤ a) : a ≤ zor a b := by
  obtain ⟨n, rfl⟩ := Int.eq_ofNat_of_zero_le ha
  show (n : Int) ≤ ((n ||| b.toNat : Nat) : Int)
  exact_mod_cast Nat.left_le_or
/-- who knows it behind a shot, the shot by its number of 32 -/
def s_beh (K : Nat → Nat → Int) (sy st pe sh : Int) : Int := zor st (s_hearers K (s_ln K pe sy (sh / 8) (sh / 2 % 4) (sh % 2)) pe)
def s_shv (K : Nat → Nat → Int) (sy st pe sh : Int) : Int := if s_beh K sy st pe sh = st then 1000000 else K 24 (Int.toNat (s_beh K sy st pe sh)) + 1
def s_shN (K : Nat → Nat → Int) (sy st pe le : Int) : Nat → Int
  | 0 => le
  | n + 1 => if s_shv K sy st pe (n : Int) < s_shN K sy st pe le n then s_shv K sy st pe (n : Int) else s_shN K sy st pe le n
theorem s_shN_succ (K : Nat → Nat → Int) (sy st pe le : Int) {n : Int} (h : 0 ≤ n) : s_shN K sy st pe le (Int.toNat (n + 1)) = if s_shv K sy st pe n < s_shN K sy st pe le (Int.toNat n) then s_shv K sy st pe n else s_shN K sy st pe le (Int.toNat n) := by
  obtain ⟨k, rfl⟩ := Int.eq_ofNat_of_zero_le h
  rfl
def s_ppN (K : Nat → Nat → Int) (sy st l0 : Int) : Nat → Int
  | 0 => l0
  | p + 1 => if 0 < s_ppN K sy st l0 p ∧ st / zp (p : Int) % 2 = 1 then s_shN K sy st (p : Int) (s_ppN K sy st l0 p) 32 else s_ppN K sy st l0 p
theorem s_ppN_succ (K : Nat → Nat → Int) (sy st l0 : Int) {p : Int} (h : 0 ≤ p) : s_ppN K sy st l0 (Int.toNat (p + 1)) = if 0 < s_ppN K sy st l0 (Int.toNat p) ∧ st / zp p % 2 = 1 then s_shN K sy st p (s_ppN K sy st l0 (Int.toNat p)) 32 else s_ppN K sy st l0 (Int.toNat p) := by
  obtain ⟨k, rfl⟩ := Int.eq_ofNat_of_zero_le h
  rfl
theorem s_ppN_stop (K : Nat → Nat → Int) (sy st l0 : Int) (p : Nat) (h : s_ppN K sy st l0 p ≤ 0) : ∀ d : Nat, s_ppN K sy st l0 (p + d) = s_ppN K sy st l0 p
  | 0 => rfl
  | d + 1 => by
    have q := s_ppN_stop K sy st l0 p h d
    show (if 0 < s_ppN K sy st l0 (p + d) ∧ st / zp (((p + d : Nat)) : Int) % 2 = 1 then s_shN K sy st (((p + d : Nat)) : Int) (s_ppN K sy st l0 (p + d)) 32 else s_ppN K sy st l0 (p + d)) = _
    rw [if_neg (by omega)]
    exact q
def s_l0 (st to : Int) : Int := if st / zp to % 2 = 1 then 0 else 1000000
def s_lstp (K : Nat → Nat → Int) (sy to st : Int) : Int := s_ppN K sy st (s_l0 st to) (Int.toNat (K 2 0))
theorem s_lstp_end {K : Nat → Nat → Int} {sy to st le pp : Int} (h : le = s_ppN K sy st (s_l0 st to) (Int.toNat pp)) (hp : 0 ≤ pp ∧ pp ≤ K 2 0) (he : pp = K 2 0 ∨ le ≤ 0) : s_lstp K sy to st = le := by
  unfold s_lstp
  rcases he with q | q
  · rw [h, q]
  · obtain ⟨d, hd⟩ : ∃ d : Nat, Int.toNat (K 2 0) = Int.toNat pp + d := ⟨Int.toNat (K 2 0) - Int.toNat pp, by omega⟩
    rw [hd, s_ppN_stop _ _ _ _ _ (by rw [← h]; exact q), ← h]
def f_ms (M : Nat → Nat → Int) (sy to : Int) : Nat → (Nat → Nat → Int)
  | 0 => M
  | n + 1 => mU (f_ms M sy to n) 24 (63 - n) (s_lstp (f_ms M sy to n) sy to (63 - (n : Int)))
theorem f_ms_succ (M : Nat → Nat → Int) (sy to : Int) {st : Int} (h : 1 ≤ st ∧ st ≤ 63) : f_ms M sy to (Int.toNat (63 - (st + (-1)))) = mU (f_ms M sy to (Int.toNat (63 - st))) 24 (Int.toNat st) (s_lstp (f_ms M sy to (Int.toNat (63 - st))) sy to st) := by
  obtain ⟨n, hn⟩ : ∃ n : Nat, Int.toNat (63 - st) = n := ⟨_, rfl⟩
  have e1 : Int.toNat (63 - (st + (-1))) = n + 1 := by omega
  have e2 : Int.toNat st = 63 - n := by omega
  have e3 : st = 63 - (n : Int) := by omega
  rw [e1, hn, e2, e3]
  rfl
def f_meas (M : Nat → Nat → Int) (sy to : Int) : Nat → Nat → Int := f_ms M sy to 63
theorem f_ms_o (M : Nat → Nat → Int) (sy to : Int) : ∀ (n f : Nat), f ≠ 24 → f_ms M sy to n f = M f
  | 0, _, _ => rfl
  | n + 1, f, h => by
    rw [← f_ms_o M sy to n f h]
    funext j
    exact mU_nf _ _ _ _ h
