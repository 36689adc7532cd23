/-! Allot. -/
def s_lkh (M : Nat → Nat → Int) (ss kd nn : Int) : Int := s_hearers M (s_ln M (M 8 (Int.toNat ss)) ss kd nn 1) (M 8 (Int.toNat ss))
def s_lkN (M : Nat → Nat → Int) (ss kd : Int) : Nat → Int
  | 0 => 1000000
  | i + 1 => if ¬ (s_lkh M ss kd (3 - (i : Int)) = 0) then 3 - (i : Int) else s_lkN M ss kd i
theorem s_lkN_succ (M : Nat → Nat → Int) (ss kd : Int) {nn : Int} (h : nn ≤ 3) : s_lkN M ss kd (Int.toNat (3 - (nn + (-1)))) = if ¬ (s_lkh M ss kd nn = 0) then nn else s_lkN M ss kd (Int.toNat (3 - nn)) := by
  obtain ⟨n, hn⟩ : ∃ n : Nat, Int.toNat (3 - nn) = n := ⟨_, rfl⟩
  have e1 : Int.toNat (3 - (nn + (-1))) = n + 1 := by omega
  have e3 : nn = 3 - (n : Int) := by omega
  rw [e1, hn, e3]
  rfl
def s_lk (M : Nat → Nat → Int) (ss kd : Int) : Int := s_lkN M ss kd (if kd = 0 then 4 else 3)
def f_tdN (M : Nat → Nat → Int) (n : Nat) : Nat → Nat → Int := fun f j => if f = 25 ∧ j < n then s_lk M ((j / 4 : Nat) : Int) ((j % 4 : Nat) : Int) else M f j
theorem f_tdN_0 (M : Nat → Nat → Int) : f_tdN M 0 = M := by
  funext f j
  exact if_neg (by omega)
theorem f_tdN_o (M : Nat → Nat → Int) (n : Nat) {f : Nat} (h : f ≠ 25) : f_tdN M n f = M f := by
  funext j
  exact if_neg (fun q => h q.1)
theorem f_tdN_succ (M : Nat → Nat → Int) (n : Nat) : mU (f_tdN M n) 25 n (s_lk M ((n / 4 : Nat) : Int) ((n % 4 : Nat) : Int)) = f_tdN M (n + 1) := by
  funext f j
  by_cases hf : f = 25
  · subst hf
    by_cases hj : j = n
    · subst hj
      simp [mU, f_tdN]
    · simp only [mU, f_tdN, true_and]
      rw [if_neg hj]
      have c : j < n + 1 ↔ j < n := by omega
      simp only [c]
  · simp [mU, f_tdN, hf]
theorem f_td_end (M : Nat → Nat → Int) {ss kd nn : Int} (hs : 0 ≤ ss) (hk : 0 ≤ kd ∧ kd < 4) (hn : (kd = 0 ∧ nn = -1) ∨ (¬ (kd = 0) ∧ nn = 0)) : mU (f_tdN M (Int.toNat (4 * ss + kd))) 25 (Int.toNat (4 * ss + kd)) (s_lkN M ss kd (Int.toNat (3 - nn))) = f_tdN M (Int.toNat (4 * ss + (kd + 1))) := by
  obtain ⟨n, hn2⟩ : ∃ n : Nat, Int.toNat (4 * ss + kd) = n := ⟨_, rfl⟩
  have e1 : Int.toNat (4 * ss + (kd + 1)) = n + 1 := by omega
  have e2 : ((n / 4 : Nat) : Int) = ss := by omega
  have e3 : ((n % 4 : Nat) : Int) = kd := by omega
  have e4 : s_lkN M ss kd (Int.toNat (3 - nn)) = s_lk M ss kd := by
    unfold s_lk
    rcases hn with ⟨a, b⟩ | ⟨a, b⟩
    · rw [if_pos a, b]; rfl
    · rw [if_neg a, b]; rfl
  rw [hn2, e1, e4, ← f_tdN_succ, e2, e3]
def f_td (M : Nat → Nat → Int) : Nat → Nat → Int := f_tdN M (Int.toNat (4 * M 5 0))
def s_tk (M : Nat → Nat → Int) (st rw : Int) : Nat → Nat → Int
  | 0 => fun i => if i = 0 then rw else 0
  | n + 1 => fun i => if st / zp (M 5 0 - 1 - (n : Int)) % 2 = 1 then (if i = 0 then s_tk M st rw n 0 / 4 else if i = 1 then s_tk M st rw n 1 + M 25 (Int.toNat (4 * (M 5 0 - 1 - (n : Int)) + s_tk M st rw n 0 % 4)) else s_tk M st rw n i + (if s_tk M st rw n 0 % 4 = (i : Int) - 2 then M 25 (Int.toNat (4 * (M 5 0 - 1 - (n : Int)) + s_tk M st rw n 0 % 4)) else 0)) else s_tk M st rw n i
theorem s_tk_0 (M : Nat → Nat → Int) (st rw : Int) {ss : Int} (h : 0 ≤ ss ∧ ss ≤ M 5 0 - 1) : s_tk M st rw (Int.toNat (M 5 0 - 1 - (ss + (-1)))) 0 = if st / zp ss % 2 = 1 then s_tk M st rw (Int.toNat (M 5 0 - 1 - ss)) 0 / 4 else s_tk M st rw (Int.toNat (M 5 0 - 1 - ss)) 0 := by
  obtain ⟨n, hn⟩ : ∃ n : Nat, Int.toNat (M 5 0 - 1 - ss) = n := ⟨_, rfl⟩
  have e1 : Int.toNat (M 5 0 - 1 - (ss + (-1))) = n + 1 := by omega
  have e3 : ss = M 5 0 - 1 - (n : Int) := by omega
  rw [e1, hn, e3]
  rfl
theorem s_tk_1 (M : Nat → Nat → Int) (st rw : Int) {ss : Int} (h : 0 ≤ ss ∧ ss ≤ M 5 0 - 1) : s_tk M st rw (Int.toNat (M 5 0 - 1 - (ss + (-1)))) 1 = if st / zp ss % 2 = 1 then s_tk M st rw (Int.toNat (M 5 0 - 1 - ss)) 1 + M 25 (Int.toNat (4 * ss + s_tk M st rw (Int.toNat (M 5 0 - 1 - ss)) 0 % 4)) else s_tk M st rw (Int.toNat (M 5 0 - 1 - ss)) 1 := by
  obtain ⟨n, hn⟩ : ∃ n : Nat, Int.toNat (M 5 0 - 1 - ss) = n := ⟨_, rfl⟩
  have e1 : Int.toNat (M 5 0 - 1 - (ss + (-1))) = n + 1 := by omega
  have e3 : ss = M 5 0 - 1 - (n : Int) := by omega
  rw [e1, hn, e3]
  rfl
theorem s_tk_2 (M : Nat → Nat → Int) (st rw : Int) {ss : Int} (h : 0 ≤ ss ∧ ss ≤ M 5 0 - 1) (i : Nat) : s_tk M st rw (Int.toNat (M 5 0 - 1 - (ss + (-1)))) (i + 2) = if st / zp ss % 2 = 1 then s_tk M st rw (Int.toNat (M 5 0 - 1 - ss)) (i + 2) + (if s_tk M st rw (Int.toNat (M 5 0 - 1 - ss)) 0 % 4 = (i : Int) then M 25 (Int.toNat (4 * ss + s_tk M st rw (Int.toNat (M 5 0 - 1 - ss)) 0 % 4)) else 0) else s_tk M st rw (Int.toNat (M 5 0 - 1 - ss)) (i + 2) := by
  obtain ⟨n, hn⟩ : ∃ n : Nat, Int.toNat (M 5 0 - 1 - ss) = n := ⟨_, rfl⟩
  have e1 : Int.toNat (M 5 0 - 1 - (ss + (-1))) = n + 1 := by omega
  have e3 : ss = M 5 0 - 1 - (n : Int) := by omega
  have e4 : (((i + 2 : Nat)) : Int) - 2 = (i : Int) := by omega
  rw [e1, hn, e3, ← e4]
  rfl
def s_takes (M : Nat → Nat → Int) (st rw : Int) : Int := if (s_tk M st rw (Int.toNat (M 5 0)) 2 ≤ M 19 2 ∧ s_tk M st rw (Int.toNat (M 5 0)) 3 ≤ M 19 3 ∧ s_tk M st rw (Int.toNat (M 5 0)) 4 ≤ M 19 4 ∧ s_tk M st rw (Int.toNat (M 5 0)) 5 ≤ M 19 5) ∧ s_tk M st rw (Int.toNat (M 5 0)) 1 < 1000000 then s_tk M st rw (Int.toNat (M 5 0)) 1 else 1000000
theorem s_lkN_bd (M : Nat → Nat → Int) (ss kd : Int) : ∀ n : Nat, n ≤ 4 → -1 ≤ s_lkN M ss kd n ∧ s_lkN M ss kd n ≤ 1000000 ∧ (n ≤ 4 → 0 ≤ s_lkN M ss kd n)
  | 0, _ => ⟨(by show (-1 : Int) ≤ 1000000; decide), (by show (1000000 : Int) ≤ 1000000; decide), fun _ => (by show (0 : Int) ≤ 1000000; decide)⟩
  | n + 1, h => by
    have q := s_lkN_bd M ss kd n (by omega)
    show -1 ≤ (if ¬ (s_lkh M ss kd (3 - (n : Int)) = 0) then 3 - (n : Int) else s_lkN M ss kd n) ∧ (if ¬ (s_lkh M ss kd (3 - (n : Int)) = 0) then 3 - (n : Int) else s_lkN M ss kd n) ≤ 1000000 ∧ (n + 1 ≤ 4 → 0 ≤ (if ¬ (s_lkh M ss kd (3 - (n : Int)) = 0) then 3 - (n : Int) else s_lkN M ss kd n))
    split <;> omega
theorem f_td_bd (M : Nat → Nat → Int) (k : Nat) (h : (k : Int) < 4 * M 5 0) : 0 ≤ f_td M 25 k ∧ f_td M 25 k ≤ 1000000 := by
  have e : f_td M 25 k = s_lk M ((k / 4 : Nat) : Int) ((k % 4 : Nat) : Int) := if_pos ⟨rfl, by omega⟩
  rw [e]
  unfold s_lk
  split
  · have q := s_lkN_bd M ((k / 4 : Nat) : Int) ((k % 4 : Nat) : Int) 4 (by omega)
    exact ⟨q.2.2 (by omega), q.2.1⟩
  · have q := s_lkN_bd M ((k / 4 : Nat) : Int) ((k % 4 : Nat) : Int) 3 (by omega)
    exact ⟨q.2.2 (by omega), q.2.1⟩
theorem s_tk_nn {M : Nat → Nat → Int} {st rw : Int} (hr : 0 ≤ rw) (h : ∀ k : Nat, (k : Int) < 4 * M 5 0 → 0 ≤ M 25 k) : ∀ n : Nat, (n : Int) ≤ M 5 0 → 0 ≤ s_tk M st rw n 0 ∧ 0 ≤ s_tk M st rw n 1
  | 0, _ => ⟨hr, Int.le_refl _⟩
  | n + 1, hn => by
    obtain ⟨q0, q1⟩ := s_tk_nn (st := st) hr h n (by omega)
    have q2 : 0 ≤ M 25 (Int.toNat (4 * (M 5 0 - 1 - (n : Int)) + s_tk M st rw n 0 % 4)) := h _ (by omega)
    show 0 ≤ (if st / zp (M 5 0 - 1 - (n : Int)) % 2 = 1 then s_tk M st rw n 0 / 4 else s_tk M st rw n 0) ∧ 0 ≤ (if st / zp (M 5 0 - 1 - (n : Int)) % 2 = 1 then s_tk M st rw n 1 + M 25 (Int.toNat (4 * (M 5 0 - 1 - (n : Int)) + s_tk M st rw n 0 % 4)) else s_tk M st rw n 1)
    split <;> omega
theorem s_takes_bd {M : Nat → Nat → Int} {st rw : Int} (hS : 0 ≤ M 5 0) (hr : 0 ≤ rw) (h : ∀ k : Nat, (k : Int) < 4 * M 5 0 → 0 ≤ M 25 k ∧ M 25 k ≤ 1000000) : 0 ≤ s_takes M st rw ∧ s_takes M st rw ≤ 1000000 := by
  have q := s_tk_nn (st := st) hr (fun k hk => (h k hk).1) (Int.toNat (M 5 0)) (by omega)
  unfold s_takes
  split <;> omega
theorem z_dv4 {d v : Int} (h : 0 ≤ d ∧ d ≤ 4096) (hv : v = 1 ∨ v = 4) : 0 ≤ d / v ∧ d / v ≤ 4096 := by
  rcases hv with rfl | rfl <;> omega
/-- four to the k -/
def zq (k : Int) : Int := ((4 ^ k.toNat : Nat) : Int)
theorem zq_succ {k : Int} (h : 0 ≤ k) : zq (k + 1) = zq k * 4 := by
  obtain ⟨n, rfl⟩ := Int.eq_ofNat_of_zero_le h
  show ((4 ^ (n + 1) : Nat) : Int) = ((4 ^ n : Nat) : Int) * 4
  rw [Nat.pow_succ]
  simp
theorem zq_bd {k : Int} (h : k ≤ 6) : 1 ≤ zq k ∧ zq k ≤ 4096 := by
  have h1 : 4 ^ k.toNat ≤ 4 ^ 6 := Nat.pow_le_pow_right (by omega) (by omega)
  have h2 : 0 < 4 ^ k.toNat := Nat.pos_of_ne_zero (by simp)
  unfold zq
  constructor
  · exact_mod_cast h2
  · exact Int.le_trans (Int.ofNat_le.mpr h1) (by decide)
theorem s_bits6 {st : Int} (h : 0 ≤ st ∧ st < 64) : s_bits st ≤ 6 := by
  have q : ∀ n : Fin 64, s_bits ((n : Nat) : Int) ≤ 6 := by decide +kernel
  obtain ⟨n, rfl⟩ := Int.eq_ofNat_of_zero_le h.1
  exact q ⟨n, by omega⟩
/-- the best row of the first k: which, and what it takes -/
def s_alN (K : Nat → Nat → Int) (st : Int) : Nat → Int × Int
  | 0 => (0, 1000000)
  | k + 1 => if s_takes K st (k : Int) < (s_alN K st k).2 then ((k : Int), s_takes K st (k : Int)) else s_alN K st k
theorem s_alN_1 (K : Nat → Nat → Int) (st : Int) {k : Int} (h : 0 ≤ k) : (s_alN K st (Int.toNat (k + 1))).1 = if s_takes K st k < (s_alN K st (Int.toNat k)).2 then k else (s_alN K st (Int.toNat k)).1 := by
  obtain ⟨n, rfl⟩ := Int.eq_ofNat_of_zero_le h
  rw [Int.toNat_natCast]
  show (if s_takes K st (n : Int) < (s_alN K st n).2 then ((n : Int), s_takes K st (n : Int)) else s_alN K st n).1 = _
  by_cases q : s_takes K st (n : Int) < (s_alN K st n).2
  · rw [if_pos q, if_pos q]
  · rw [if_neg q, if_neg q]
theorem s_alN_2 (K : Nat → Nat → Int) (st : Int) {k : Int} (h : 0 ≤ k) : (s_alN K st (Int.toNat (k + 1))).2 = if s_takes K st k < (s_alN K st (Int.toNat k)).2 then s_takes K st k else (s_alN K st (Int.toNat k)).2 := by
  obtain ⟨n, rfl⟩ := Int.eq_ofNat_of_zero_le h
  rw [Int.toNat_natCast]
  show (if s_takes K st (n : Int) < (s_alN K st n).2 then ((n : Int), s_takes K st (n : Int)) else s_alN K st n).2 = _
  by_cases q : s_takes K st (n : Int) < (s_alN K st n).2
  · rw [if_pos q, if_pos q]
  · rw [if_neg q, if_neg q]
/-- the row without the figures of the last n sayings -/
def s_dvN (K : Nat → Nat → Int) (st fo : Int) : Nat → Int
  | 0 => fo
  | n + 1 => s_dvN K st fo n / (if st / zp (K 5 0 - 1 - (n : Int)) % 2 = 1 then 4 else 1)
theorem s_dvN_succ (K : Nat → Nat → Int) (st fo : Int) {oo : Int} (h : oo ≤ K 5 0 - 1) : s_dvN K st fo (Int.toNat (K 5 0 - 1 - (oo + (-1)))) = s_dvN K st fo (Int.toNat (K 5 0 - 1 - oo)) / (if st / zp oo % 2 = 1 then 4 else 1) := by
  obtain ⟨n, hn⟩ : ∃ n : Nat, Int.toNat (K 5 0 - 1 - oo) = n := ⟨_, rfl⟩
  have e1 : Int.toNat (K 5 0 - 1 - (oo + (-1))) = n + 1 := by omega
  have e3 : oo = K 5 0 - 1 - (n : Int) := by omega
  rw [e1, hn, e3]
  rfl
def s_alf (K : Nat → Nat → Int) (st : Int) : Int × Int := s_alN K st (Int.toNat (zq (s_bits st)))
def s_al2 (K : Nat → Nat → Int) (st sy : Int) : Int := if 1000000 ≤ (s_alf K st).2 then -9 else if sy = -1 then (s_alf K st).2 else 10 * (s_dvN K st (s_alf K st).1 (Int.toNat (K 5 0 - 1 - sy)) % 4) + K 25 (Int.toNat (4 * sy + s_dvN K st (s_alf K st).1 (Int.toNat (K 5 0 - 1 - sy)) % 4))
abbrev s_aok (M : Nat → Nat → Int) (st sy : Int) : Prop := (1 ≤ st ∧ st ≤ zp (M 5 0) - 1) ∧ (sy = -1 ∨ ((0 ≤ sy ∧ sy < M 5 0) ∧ st / zp sy % 2 = 1))
def s_allot (M : Nat → Nat → Int) (st sy : Int) : Int := if ¬ s_aok M st sy then -1 else s_al2 (f_td M) st sy
def f_allot (M : Nat → Nat → Int) (st sy : Int) : Nat → Nat → Int := if ¬ s_aok M st sy then M else f_td M
theorem zp_le64 {k : Int} (h : k ≤ 6) : zp k ≤ 64 := by
  have h1 : 2 ^ k.toNat ≤ 2 ^ 6 := Nat.pow_le_pow_right (by omega) (by omega)
  unfold zp
  exact Int.le_trans (Int.ofNat_le.mpr h1) (by decide)
