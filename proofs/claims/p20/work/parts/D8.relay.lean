/-! Relay: who is reached in how many shots. -/
abbrev zb (x : Int) (q : Nat) : Prop := x / zp (q : Int) % 2 = 1
def rR (E : Nat → Nat → Bool) (N to : Nat) : Nat → Nat → Bool
  | 0, p => decide (p = to)
  | k + 1, p => rR E N to k p || (List.range N).any (fun q => E p q && rR E N to k q)
theorem rR_0 (E : Nat → Nat → Bool) (N to p : Nat) : rR E N to 0 p = true ↔ p = to := decide_eq_true_iff
theorem rR_s {E : Nat → Nat → Bool} {N to k p : Nat} : rR E N to (k + 1) p = true ↔ rR E N to k p = true ∨ ∃ q, q < N ∧ E p q = true ∧ rR E N to k q = true := by
  show (rR E N to k p || (List.range N).any (fun q => E p q && rR E N to k q)) = true ↔ _
  rw [Bool.or_eq_true, List.any_eq_true]
  constructor
  · rintro (h | ⟨q, h1, h2⟩)
    · exact Or.inl h
    · rw [Bool.and_eq_true] at h2
      exact Or.inr ⟨q, List.mem_range.mp h1, h2.1, h2.2⟩
  · rintro (h | ⟨q, h1, h2, h3⟩)
    · exact Or.inl h
    · exact Or.inr ⟨q, List.mem_range.mpr h1, by rw [Bool.and_eq_true]; exact ⟨h2, h3⟩⟩
theorem rR_le {E : Nat → Nat → Bool} {N to p j : Nat} (h : rR E N to j p = true) : ∀ d : Nat, rR E N to (j + d) p = true
  | 0 => h
  | d + 1 => rR_s.mpr (Or.inl (rR_le h d))
theorem rR_mono {E : Nat → Nat → Bool} {N to p j k : Nat} (h : rR E N to j p = true) (hjk : j ≤ k) : rR E N to k p = true := by
  have := rR_le h (k - j)
  rwa [show j + (k - j) = k by omega] at this
def cntN (b : Nat → Bool) : Nat → Nat
  | 0 => 0
  | n + 1 => cntN b n + (if b n then 1 else 0)
theorem cntN_le (b : Nat → Bool) : ∀ n : Nat, cntN b n ≤ n
  | 0 => Nat.le_refl _
  | n + 1 => by
    have := cntN_le b n
    simp only [cntN]
    split <;> omega
theorem cntN_mono {b d : Nat → Bool} : ∀ n : Nat, (∀ p, p < n → b p = true → d p = true) → cntN b n ≤ cntN d n
  | 0, _ => Nat.le_refl _
  | n + 1, h => by
    have ih := cntN_mono n (fun p hp => h p (by omega))
    have hn := h n (by omega)
    simp only [cntN]
    by_cases q : b n = true
    · rw [if_pos q, if_pos (hn q)]; omega
    · rw [if_neg q]; omega
theorem cntN_lt {b d : Nat → Bool} : ∀ n : Nat, (∀ p, p < n → b p = true → d p = true) → (∃ p, p < n ∧ d p = true ∧ ¬ b p = true) → cntN b n < cntN d n
  | 0, _, h2 => by
    obtain ⟨p, hp, -⟩ := h2
    omega
  | n + 1, h, h2 => by
    obtain ⟨p, hp, h3, h4⟩ := h2
    have hn := h n (by omega)
    simp only [cntN]
    by_cases y : p = n
    · subst y
      have ih := cntN_mono p (fun p hp => h p (by omega))
      rw [if_neg h4, if_pos h3]; omega
    · have ih := cntN_lt n (fun p hp => h p (by omega)) ⟨p, by omega, h3, h4⟩
      by_cases q : b n = true
      · rw [if_pos q, if_pos (hn q)]; omega
      · rw [if_neg q]; omega
theorem rR_stop {E : Nat → Nat → Bool} {N to k : Nat} (h : ∀ p, p < N → rR E N to (k + 1) p = true → rR E N to k p = true) : ∀ d p, p < N → rR E N to (k + d) p = true → rR E N to k p = true
  | 0, _, _, z => z
  | d + 1, p, hp, z => by
    rcases rR_s.mp z with y | ⟨q, q1, q2, q3⟩
    · exact rR_stop h d p hp y
    · exact h p hp (rR_s.mpr (Or.inr ⟨q, q1, q2, rR_stop h d q q1 q3⟩))
theorem rR_cnt {E : Nat → Nat → Bool} {N to : Nat} (ht : to < N) : ∀ k : Nat, (∀ j, j < k → ∃ p, p < N ∧ rR E N to (j + 1) p = true ∧ ¬ rR E N to j p = true) → k + 1 ≤ cntN (rR E N to k) N
  | 0, _ => by
    have := cntN_lt (b := fun _ => false) (d := rR E N to 0) N (fun p _ z => absurd z (by simp)) ⟨to, ht, (rR_0 E N to to).mpr rfl, by simp⟩
    omega
  | k + 1, h => by
    have ih := rR_cnt ht k (fun j hj => h j (by omega))
    have := cntN_lt (b := rR E N to k) (d := rR E N to (k + 1)) N (fun p _ z => rR_s.mpr (Or.inl z)) (h k (by omega))
    omega
theorem rR_all {E : Nat → Nat → Bool} {N to : Nat} (ht : to < N) {j p : Nat} (hp : p < N) (h : rR E N to j p = true) : rR E N to (N - 1) p = true := by
  by_cases hj : j ≤ N - 1
  · exact rR_mono h hj
  · by_cases hz : ∃ i, i < N ∧ ∀ p, p < N → rR E N to (i + 1) p = true → rR E N to i p = true
    · obtain ⟨i, i1, i2⟩ := hz
      have := rR_stop i2 (j - i) p hp (by rw [show i + (j - i) = j by omega]; exact h)
      exact rR_mono this (by omega)
    · exfalso
      have hall : ∀ i, i < N → ∃ p, p < N ∧ rR E N to (i + 1) p = true ∧ ¬ rR E N to i p = true := by
        intro i hi
        by_cases y : ∃ p, p < N ∧ rR E N to (i + 1) p = true ∧ ¬ rR E N to i p = true
        · exact y
        · refine absurd ⟨i, hi, fun p hp z => ?_⟩ hz
          by_cases w : rR E N to i p = true
          · exact w
          · exact absurd ⟨p, hp, z, w⟩ y
      have c := rR_cnt ht N hall
      have c2 := cntN_le (rR E N to N) N
      omega
/-! The class's row. -/
theorem fnN_le {r : Nat → Int} {ps : Int} : ∀ n : Nat, ∀ q, q < n → zb ps q → c_fnN r ps n ≤ r q
  | 0, _, h, _ => by omega
  | n + 1, q, h, hb => by
    simp only [c_fnN]
    by_cases y : q = n
    · subst y
      rw [if_pos hb]
      split <;> omega
    · have ih := fnN_le n q (by omega) hb (r := r)
      split
      · split <;> omega
      · exact ih
theorem fnN_at {r : Nat → Int} {ps : Int} : ∀ n : Nat, c_fnN r ps n < 1000 → ∃ q, q < n ∧ zb ps q ∧ r q = c_fnN r ps n
  | 0, h => absurd h (by show ¬ ((1000 : Int) < 1000); decide)
  | n + 1, h => by
    have e : c_fnN r ps (n + 1) = if ps / zp (n : Int) % 2 = 1 then (if r n < c_fnN r ps n then r n else c_fnN r ps n) else c_fnN r ps n := rfl
    by_cases y : ps / zp (n : Int) % 2 = 1
    · rw [if_pos y] at e
      by_cases z : r n < c_fnN r ps n
      · rw [if_pos z] at e
        exact ⟨n, by omega, y, e.symm⟩
      · rw [if_neg z] at e
        rw [e] at h ⊢
        obtain ⟨q, a, b, c⟩ := fnN_at n h
        exact ⟨q, by omega, b, c⟩
    · rw [if_neg y] at e
      rw [e] at h ⊢
      obtain ⟨q, a, b, c⟩ := fnN_at n h
      exact ⟨q, by omega, b, c⟩
def rwS (E : Nat → Nat → Bool) (N to : Nat) (r : Nat → Int) : Prop := (∀ p, p < N → 0 ≤ r p ∧ r p ≤ 1000) ∧ (∀ p, p < N → r p < 1000 → rR E N to (Int.toNat (r p)) p = true)
def rwC (E : Nat → Nat → Bool) (N to k : Nat) (r : Nat → Int) (p : Nat) : Prop := ∀ j : Nat, j ≤ k → rR E N to j p = true → r p ≤ (j : Int)
theorem c1_inv {V : Nat → Nat → Int} {sy : Int} {E : Nat → Nat → Bool} {N to k : Nat} (hN : Int.toNat (V (Int.toNat (V 0 3)) 7) = N) (hE : ∀ p q, p < N → q < N → (E p q = true ↔ zb (c_who V (p : Int) sy) q)) {W : Nat → Nat → Int} (h1 : rwS E N to (W 13)) (h2 : ∀ p, p < N → rwC E N to k (W 13) p) : ∀ n : Nat, n ≤ N → rwS E N to (f_c1 V sy W n 13) ∧ (∀ p, p < N → rwC E N to k (f_c1 V sy W n 13) p) ∧ (∀ p, p < n → rwC E N to (k + 1) (f_c1 V sy W n 13) p)
  | 0, _ => ⟨h1, h2, fun p hp => by omega⟩
  | n + 1, hn => by
    obtain ⟨a, b, c⟩ := c1_inv hN hE h1 h2 n (by omega)
    obtain ⟨r, hr⟩ : ∃ r, r = f_c1 V sy W n 13 := ⟨_, rfl⟩
    rw [← hr] at a b c
    obtain ⟨x, hx⟩ : ∃ x, x = c_fnN r (c_who V (n : Int) sy) N := ⟨_, rfl⟩
    have eW : ∀ p, f_c1 V sy W (n + 1) 13 p = if p = n then c_up r n x else r p := fun p => by
      show mU (f_c1 V sy W n) 13 n (c_up (f_c1 V sy W n 13) n (c_fnN (f_c1 V sy W n 13) (c_who V (n : Int) sy) (Int.toNat (V (Int.toNat (V 0 3)) 7)))) 13 p = _
      rw [hN, ← hr, ← hx]
      by_cases y : p = n
      · rw [y, mU_eq, if_pos rfl]
      · rw [mU_ni _ _ _ _ y, if_neg y, hr]
    have rn := a.1 n (by omega)
    have x0 := c_fnN_bd (r := r) (c_who V (n : Int) sy) N (fun k hk => a.1 k hk)
    rw [← hx] at x0
    have up : c_up r n x ≤ r n ∧ c_up r n x ≤ 1 + x ∧ 0 ≤ c_up r n x ∧ (c_up r n x = r n ∨ c_up r n x = 1 + x) := by unfold c_up; omega
    refine ⟨⟨fun p hp => ?_, fun p hp hv => ?_⟩, fun p hp j hj hj2 => ?_, fun p hp j hj hj2 => ?_⟩
    · rw [eW]
      split
      · omega
      · exact a.1 p hp
    · rw [eW] at hv ⊢
      by_cases y : p = n
      · subst y
        rw [if_pos rfl] at hv ⊢
        rcases up.2.2.2 with z | z
        · rw [z] at hv ⊢
          exact a.2 p hp hv
        · rw [z] at hv ⊢
          obtain ⟨q, q1, q2, q3⟩ := fnN_at (r := r) (ps := c_who V (p : Int) sy) N (by rw [← hx]; omega)
          rw [← hx] at q3
          have t := a.2 q q1 (by omega)
          rw [q3] at t
          rw [show Int.toNat (1 + x) = Int.toNat x + 1 by omega]
          exact rR_s.mpr (Or.inr ⟨q, q1, (hE p q hp q1).mpr q2, t⟩)
      · rw [if_neg y] at hv ⊢
        exact a.2 p hp hv
    · rw [eW]
      have t := b p hp j hj hj2
      split
      · rename_i y; subst y; omega
      · exact t
    · rw [eW]
      by_cases y : p = n
      · subst y
        rw [if_pos rfl]
        by_cases z : j ≤ k
        · have t := b p (by omega) j z hj2
          omega
        · have ej : j = k + 1 := by omega
          subst ej
          rcases rR_s.mp hj2 with w | ⟨q, q1, q2, q3⟩
          · have t := b p (by omega) k (Nat.le_refl _) w
            omega
          · have t := b q q1 k (Nat.le_refl _) q3
            have u := fnN_le (r := r) N q q1 ((hE p q (by omega) q1).mp q2)
            rw [← hx] at u
            omega
      · rw [if_neg y]
        exact c p (by omega) j hj hj2
theorem c2_inv {V : Nat → Nat → Int} {sy : Int} {E : Nat → Nat → Bool} {N to : Nat} (hN : Int.toNat (V (Int.toNat (V 0 3)) 7) = N) (hE : ∀ p q, p < N → q < N → (E p q = true ↔ zb (c_who V (p : Int) sy) q)) {W : Nat → Nat → Int} (h1 : rwS E N to (W 13)) (h2 : ∀ p, p < N → rwC E N to 0 (W 13) p) : ∀ n : Nat, rwS E N to (f_c2 V sy W n 13) ∧ (∀ p, p < N → rwC E N to n (f_c2 V sy W n 13) p)
  | 0 => ⟨h1, h2⟩
  | n + 1 => by
    obtain ⟨a, b⟩ := c2_inv hN hE h1 h2 n
    have c := c1_inv hN hE a b N (Nat.le_refl _)
    show rwS E N to (f_c1 V sy (f_c2 V sy W n) (Int.toNat (V (Int.toNat (V 0 3)) 7)) 13) ∧ _
    rw [hN]
    refine ⟨c.1, fun p hp => ?_⟩
    show rwC E N to (n + 1) (f_c1 V sy (f_c2 V sy W n) (Int.toNat (V (Int.toNat (V 0 3)) 7)) 13) p
    rw [hN]
    exact c.2.2 p hp
theorem c0_at (V : Nat → Nat → Int) (to : Int) : ∀ n p : Nat, p < n → f_c0 V to n 13 p = if (p : Int) = to then 0 else 1000
  | 0, _, h => by omega
  | n + 1, p, h => by
    show mU (f_c0 V to n) 13 n (if (n : Int) = to then 0 else 1000) 13 p = _
    by_cases y : p = n
    · rw [y, mU_eq]
    · rw [mU_ni _ _ _ _ y]
      exact c0_at V to n p (by omega)
/-- the class's row is the distance -/
theorem cs_row {V : Nat → Nat → Int} {sy : Int} {E : Nat → Nat → Bool} {N to : Nat} (ht : to < N) (hN : V (Int.toNat (V 0 3)) 7 = (N : Int)) (hE : ∀ p q, p < N → q < N → (E p q = true ↔ zb (c_who V (p : Int) sy) q)) : rwS E N to (f_cs V sy (to : Int) 13) ∧ (∀ p, p < N → ∀ j : Nat, rR E N to j p = true → f_cs V sy (to : Int) 13 p ≤ (j : Int)) := by
  have hN2 : Int.toNat (V (Int.toNat (V 0 3)) 7) = N := by omega
  have hN3 : Int.toNat (V (Int.toNat (V 0 3)) 7 - 1) = N - 1 := by omega
  have w : ∀ p, p < N → f_c0 V (to : Int) N 13 p = if (p : Int) = (to : Int) then 0 else 1000 := fun p hp => c0_at V _ N p hp
  have i1 : rwS E N to (f_c0 V (to : Int) N 13) := by
    refine ⟨fun p hp => ?_, fun p hp hv => ?_⟩
    · rw [w p hp]; split <;> omega
    · rw [w p hp] at hv ⊢
      by_cases y : (p : Int) = (to : Int)
      · rw [if_pos y]
        exact (rR_0 E N to p).mpr (by omega)
      · rw [if_neg y] at hv; omega
  have i2 : ∀ p, p < N → rwC E N to 0 (f_c0 V (to : Int) N 13) p := fun p hp j hj hj2 => by
    have ej : j = 0 := by omega
    subst ej
    have := (rR_0 E N to p).mp hj2
    rw [w p hp, if_pos (by omega)]
    omega
  have c := c2_inv hN2 hE i1 i2 (N - 1)
  unfold f_cs
  rw [hN2, hN3]
  refine ⟨c.1, fun p hp j hj => ?_⟩
  have t := c.2 p hp (N - 1) (Nat.le_refl _) (rR_all ht hp hj)
  by_cases y : j ≤ N - 1
  · exact c.2 p hp j y hj
  · omega
/-! The reference's row of sets. -/
def gS (E : Nat → Nat → Bool) (N to : Nat) (v : Int) (st : Int) : Prop := (0 ≤ v ∧ v ≤ 1000000) ∧ (∀ p, p < N → zb st p → ∀ j : Nat, rR E N to j p = true → v ≤ (j : Int)) ∧ (v < 1000000 → ∃ p, p < N ∧ zb st p ∧ rR E N to (Int.toNat v) p = true)
theorem shN_le (K : Nat → Nat → Int) (sy st pe le : Int) : ∀ n : Nat, s_shN K sy st pe le n ≤ le ∧ (∀ sh : Nat, sh < n → s_shN K sy st pe le n ≤ s_shv K sy st pe (sh : Int)) ∧ (s_shN K sy st pe le n = le ∨ ∃ sh : Nat, sh < n ∧ s_shN K sy st pe le n = s_shv K sy st pe (sh : Int))
  | 0 => ⟨Int.le_refl _, fun sh h => by omega, Or.inl rfl⟩
  | n + 1 => by
    obtain ⟨a, b, c⟩ := shN_le K sy st pe le n
    have e : s_shN K sy st pe le (n + 1) = if s_shv K sy st pe (n : Int) < s_shN K sy st pe le n then s_shv K sy st pe (n : Int) else s_shN K sy st pe le n := rfl
    rw [e]
    by_cases y : s_shv K sy st pe (n : Int) < s_shN K sy st pe le n
    · rw [if_pos y]
      refine ⟨by omega, fun sh h => ?_, Or.inr ⟨n, by omega, rfl⟩⟩
      by_cases z : sh = n
      · rw [z]; exact Int.le_refl _
      · have := b sh (by omega); omega
    · rw [if_neg y]
      refine ⟨a, fun sh h => ?_, ?_⟩
      · by_cases z : sh = n
        · rw [z]; omega
        · exact b sh (by omega)
      · rcases c with z | ⟨sh, z1, z2⟩
        · exact Or.inl z
        · exact Or.inr ⟨sh, by omega, z2⟩
theorem ppN_le (K : Nat → Nat → Int) (sy st l0 : Int) : ∀ n : Nat, s_ppN K sy st l0 n ≤ l0 ∧ (∀ p : Nat, p < n → zb st p → ∀ sh : Nat, sh < 32 → s_ppN K sy st l0 n ≤ s_shv K sy st (p : Int) (sh : Int) ∨ s_ppN K sy st l0 n ≤ 0) ∧ (s_ppN K sy st l0 n = l0 ∨ ∃ p : Nat, p < n ∧ zb st p ∧ ∃ sh : Nat, sh < 32 ∧ s_ppN K sy st l0 n = s_shv K sy st (p : Int) (sh : Int))
  | 0 => ⟨Int.le_refl _, fun p h => by omega, Or.inl rfl⟩
  | n + 1 => by
    obtain ⟨a, b, c⟩ := ppN_le K sy st l0 n
    have e : s_ppN K sy st l0 (n + 1) = if 0 < s_ppN K sy st l0 n ∧ st / zp (n : Int) % 2 = 1 then s_shN K sy st (n : Int) (s_ppN K sy st l0 n) 32 else s_ppN K sy st l0 n := rfl
    rw [e]
    by_cases y : 0 < s_ppN K sy st l0 n ∧ st / zp (n : Int) % 2 = 1
    · rw [if_pos y]
      obtain ⟨a2, b2, c2⟩ := shN_le K sy st (n : Int) (s_ppN K sy st l0 n) 32
      refine ⟨by omega, fun p hp hb sh hs => ?_, ?_⟩
      · by_cases z : p = n
        · subst z; exact Or.inl (b2 sh hs)
        · rcases b p (by omega) hb sh hs with w | w
          · exact Or.inl (by omega)
          · exact Or.inr (by omega)
      · rcases c2 with z | ⟨sh, z1, z2⟩
        · rw [z]
          rcases c with w | ⟨p, w1, w2, w3⟩
          · exact Or.inl w
          · exact Or.inr ⟨p, by omega, w2, w3⟩
        · exact Or.inr ⟨n, by omega, y.2, sh, z1, z2⟩
    · rw [if_neg y]
      refine ⟨a, fun p hp hb sh hs => ?_, ?_⟩
      · by_cases z : p = n
        · subst z
          right
          have hb2 : st / zp (p : Int) % 2 = 1 := hb
          omega
        · exact b p (by omega) hb sh hs
      · rcases c with w | ⟨p, w1, w2, w3⟩
        · exact Or.inl w
        · exact Or.inr ⟨p, by omega, w2, w3⟩
/-- who hears the shot of a number -/
def s_hsh (M : Nat → Nat → Int) (sy pe sh : Int) : Int := s_hearers M (s_ln M pe sy (sh / 8) (sh / 2 % 4) (sh % 2)) pe
theorem zb_or {a b : Int} (q : Nat) (ha : 0 ≤ a) (hb : 0 ≤ b) : zb (zor a b) q ↔ zb a q ∨ zb b q := by
  unfold zb
  rw [zbit_or q ha hb]
  by_cases z : a / zp (q : Int) % 2 = 1 ∨ b / zp (q : Int) % 2 = 1
  · rw [if_pos z]; exact ⟨fun _ => z, fun _ => rfl⟩
  · rw [if_neg z]; exact ⟨fun w => absurd w (by decide), fun w => absurd w z⟩
theorem gS_step {K M : Nat → Nat → Int} {sy : Int} {E : Nat → Nat → Bool} {N to : Nat} (ht : to < N) (hN : M 2 0 = (N : Int)) (hN6 : N ≤ 6) (hK : ∀ f, f ≠ 24 → K f = M f) (hE1 : ∀ p q, p < N → q < N → E p q = true → ∃ sh : Nat, sh < 32 ∧ zb (s_hsh M sy (p : Int) (sh : Int)) q) (hE2 : ∀ p q, p < N → q < N → ∀ sh : Nat, sh < 32 → zb (s_hsh M sy (p : Int) (sh : Int)) q → E p q = true) {st : Nat} (hs : 1 ≤ st ∧ st ≤ 63) (hg : ∀ k : Nat, st < k → k ≤ 63 → gS E N to (K 24 k) (k : Int)) (hb : 0 ≤ s_lstp K sy (to : Int) (st : Int) ∧ s_lstp K sy (to : Int) (st : Int) ≤ 1000000) : gS E N to (s_lstp K sy (to : Int) (st : Int)) (st : Int) := by
  have eh : ∀ pe sh : Int, s_beh K sy (st : Int) pe sh = zor (st : Int) (s_hsh M sy pe sh) := fun pe sh => by
    unfold s_beh s_hsh s_hearers s_ln s_wind
    rw [hK 2 (by decide), hK 3 (by decide), hK 4 (by decide), hK 6 (by decide), hK 7 (by decide), hK 9 (by decide), hK 10 (by decide), hK 19 (by decide)]
  have hh : ∀ pe sh : Int, 0 ≤ s_hsh M sy pe sh ∧ s_hsh M sy pe sh < 64 := fun pe sh => s_hearers_bd M _ _ (by omega)
  have bt : ∀ pe sh : Int, (st : Int) ≤ zor (st : Int) (s_hsh M sy pe sh) ∧ zor (st : Int) (s_hsh M sy pe sh) < 64 := fun pe sh => ⟨zor_ge (by omega), (zor_lt (k := 6) ⟨by omega, by show (st : Int) < 64; omega⟩ (hh pe sh)).2⟩
  obtain ⟨P1, P2, P3⟩ := ppN_le K sy (st : Int) (s_l0 (st : Int) (to : Int)) N
  have eL : s_lstp K sy (to : Int) (st : Int) = s_ppN K sy (st : Int) (s_l0 (st : Int) (to : Int)) N := by
    unfold s_lstp
    rw [hK 2 (by decide), hN, Int.toNat_natCast]
  rw [← eL] at P1 P2 P3
  obtain ⟨v, hv⟩ : ∃ v, v = s_lstp K sy (to : Int) (st : Int) := ⟨_, rfl⟩
  rw [← hv] at P1 P2 P3 hb ⊢
  -- a shot that tells more
  have more : ∀ (p sh : Nat), ¬ zor (st : Int) (s_hsh M sy (p : Int) (sh : Int)) = (st : Int) → gS E N to (K 24 (Int.toNat (zor (st : Int) (s_hsh M sy (p : Int) (sh : Int))))) (zor (st : Int) (s_hsh M sy (p : Int) (sh : Int))) := fun p sh hne => by
    have b := bt (p : Int) (sh : Int)
    have := hg (Int.toNat (zor (st : Int) (s_hsh M sy (p : Int) (sh : Int)))) (by omega) (by omega)
    rwa [show ((Int.toNat (zor (st : Int) (s_hsh M sy (p : Int) (sh : Int))) : Nat) : Int) = zor (st : Int) (s_hsh M sy (p : Int) (sh : Int)) by omega] at this
  have shv : ∀ (p sh : Nat), s_shv K sy (st : Int) (p : Int) (sh : Int) = if zor (st : Int) (s_hsh M sy (p : Int) (sh : Int)) = (st : Int) then 1000000 else K 24 (Int.toNat (zor (st : Int) (s_hsh M sy (p : Int) (sh : Int)))) + 1 := fun p sh => by
    unfold s_shv
    rw [eh]
  have J1 : ∀ j : Nat, ∀ p, p < N → zb (st : Int) p → rR E N to j p = true → v ≤ (j : Int) := by
    intro j
    induction j with
    | zero =>
      intro p hp hbit hr
      have := (rR_0 E N to p).mp hr
      subst this
      have : s_l0 (st : Int) (p : Int) = 0 := if_pos hbit
      omega
    | succ j ih =>
      intro p hp hbit hr
      rcases rR_s.mp hr with w | ⟨q, q1, q2, q3⟩
      · have := ih p hp hbit w
        omega
      · obtain ⟨sh, s1, s2⟩ := hE1 p q hp q1 q2
        by_cases y : zor (st : Int) (s_hsh M sy (p : Int) (sh : Int)) = (st : Int)
        · have hq : zb (st : Int) q := by
            rw [← y]
            exact (zb_or q (by omega) (hh _ _).1).mpr (Or.inr s2)
          have := ih q q1 hq q3
          omega
        · have g := (more p sh y).2.1 q q1 ((zb_or q (by omega) (hh _ _).1).mpr (Or.inr s2)) j q3
          have e := shv p sh
          rw [if_neg y] at e
          rcases P2 p hp hbit sh s1 with w | w <;> omega
  refine ⟨hb, fun p hp hbit j hr => J1 j p hp hbit hr, fun hlt => ?_⟩
  rcases P3 with w | ⟨p, p1, p2, sh, s1, s2⟩
  · by_cases y : zb (st : Int) to
    · have e0 : s_l0 (st : Int) (to : Int) = 0 := if_pos y
      refine ⟨to, ht, y, ?_⟩
      rw [w, e0]
      exact (rR_0 E N to to).mpr rfl
    · have e0 : s_l0 (st : Int) (to : Int) = 1000000 := if_neg y
      omega
  · have e := shv p sh
    by_cases y : zor (st : Int) (s_hsh M sy (p : Int) (sh : Int)) = (st : Int)
    · rw [if_pos y] at e
      omega
    · rw [if_neg y] at e
      have g := more p sh y
      have g1 := g.1
      obtain ⟨q, q1, q2, q3⟩ := g.2.2 (by omega)
      have ev : Int.toNat v = Int.toNat (K 24 (Int.toNat (zor (st : Int) (s_hsh M sy (p : Int) (sh : Int))))) + 1 := by omega
      rw [ev]
      rcases (zb_or q (by omega) (hh _ _).1).mp q2 with z | z
      · exact ⟨q, q1, z, rR_s.mpr (Or.inl q3)⟩
      · exact ⟨p, p1, p2, rR_s.mpr (Or.inr ⟨q, q1, hE2 p q p1 q1 sh s1 z, q3⟩)⟩
theorem gS_all {M : Nat → Nat → Int} {sy : Int} {E : Nat → Nat → Bool} {N to : Nat} (ht : to < N) (hN : M 2 0 = (N : Int)) (hN6 : N ≤ 6) (hE1 : ∀ p q, p < N → q < N → E p q = true → ∃ sh : Nat, sh < 32 ∧ zb (s_hsh M sy (p : Int) (sh : Int)) q) (hE2 : ∀ p q, p < N → q < N → ∀ sh : Nat, sh < 32 → zb (s_hsh M sy (p : Int) (sh : Int)) q → E p q = true) : ∀ n : Nat, n ≤ 63 → ∀ k : Nat, 63 - n < k → k ≤ 63 → gS E N to (f_ms M sy (to : Int) n 24 k) (k : Int)
  | 0, _, k, h1, h2 => by omega
  | n + 1, hn, k, h1, h2 => by
    have ih := gS_all ht hN hN6 hE1 hE2 n (by omega)
    have bd := f_ms_bd (M := M) (by omega) sy (to : Int) (n + 1) hn k h1 h2
    have e : f_ms M sy (to : Int) (n + 1) 24 k = mU (f_ms M sy (to : Int) n) 24 (63 - n) (s_lstp (f_ms M sy (to : Int) n) sy (to : Int) (63 - (n : Int))) 24 k := rfl
    by_cases y : k = 63 - n
    · have e2 : f_ms M sy (to : Int) (n + 1) 24 k = s_lstp (f_ms M sy (to : Int) n) sy (to : Int) (k : Int) := by
        rw [e, y, mU_eq]
        congr 1; omega
      rw [e2] at bd ⊢
      exact gS_step ht hN hN6 (fun f hf => f_ms_o M sy (to : Int) n f hf) hE1 hE2 (by omega) (fun k2 a b => ih k2 (by omega) b) bd
    · rw [e, mU_ni _ _ _ _ y]
      exact ih k (by omega) h2
