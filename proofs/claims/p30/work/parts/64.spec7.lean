/-! Reading the text: tokens. -/
def s_ch (M : Nat → Nat → Int) (i : Int) : Int := if i < M 1 0 then M 0 (Int.toNat i) % 256 else -9
theorem s_ch_bd (M : Nat → Nat → Int) (i : Int) : -9 ≤ s_ch M i ∧ s_ch M i ≤ 255 := by unfold s_ch; omega
theorem s_ch_lt (M : Nat → Nat → Int) (i : Int) : ¬ (s_ch M i = -9) → i < M 1 0 := by unfold s_ch; omega
def z_run (b : Int → Bool) : Nat → Int → Int
  | 0, i => i
  | f + 1, i => if b i then z_run b f (i + 1) else i
theorem z_run_step (b : Int → Bool) (N i : Int) (h : i < N) : z_run b (N - i).toNat i = if b i then z_run b (N - (i + 1)).toNat (i + 1) else i := by
  obtain ⟨k, hk⟩ : ∃ k : Nat, (N - i).toNat = k + 1 := ⟨(N - i - 1).toNat, by omega⟩
  have e : (N - (i + 1)).toNat = k := by omega
  rw [hk, e]
  rfl
def z_val (M : Nat → Nat → Int) : Nat → Int → Int → Int
  | 0, _, v => v
  | f + 1, i, v => if 48 ≤ s_ch M i ∧ s_ch M i ≤ 57 then z_val M f (i + 1) (if v ≤ 99 then 10 * v + s_ch M i - 48 else v) else v
theorem z_val_step (M : Nat → Nat → Int) {N i : Int} (v : Int) (h : i < N) : z_val M (N - i).toNat i v = if 48 ≤ s_ch M i ∧ s_ch M i ≤ 57 then z_val M (N - (i + 1)).toNat (i + 1) (if v ≤ 99 then 10 * v + s_ch M i - 48 else v) else v := by
  obtain ⟨k, hk⟩ : ∃ k : Nat, (N - i).toNat = k + 1 := ⟨(N - i - 1).toNat, by omega⟩
  have e : (N - (i + 1)).toNat = k := by omega
  rw [hk, e]
  rfl
/-- the reader's four numbers: at, stands, value, sort -/
def m4 (M : Nat → Nat → Int) (a b c d : Int) : Nat → Nat → Int := fun f j => if f = 12 ∧ j = 0 then a else if f = 13 ∧ j = 0 then b else if f = 15 ∧ j = 0 then c else if f = 14 ∧ j = 0 then d else M f j
theorem m4_12 (M : Nat → Nat → Int) (a b c d x : Int) : mU (m4 M a b c d) 12 0 x = m4 M x b c d := by
  funext f j
  by_cases q : f = 12 ∧ j = 0
  · simp [mU, m4, q]
  · simp only [mU, m4, if_neg q]
theorem m4_13 (M : Nat → Nat → Int) (a b c d x : Int) : mU (m4 M a b c d) 13 0 x = m4 M a x c d := by
  funext f j
  by_cases q : f = 13 ∧ j = 0
  · simp [mU, m4, q]
  · simp only [mU, m4, if_neg q]
theorem m4_15 (M : Nat → Nat → Int) (a b c d x : Int) : mU (m4 M a b c d) 15 0 x = m4 M a b x d := by
  funext f j
  by_cases q : f = 15 ∧ j = 0
  · simp [mU, m4, q]
  · simp only [mU, m4, if_neg q]
theorem m4_14 (M : Nat → Nat → Int) (a b c d x : Int) : mU (m4 M a b c d) 14 0 x = m4 M a b c x := by
  funext f j
  by_cases q : f = 14 ∧ j = 0
  · simp [mU, m4, q]
  · simp only [mU, m4, if_neg q]
theorem m4_id (M : Nat → Nat → Int) : M = m4 M (M 12 0) (M 13 0) (M 15 0) (M 14 0) := by
  funext f j
  simp only [m4]
  by_cases q1 : f = 12 ∧ j = 0
  · rw [if_pos q1, q1.1, q1.2]
  · rw [if_neg q1]
    by_cases q2 : f = 13 ∧ j = 0
    · rw [if_pos q2, q2.1, q2.2]
    · rw [if_neg q2]
      by_cases q3 : f = 15 ∧ j = 0
      · rw [if_pos q3, q3.1, q3.2]
      · rw [if_neg q3]
        by_cases q4 : f = 14 ∧ j = 0
        · rw [if_pos q4, q4.1, q4.2]
        · rw [if_neg q4]
def s_a1 (M : Nat → Nat → Int) : Int := z_run (fun q => decide (s_ch M q = 32)) (Int.toNat (121 - M 12 0)) (M 12 0)
def s_c1 (M : Nat → Nat → Int) : Int := s_ch M (s_a1 M)
def s_a2d (M : Nat → Nat → Int) : Int := z_run (fun q => decide (48 ≤ s_ch M q ∧ s_ch M q ≤ 57)) (Int.toNat (121 - s_a1 M)) (s_a1 M)
def s_a2l (M : Nat → Nat → Int) : Int := z_run (fun q => decide (97 ≤ s_ch M q ∧ s_ch M q ≤ 122)) (Int.toNat (121 - s_a1 M)) (s_a1 M)
def s_vd (M : Nat → Nat → Int) : Int := z_val M (Int.toNat (121 - s_a1 M)) (s_a1 M) 0
def f_step (M : Nat → Nat → Int) : Nat → Nat → Int := if s_c1 M = -9 then m4 M (s_a1 M) (s_a1 M) 0 4 else if 48 ≤ s_c1 M ∧ s_c1 M ≤ 57 then m4 M (s_a2d M) (s_a1 M) (s_vd M) (if 99 < s_vd M ∨ (s_c1 M = 48 ∧ 1 < s_a2d M - s_a1 M) then 5 else 2) else if 97 ≤ s_c1 M ∧ s_c1 M ≤ 122 then m4 M (s_a2l M) (s_a1 M) (if s_a2l M - s_a1 M = 1 then s_c1 M else 0) 1 else m4 M (s_a1 M + 1) (s_a1 M) 0 (if s_c1 M = 59 then 3 else 5)
def f_due (M : Nat → Nat → Int) (is : Int) : Nat → Nat → Int := if ¬ (M 16 0 = 0) then M else if ¬ (is = 0) then f_step M else mU M 16 0 1
def s_ok (M : Nat → Nat → Int) (lo hi : Int) : Int := if M 14 0 = 2 ∧ lo ≤ M 15 0 ∧ M 15 0 ≤ hi then 1 else 0
def f_num (M : Nat → Nat → Int) (lo hi : Int) : Nat → Nat → Int := f_due M (s_ok M lo hi)
def s_may (M : Nat → Nat → Int) (wd : Int) : Int := if wd = 112 then (if M 2 1 < 6 then 1 else 0) else if wd = 115 then (if M 5 1 < 6 then 1 else 0) else if wd = 119 then (if M 18 0 = 0 then 1 else 0) else if wd = 102 then 1 else 0
/-- what holds while the text is read -/
def pI (M : Nat → Nat → Int) : Prop := (0 ≤ M 1 0 ∧ M 1 0 ≤ 120) ∧ (0 ≤ M 12 0 ∧ M 12 0 ≤ M 1 0) ∧ (0 ≤ M 15 0 ∧ M 15 0 ≤ 999) ∧ (1 ≤ M 14 0 ∧ M 14 0 ≤ 5) ∧ (M 16 0 = 0 ∨ M 16 0 = 1) ∧ (M 18 0 = 0 ∨ M 18 0 = 1) ∧ (0 ≤ M 2 1 ∧ M 2 1 ≤ 6) ∧ (0 ≤ M 5 1 ∧ M 5 1 ≤ 6) ∧ (0 ≤ M 9 1 ∧ M 9 1 ≤ 6) ∧ (0 ≤ M 13 0 ∧ M 13 0 ≤ 120)
