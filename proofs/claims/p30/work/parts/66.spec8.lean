/-! What the reader keeps. -/
theorem z_run_bd {b : Int → Bool} {T : Int} (hb : ∀ i, b i = true → i < T) : ∀ (n : Nat) (i : Int), i ≤ T → i ≤ z_run b n i ∧ z_run b n i ≤ T
  | 0, i, h => ⟨Int.le_refl _, h⟩
  | n + 1, i, h => by
    show i ≤ (if b i then z_run b n (i + 1) else i) ∧ (if b i then z_run b n (i + 1) else i) ≤ T
    by_cases q : b i = true
    · have h1 := hb i q
      have h2 := z_run_bd hb n (i + 1) (by omega)
      rw [if_pos q]
      omega
    · rw [if_neg q]
      omega
theorem z_val_bd (M : Nat → Nat → Int) : ∀ (n : Nat) (i v : Int), (0 ≤ v ∧ v ≤ 999) → 0 ≤ z_val M n i v ∧ z_val M n i v ≤ 999
  | 0, _, _, h => h
  | n + 1, i, v, h => by
    show 0 ≤ (if 48 ≤ s_ch M i ∧ s_ch M i ≤ 57 then z_val M n (i + 1) (if v ≤ 99 then 10 * v + s_ch M i - 48 else v) else v) ∧ (if 48 ≤ s_ch M i ∧ s_ch M i ≤ 57 then z_val M n (i + 1) (if v ≤ 99 then 10 * v + s_ch M i - 48 else v) else v) ≤ 999
    by_cases q : 48 ≤ s_ch M i ∧ s_ch M i ≤ 57
    · rw [if_pos q]
      exact z_val_bd M n (i + 1) _ (by omega)
    · rw [if_neg q]
      exact h
theorem s_a1_bd {M : Nat → Nat → Int} (h : M 12 0 ≤ M 1 0) : M 12 0 ≤ s_a1 M ∧ s_a1 M ≤ M 1 0 := by
  refine z_run_bd (fun i hi => ?_) _ _ h
  have q := of_decide_eq_true hi
  exact s_ch_lt M i (by omega)
theorem s_a2d_bd {M : Nat → Nat → Int} (h : M 12 0 ≤ M 1 0) : s_a1 M ≤ s_a2d M ∧ s_a2d M ≤ M 1 0 := by
  refine z_run_bd (fun i hi => ?_) _ _ (s_a1_bd h).2
  have q := of_decide_eq_true hi
  exact s_ch_lt M i (by omega)
theorem s_a2l_bd {M : Nat → Nat → Int} (h : M 12 0 ≤ M 1 0) : s_a1 M ≤ s_a2l M ∧ s_a2l M ≤ M 1 0 := by
  refine z_run_bd (fun i hi => ?_) _ _ (s_a1_bd h).2
  have q := of_decide_eq_true hi
  exact s_ch_lt M i (by omega)
theorem pI_m4 {M : Nat → Nat → Int} (hp : pI M) {a b c d : Int} (ha : 0 ≤ a ∧ a ≤ M 1 0) (hb : 0 ≤ b ∧ b ≤ 120) (hc : 0 ≤ c ∧ c ≤ 999) (hd : 1 ≤ d ∧ d ≤ 5) : pI (m4 M a b c d) := by
  obtain ⟨p1, p2, p3, p4, p5, p6, p7, p8, p9, p10⟩ := hp
  exact ⟨p1, ha, hc, hd, p5, p6, p7, p8, p9, hb⟩
theorem pI_step {M : Nat → Nat → Int} (hp : pI M) : pI (f_step M) := by
  obtain ⟨p1, p2, p3, p4, p5, p6, p7, p8, p9, p10⟩ := id hp
  have h1 := s_a1_bd p2.2
  have h2 := s_a2d_bd p2.2
  have h3 := s_a2l_bd p2.2
  have h4 := z_val_bd M (Int.toNat (121 - s_a1 M)) (s_a1 M) 0 (by omega)
  have h5 : 0 ≤ s_vd M ∧ s_vd M ≤ 999 := h4
  have h6 := s_ch_bd M (s_a1 M)
  have h7 := s_ch_lt M (s_a1 M)
  have h8 : s_c1 M = s_ch M (s_a1 M) := rfl
  unfold f_step
  by_cases q1 : s_c1 M = -9
  · rw [if_pos q1]
    exact pI_m4 hp (by omega) (by omega) (by omega) (by omega)
  · rw [if_neg q1]
    by_cases q2 : 48 ≤ s_c1 M ∧ s_c1 M ≤ 57
    · rw [if_pos q2]
      exact pI_m4 hp (by omega) (by omega) (by omega) (by omega)
    · rw [if_neg q2]
      by_cases q3 : 97 ≤ s_c1 M ∧ s_c1 M ≤ 122
      · rw [if_pos q3]
        exact pI_m4 hp (by omega) (by omega) (by omega) (by omega)
      · rw [if_neg q3]
        exact pI_m4 hp (by omega) (by omega) (by omega) (by omega)
theorem f_step_o (M : Nat → Nat → Int) {f : Nat} (h : f < 12 ∨ 15 < f) : f_step M f = M f := by
  have q : ∀ a b c d, m4 M a b c d f = M f := fun a b c d => by
    funext j
    simp only [m4]
    rw [if_neg (by omega), if_neg (by omega), if_neg (by omega), if_neg (by omega)]
  unfold f_step
  by_cases q1 : s_c1 M = -9
  · rw [if_pos q1]; exact q _ _ _ _
  · rw [if_neg q1]
    by_cases q2 : 48 ≤ s_c1 M ∧ s_c1 M ≤ 57
    · rw [if_pos q2]; exact q _ _ _ _
    · rw [if_neg q2]
      by_cases q3 : 97 ≤ s_c1 M ∧ s_c1 M ≤ 122
      · rw [if_pos q3]; exact q _ _ _ _
      · rw [if_neg q3]; exact q _ _ _ _
theorem pI_due {M : Nat → Nat → Int} (hp : pI M) (is : Int) : pI (f_due M is) := by
  unfold f_due
  split
  · exact hp
  · split
    · exact pI_step hp
    · obtain ⟨p1, p2, p3, p4, p5, p6, p7, p8, p9, p10⟩ := hp
      exact ⟨p1, p2, p3, p4, Or.inr rfl, p6, p7, p8, p9, p10⟩
theorem f_due_o (M : Nat → Nat → Int) (is : Int) {f : Nat} (h : f < 12 ∨ 16 < f) : f_due M is f = M f := by
  unfold f_due
  split
  · rfl
  · split
    · exact f_step_o M (by omega)
    · funext j
      exact mU_nf _ _ _ _ (by omega)
theorem f_due_ok {M : Nat → Nat → Int} {is : Int} (h : f_due M is 16 0 = 0) : M 16 0 = 0 ∧ ¬ (is = 0) := by
  unfold f_due at h
  by_cases q : M 16 0 = 0
  · rw [if_neg (fun z => z q)] at h
    by_cases q2 : is = 0
    · rw [if_neg (fun z => z q2), mU_eq] at h
      omega
    · exact ⟨q, q2⟩
  · rw [if_pos q] at h
    exact absurd h q
theorem f_num_ok {M : Nat → Nat → Int} {lo hi : Int} (h : f_num M lo hi 16 0 = 0) : M 16 0 = 0 ∧ M 14 0 = 2 ∧ lo ≤ M 15 0 ∧ M 15 0 ≤ hi := by
  obtain ⟨a, b⟩ := f_due_ok h
  unfold s_ok at b
  refine ⟨a, ?_⟩
  by_cases q : M 14 0 = 2 ∧ lo ≤ M 15 0 ∧ M 15 0 ≤ hi
  · exact q
  · rw [if_neg q] at b
    exact absurd rfl b
theorem f_num_o (M : Nat → Nat → Int) (lo hi : Int) {f : Nat} (h : f < 12 ∨ 16 < f) : f_num M lo hi f = M f := f_due_o M _ h
theorem pI_num {M : Nat → Nat → Int} (hp : pI M) (lo hi : Int) : pI (f_num M lo hi) := pI_due hp _
def f_bw (K : Nat → Nat → Int) (v : Int) : Nat → Nat → Int := mU (mU K 10 (Int.toNat (6 + K 9 1)) (v - 4)) 9 1 (mU K 10 (Int.toNat (6 + K 9 1)) (v - 4) 9 1 + 1)
def f_bl1 (M : Nat → Nat → Int) : Nat → Nat → Int := if f_num M 0 8 16 0 = 0 then f_bw (f_num M 0 8) (M 15 0) else f_num M 0 8
def f_blN : Nat → (Nat → Nat → Int) → (Nat → Nat → Int)
  | 0, M => M
  | n + 1, M => if f_bl1 M 16 0 = 0 ∧ f_bl1 M 14 0 = 2 ∧ f_bl1 M 9 1 < 6 then f_blN n (f_bl1 M) else f_bl1 M
theorem f_blN_step (M : Nat → Nat → Int) {n : Int} (h : 0 ≤ n ∧ n < 6) : f_blN (Int.toNat (6 - n)) M = if f_bl1 M 16 0 = 0 ∧ f_bl1 M 14 0 = 2 ∧ f_bl1 M 9 1 < 6 then f_blN (Int.toNat (6 - (n + 1))) (f_bl1 M) else f_bl1 M := by
  obtain ⟨k, hk⟩ : ∃ k : Nat, Int.toNat (6 - n) = k + 1 := ⟨Int.toNat (6 - n - 1), by omega⟩
  have e : Int.toNat (6 - (n + 1)) = k := by omega
  rw [hk, e]
  rfl
def f_blow (M : Nat → Nat → Int) : Nat → Nat → Int := f_blN 6 (mU (mU M 9 1 0) 18 0 1)
