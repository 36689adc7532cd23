/-! The whole text. -/
theorem f_step_13 (M : Nat → Nat → Int) : f_step M 13 0 = s_a1 M := by
  unfold f_step
  by_cases q1 : s_c1 M = -9
  · rw [if_pos q1]; rfl
  · rw [if_neg q1]
    by_cases q2 : 48 ≤ s_c1 M ∧ s_c1 M ≤ 57
    · rw [if_pos q2]; rfl
    · rw [if_neg q2]
      by_cases q3 : 97 ≤ s_c1 M ∧ s_c1 M ≤ 122
      · rw [if_pos q3]; rfl
      · rw [if_neg q3]; rfl
theorem f_step_12 {M : Nat → Nat → Int} (h : M 12 0 ≤ M 1 0) (h2 : M 1 0 ≤ 120) : s_a1 M ≤ f_step M 12 0 ∧ (¬ (f_step M 14 0 = 4) → s_a1 M < f_step M 12 0) := by
  have b1 := s_a1_bd h
  have h7 := s_ch_lt M (s_a1 M)
  have h8 : s_c1 M = s_ch M (s_a1 M) := rfl
  unfold f_step
  by_cases q1 : s_c1 M = -9
  · rw [if_pos q1]
    exact ⟨Int.le_refl _, fun z => absurd rfl z⟩
  · rw [if_neg q1]
    by_cases q2 : 48 ≤ s_c1 M ∧ s_c1 M ≤ 57
    · rw [if_pos q2]
      have k : s_a1 M < s_a2d M := by
        unfold s_a2d
        rw [z_run_step _ 121 _ (by omega), if_pos (decide_eq_true (by rw [← h8]; exact q2))]
        have := (z_run_bd (b := fun q => decide (48 ≤ s_ch M q ∧ s_ch M q ≤ 57)) (T := M 1 0) (fun i hi => s_ch_lt M i (by have q := of_decide_eq_true hi; omega)) (Int.toNat (121 - (s_a1 M + 1))) (s_a1 M + 1) (by omega)).1
        omega
      exact ⟨Int.le_of_lt k, fun _ => k⟩
    · rw [if_neg q2]
      by_cases q3 : 97 ≤ s_c1 M ∧ s_c1 M ≤ 122
      · rw [if_pos q3]
        have k : s_a1 M < s_a2l M := by
          unfold s_a2l
          rw [z_run_step _ 121 _ (by omega), if_pos (decide_eq_true (by rw [← h8]; exact q3))]
          have := (z_run_bd (b := fun q => decide (97 ≤ s_ch M q ∧ s_ch M q ≤ 122)) (T := M 1 0) (fun i hi => s_ch_lt M i (by have q := of_decide_eq_true hi; omega)) (Int.toNat (121 - (s_a1 M + 1))) (s_a1 M + 1) (by omega)).1
          omega
        exact ⟨Int.le_of_lt k, fun _ => k⟩
      · rw [if_neg q3]
        have k : s_a1 M < s_a1 M + 1 := by omega
        exact ⟨Int.le_of_lt k, fun _ => k⟩
/-- the invariant of reading, whatever the last reading left -/
def pQ (M : Nat → Nat → Int) : Prop := (0 ≤ M 1 0 ∧ M 1 0 ≤ 120) ∧ (0 ≤ M 12 0 ∧ M 12 0 ≤ M 1 0) ∧ (M 16 0 = 0 ∨ M 16 0 = 1) ∧ (M 18 0 = 0 ∨ M 18 0 = 1) ∧ (0 ≤ M 2 1 ∧ M 2 1 ≤ 6) ∧ (0 ≤ M 5 1 ∧ M 5 1 ≤ 6) ∧ (0 ≤ M 9 1 ∧ M 9 1 ≤ 6)
theorem pI_m4q {M : Nat → Nat → Int} (hp : pQ M) {a b c d : Int} (ha : 0 ≤ a ∧ a ≤ M 1 0) (hb : 0 ≤ b ∧ b ≤ 120) (hc : 0 ≤ c ∧ c ≤ 999) (hd : 1 ≤ d ∧ d ≤ 5) : pI (m4 M a b c d) := by
  obtain ⟨p1, p2, p5, p6, p7, p8, p9⟩ := hp
  exact ⟨p1, ha, hc, hd, p5, p6, p7, p8, p9, hb⟩
theorem pI_stepq {M : Nat → Nat → Int} (hp : pQ M) : pI (f_step M) := by
  obtain ⟨p1, p2, p5, p6, p7, p8, p9⟩ := id hp
  have h1 := s_a1_bd p2.2
  have h2 := s_a2d_bd p2.2
  have h3 := s_a2l_bd p2.2
  have h4 := z_val_bd M (Int.toNat (121 - s_a1 M)) (s_a1 M) 0 (by omega)
  have h5 : 0 ≤ s_vd M ∧ s_vd M ≤ 999 := h4
  have h6 := s_ch_bd M (s_a1 M)
  have h7 := s_ch_lt M (s_a1 M)
  have h8 : s_c1 M = s_ch M (s_a1 M) := rfl
  unfold f_step
  by_cases q1 : s_c1 M = -9
  · rw [if_pos q1]
    exact pI_m4q hp (by omega) (by omega) (by omega) (by omega)
  · rw [if_neg q1]
    by_cases q2 : 48 ≤ s_c1 M ∧ s_c1 M ≤ 57
    · rw [if_pos q2]
      exact pI_m4q hp (by omega) (by omega) (by omega) (by omega)
    · rw [if_neg q2]
      by_cases q3 : 97 ≤ s_c1 M ∧ s_c1 M ≤ 122
      · rw [if_pos q3]
        exact pI_m4q hp (by omega) (by omega) (by omega) (by omega)
      · rw [if_neg q3]
        exact pI_m4q hp (by omega) (by omega) (by omega) (by omega)
/-- and where the reader stands -/
def pJ (M : Nat → Nat → Int) : Prop := pI M ∧ M 13 0 ≤ M 12 0
def pGo (M K : Nat → Nat → Int) : Prop := pJ K ∧ M 13 0 ≤ K 13 0
theorem pGo_rf {M : Nat → Nat → Int} (h : pJ M) : pGo M M := ⟨h, Int.le_refl _⟩
theorem pGo_tr {M K L : Nat → Nat → Int} (h : pGo M K) (h2 : pGo K L) : pGo M L := ⟨h2.1, Int.le_trans h.2 h2.2⟩
theorem pGo_step {M : Nat → Nat → Int} (h : pJ M) : pGo M (f_step M) := by
  have a := f_step_13 M
  have p := h.1
  have b := f_step_12 p.2.1.2 p.1.2
  have c := s_a1_bd p.2.1.2
  have d := h.2
  exact ⟨⟨pI_step p, by omega⟩, by omega⟩
theorem pGo_due {M : Nat → Nat → Int} (h : pJ M) (is : Int) : pGo M (f_due M is) := by
  have p := pI_due h.1 is
  unfold f_due at *
  split
  · exact pGo_rf h
  · split
    · exact pGo_step h
    · rename_i q1 q2
      rw [if_neg q1, if_neg q2] at p
      exact ⟨⟨p, h.2⟩, Int.le_refl _⟩
theorem pGo_num {M : Nat → Nat → Int} (h : pJ M) (lo hi : Int) : pGo M (f_num M lo hi) := pGo_due h _
theorem pGo_ip {M : Nat → Nat → Int} (h : pJ M) (h6 : M 2 1 < 6) : pGo M (f_itp M) := by
  have a := pGo_num h 0 30
  have a2 : pGo M (f_ipA M) := ⟨⟨a.1.1, a.1.2⟩, a.2⟩
  have b := pGo_num a2.1 0 5
  have b2 : pGo (f_ipA M) (f_ipB (f_ipA M)) := ⟨⟨b.1.1, b.1.2⟩, b.2⟩
  have e1 : f_ipB (f_ipA M) 2 1 = M 2 1 := by
    have q1 : f_num (f_ipA M) 0 5 2 = f_ipA M 2 := f_num_o _ _ _ (by decide)
    have q2 : f_num M 0 30 2 = M 2 := f_num_o _ _ _ (by decide)
    show f_num (f_ipA M) 0 5 2 1 = M 2 1
    rw [q1]
    show f_num M 0 30 2 1 = M 2 1
    rw [q2]
  have g := pGo_tr a2 b2
  refine ⟨⟨?_, g.1.2⟩, g.2⟩
  obtain ⟨p1, p2, p3, p4, p5, p6, p7, p8, p9, p10⟩ := g.1.1
  exact ⟨p1, p2, p3, p4, p5, p6, (by show 0 ≤ f_ipB (f_ipA M) 2 1 + 1 ∧ f_ipB (f_ipA M) 2 1 + 1 ≤ 6; omega), p8, p9, p10⟩
theorem pGo_is {M : Nat → Nat → Int} (h : pJ M) (h6 : M 5 1 < 6) : pGo M (f_its M) := by
  have a := pGo_num h 1 9
  have a2 : pGo M (f_isA M (6 + M 5 1)) := ⟨⟨a.1.1, a.1.2⟩, a.2⟩
  have b := pGo_num a2.1 0 3
  have b2 : pGo (f_isA M (6 + M 5 1)) (f_isB (f_isA M (6 + M 5 1)) (6 + M 5 1)) := ⟨⟨b.1.1, b.1.2⟩, b.2⟩
  have c := pGo_num b2.1 0 (f_isB (f_isA M (6 + M 5 1)) (6 + M 5 1) 2 1 - 1)
  have c2 : pGo (f_isB (f_isA M (6 + M 5 1)) (6 + M 5 1)) (f_isC (f_isB (f_isA M (6 + M 5 1)) (6 + M 5 1)) (6 + M 5 1)) := ⟨⟨c.1.1, c.1.2⟩, c.2⟩
  have e1 : f_isC (f_isB (f_isA M (6 + M 5 1)) (6 + M 5 1)) (6 + M 5 1) 5 1 = M 5 1 := by
    have q0 : f_num (f_isB (f_isA M (6 + M 5 1)) (6 + M 5 1)) 0 (f_isB (f_isA M (6 + M 5 1)) (6 + M 5 1) 2 1 - 1) 5 = f_isB (f_isA M (6 + M 5 1)) (6 + M 5 1) 5 := f_num_o _ _ _ (by decide)
    have q1 : f_num (f_isA M (6 + M 5 1)) 0 3 5 = f_isA M (6 + M 5 1) 5 := f_num_o _ _ _ (by decide)
    have q2 : f_num M 1 9 5 = M 5 := f_num_o _ _ _ (by decide)
    show f_num (f_isB (f_isA M (6 + M 5 1)) (6 + M 5 1)) 0 (f_isB (f_isA M (6 + M 5 1)) (6 + M 5 1) 2 1 - 1) 5 1 = M 5 1
    rw [q0]
    show f_num (f_isA M (6 + M 5 1)) 0 3 5 1 = M 5 1
    rw [q1]
    show f_num M 1 9 5 1 = M 5 1
    rw [q2]
  have g := pGo_tr (pGo_tr a2 b2) c2
  refine ⟨⟨?_, g.1.2⟩, g.2⟩
  obtain ⟨p1, p2, p3, p4, p5, p6, p7, p8, p9, p10⟩ := g.1.1
  exact ⟨p1, p2, p3, p4, p5, p6, p7, (by show 0 ≤ f_isC (f_isB (f_isA M (6 + M 5 1)) (6 + M 5 1)) (6 + M 5 1) 5 1 + 1 ∧ f_isC (f_isB (f_isA M (6 + M 5 1)) (6 + M 5 1)) (6 + M 5 1) 5 1 + 1 ≤ 6; omega), p9, p10⟩
theorem pGo_if {M : Nat → Nat → Int} (h : pJ M) : pGo M (f_itf M) := by
  have a := pGo_num h 0 3
  have b := pGo_tr a (pGo_num a.1 0 20)
  unfold f_itf
  split
  · exact ⟨⟨b.1.1, b.1.2⟩, b.2⟩
  · exact b
theorem pGo_bl1 {M : Nat → Nat → Int} (h : pJ M) (h6 : M 9 1 < 6) : pGo M (f_bl1 M) := by
  have a := pGo_num h 0 8
  have e : f_num M 0 8 9 1 = M 9 1 := congrFun (f_num_o M 0 8 (f := 9) (by decide)) 1
  unfold f_bl1
  split
  · refine ⟨⟨?_, a.1.2⟩, a.2⟩
    obtain ⟨p1, p2, p3, p4, p5, p6, p7, p8, p9, p10⟩ := a.1.1
    exact ⟨p1, p2, p3, p4, p5, p6, p7, p8, (by show 0 ≤ f_num M 0 8 9 1 + 1 ∧ f_num M 0 8 9 1 + 1 ≤ 6; omega), p10⟩
  · exact a
theorem pGo_blN : ∀ (n : Nat) {M : Nat → Nat → Int}, pJ M → M 9 1 < 6 → pGo M (f_blN n M)
  | 0, _, h, _ => pGo_rf h
  | n + 1, M, h, h6 => by
    have a := pGo_bl1 h h6
    show pGo M (if f_bl1 M 16 0 = 0 ∧ f_bl1 M 14 0 = 2 ∧ f_bl1 M 9 1 < 6 then f_blN n (f_bl1 M) else f_bl1 M)
    split
    · rename_i q
      exact pGo_tr a (pGo_blN n a.1 q.2.2)
    · exact a
theorem pGo_blow {M : Nat → Nat → Int} (h : pJ M) : pGo M (f_blow M) := by
  have g : pGo M (mU (mU M 9 1 0) 18 0 1) := by
    refine ⟨⟨?_, h.2⟩, Int.le_refl _⟩
    obtain ⟨p1, p2, p3, p4, p5, p6, p7, p8, p9, p10⟩ := h.1
    exact ⟨p1, p2, p3, p4, p5, Or.inr rfl, p7, p8, (by show (0 : Int) ≤ 0 ∧ (0 : Int) ≤ 6; decide), p10⟩
  exact pGo_tr g (pGo_blN 6 g.1 (by show (0 : Int) < 6; decide))
theorem pGo_item {M : Nat → Nat → Int} (h : pJ M) {wd : Int} (h2 : wd = 112 → M 2 1 < 6) (h3 : wd = 115 → M 5 1 < 6) : pGo M (f_item M wd) := by
  unfold f_item
  split
  · exact pGo_ip h (h2 (by assumption))
  · split
    · exact pGo_is h (h3 (by assumption))
    · split
      · exact pGo_blow h
      · exact pGo_if h
def s_wd (M : Nat → Nat → Int) : Int := if M 14 0 = 1 then M 15 0 else 0
def s_gd (M : Nat → Nat → Int) : Int := if M 14 0 = 1 ∧ ¬ (s_may M (s_wd M) = 0) then 1 else 0
def f_rA (M : Nat → Nat → Int) : Nat → Nat → Int := f_due M (s_gd M)
def f_rC (B : Nat → Nat → Int) : Nat → Nat → Int := f_due B (if B 14 0 = 3 then 1 else 0)
def f_rD (K : Nat → Nat → Int) : Nat → Nat → Int := mU K 17 0 (K 17 0 + 1)
def f_rd1 (M : Nat → Nat → Int) : Nat → Nat → Int := if f_rA M 16 0 = 0 then f_rD (f_rC (f_item (f_rA M) (s_wd M))) else f_rA M
def f_rdN : Nat → (Nat → Nat → Int) → (Nat → Nat → Int)
  | 0, M => M
  | n + 1, M => if ¬ (M 14 0 = 4) ∧ M 16 0 = 0 then f_rdN n (f_rd1 M) else M
theorem f_rdN_stop (n : Nat) {M : Nat → Nat → Int} (h : M 14 0 = 4 ∨ ¬ (M 16 0 = 0)) : f_rdN n M = M := by
  cases n with
  | zero => rfl
  | succ n => exact if_neg (by omega)
theorem f_rdN_go {n : Int} {M : Nat → Nat → Int} (hn : n < 200) (h : ¬ (M 14 0 = 4) ∧ M 16 0 = 0) : f_rdN (Int.toNat (200 - n)) M = f_rdN (Int.toNat (200 - (n + 1))) (f_rd1 M) := by
  obtain ⟨k, hk⟩ : ∃ k : Nat, Int.toNat (200 - n) = k + 1 := ⟨Int.toNat (200 - n - 1), by omega⟩
  have e : Int.toNat (200 - (n + 1)) = k := by omega
  rw [hk, e]
  exact if_pos h
def f_r0 (M : Nat → Nat → Int) : Nat → Nat → Int := mU (mU (mU (mU (mU (mU (mU (mU M 12 0 0) 16 0 0) 17 0 0) 18 0 0) 2 1 0) 5 1 0) 9 1 1) 10 6 0
def f_nin (K : Nat → Nat → Int) (k : Nat) : Nat → Nat → Int := fun f j => if f = 11 ∧ j < k then 9 else K f j
theorem f_nin_0 (K : Nat → Nat → Int) : f_nin K 0 = K := by
  funext f j
  exact if_neg (by omega)
theorem f_nin_step (K : Nat → Nat → Int) {k : Int} (h : 0 ≤ k) : f_nin K (Int.toNat (k + 1)) = mU (f_nin K (Int.toNat k)) 11 (Int.toNat k) 9 := by
  obtain ⟨n, rfl⟩ := Int.eq_ofNat_of_zero_le h
  have e1 : Int.toNat ((n : Int) + 1) = n + 1 := by omega
  rw [e1, Int.toNat_natCast]
  funext f j
  by_cases hf : f = 11
  · subst hf
    by_cases hj : j = n
    · subst hj; simp [mU, f_nin]
    · simp only [mU, f_nin, true_and]
      rw [if_neg hj]
      have c : j < n + 1 ↔ j < n := by omega
      simp only [c]
  · simp [mU, f_nin, hf]
def f_r1 (M : Nat → Nat → Int) : Nat → Nat → Int := f_step (f_nin (f_r0 M) 4)
def f_read (M : Nat → Nat → Int) : Nat → Nat → Int := f_rdN 200 (f_r1 M)
theorem s_may_bd (M : Nat → Nat → Int) (wd : Int) : 0 ≤ s_may M wd ∧ s_may M wd ≤ 1 := by unfold s_may; omega
theorem f_due_go {M : Nat → Nat → Int} {is : Int} (h : f_due M is 16 0 = 0) : f_due M is = f_step M := by
  obtain ⟨a, b⟩ := f_due_ok h
  unfold f_due
  rw [if_neg (fun z => z a), if_pos b]
theorem f_bl1_17 (M : Nat → Nat → Int) : f_bl1 M 17 = M 17 := by
  have e : f_num M 0 8 17 = M 17 := f_num_o _ _ _ (by decide)
  unfold f_bl1
  split
  · rw [← e]
    funext j
    show mU (mU (f_num M 0 8) 10 _ _) 9 1 _ 17 j = _
    rw [mU_nf _ _ _ _ (by decide), mU_nf _ _ _ _ (by decide)]
  · exact e
theorem f_blN_17 : ∀ (n : Nat) (M : Nat → Nat → Int), f_blN n M 17 = M 17
  | 0, _ => rfl
  | n + 1, M => by
    show (if f_bl1 M 16 0 = 0 ∧ f_bl1 M 14 0 = 2 ∧ f_bl1 M 9 1 < 6 then f_blN n (f_bl1 M) else f_bl1 M) 17 = M 17
    split
    · rw [f_blN_17 n, f_bl1_17]
    · exact f_bl1_17 M
theorem mU_17 (K : Nat → Nat → Int) {f : Nat} (i : Nat) (v : Int) (h : f ≠ 17) : mU K f i v 17 = K 17 := by
  funext j
  exact mU_nf _ _ _ _ (fun e => h e.symm)
theorem f_item_17 (M : Nat → Nat → Int) (wd : Int) : f_item M wd 17 = M 17 := by
  have n : ∀ (K : Nat → Nat → Int) (lo hi : Int), f_num K lo hi 17 = K 17 := fun K lo hi => f_num_o _ _ _ (by decide)
  unfold f_item
  split
  · unfold f_itp f_ipC f_ipB f_ipA
    rw [mU_17 _ _ _ (by decide), mU_17 _ _ _ (by decide), n, mU_17 _ _ _ (by decide), n]
  · split
    · unfold f_its f_isD f_isC f_isB f_isA
      rw [mU_17 _ _ _ (by decide), mU_17 _ _ _ (by decide), n, mU_17 _ _ _ (by decide), n, mU_17 _ _ _ (by decide), n]
    · split
      · unfold f_blow
        rw [f_blN_17, mU_17 _ _ _ (by decide), mU_17 _ _ _ (by decide)]
      · unfold f_itf
        split
        · rw [mU_17 _ _ _ (by decide), n, n]
        · rw [n, n]
