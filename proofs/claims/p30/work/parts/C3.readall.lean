/-! The class reads as the reference does: the whole text. -/
def sgI (M : Nat → Nat → Int) : Prop := pJ M ∧ (¬ M 14 0 = 4 → M 13 0 < M 12 0)
theorem sgI_step {M : Nat → Nat → Int} (h : pJ M) : sgI (f_step M) := by
  have a := f_step_13 M
  have p := h.1
  have b := f_step_12 p.2.1.2 p.1.2
  exact ⟨(pGo_step h).1, fun z => by have := b.2 z; omega⟩
theorem sgI_rd1 {M : Nat → Nat → Int} (h : sgI M) (h4 : ¬ M 14 0 = 4) (hw : f_rd1 M 16 0 = 0) : sgI (f_rd1 M) ∧ M 13 0 < f_rd1 M 13 0 ∧ f_rd1 M 17 0 = M 17 0 + 1 := by
  have hA : f_rA M 16 0 = 0 := by
    by_cases q : f_rA M 16 0 = 0
    · exact q
    · unfold f_rd1 at hw
      rw [if_neg q] at hw
      exact hw
  have eA : f_rA M = f_step M := f_due_go hA
  obtain ⟨g1, g2⟩ := f_due_ok hA
  have g3 : M 14 0 = 1 ∧ ¬ (s_may M (s_wd M) = 0) := by
    unfold s_gd at g2
    by_cases q : M 14 0 = 1 ∧ ¬ (s_may M (s_wd M) = 0)
    · exact q
    · rw [if_neg q] at g2; exact absurd rfl g2
  have gm := g3.2
  obtain ⟨B, hB⟩ : ∃ B, B = f_item (f_step M) (s_wd M) := ⟨_, rfl⟩
  have e1 : f_rd1 M = f_rD (f_rC B) := by unfold f_rd1; rw [if_pos hA, eA, hB]
  have hC : f_rC B 16 0 = 0 := by
    rw [e1] at hw
    exact hw
  have eC : f_rC B = f_step B := f_due_go hC
  have s1 := sgI_step h.1
  have p1 := pGo_step h.1
  have p2 : pGo (f_step M) B := by
    rw [hB]
    refine pGo_item p1.1 (fun z => ?_) (fun z => ?_)
    · rw [f_step_lo _ (by decide)]
      unfold s_may at gm
      rw [if_pos z] at gm
      omega
    · rw [f_step_lo _ (by decide)]
      unfold s_may at gm
      rw [if_neg (by omega), if_pos z] at gm
      omega
  have p3 := pGo_step p2.1
  have s3 := sgI_step p2.1
  have a := f_step_13 M
  have b := s_a1_bd h.1.1.2.1.2
  have c := h.2 h4
  have d1 := p2.2
  have d2 := p3.2
  rw [e1, eC]
  refine ⟨s3, ?_, ?_⟩
  · show M 13 0 < f_step B 13 0
    omega
  · have e17 : f_step B 17 0 = M 17 0 := by
      rw [f_step_lo _ (by decide), hB, f_item_17, f_step_o M (by decide)]
    show f_step B 17 0 + 1 = M 17 0 + 1
    rw [e17]
def rlR (P : (Nat → Nat → Int) × Int) (N : Nat → Nat → Int) (i : Nat) : Prop := (P.2 = N 17 0 ∧ (0 ≤ P.2 ∧ P.2 ≤ 120) ∧ okR P.1 N i) ∨ (P.2 = -10 - P.1 2 4 ∧ wr N (P.1 2 4))
theorem rl_eq {i : Nat} (hi : isTo i) : ∀ (f : Nat) (n : Int) (K M : Nat → Nat → Int), n + f = 120 → 0 ≤ n → n ≤ M 13 0 → M 17 0 = n → sgI M → okR K M i → rlR (f_rl i f n K) (f_rdN (80 + f) M) i
  | 0, n, K, M, hn, h0, h13, h17, sg, ok => by
    have b := sg.1.1
    have e4 : M 14 0 = 4 := by
      by_cases q : M 14 0 = 4
      · exact q
      · have := sg.2 q
        have := b.1
        have := b.2.1
        omega
    rw [f_rdN_stop _ (Or.inl e4)]
    exact Or.inl ⟨h17.symm, by show 0 ≤ n ∧ n ≤ 120; omega, ok⟩
  | f + 1, n, K, M, hn, h0, h13, h17, sg, ok => by
    have tk := ok.1
    obtain ⟨t1, t2, t3, t4, t5⟩ := tk
    have o16 := ok.2.1
    have eN : f_rdN (80 + (f + 1)) M = if ¬ (M 14 0 = 4) ∧ M 16 0 = 0 then f_rdN (80 + f) (f_rd1 M) else M := rfl
    have eL : f_rl i (f + 1) n K = if K 2 3 = 0 then (K, n) else if (x_itm K i).2 = 0 then ((x_itm K i).1, -10 - (x_itm K i).1 2 4) else f_rl i f (n + 1) (x_itm K i).1 := rfl
    by_cases q : K 2 3 = 0
    · have e4 : M 14 0 = 4 := by omega
      have fL : f_rl i (f + 1) n K = (K, n) := by rw [eL, if_pos q]
      rw [fL, f_rdN_stop _ (Or.inl e4)]
      exact Or.inl ⟨h17.symm, by show 0 ≤ n ∧ n ≤ 120; omega, ok⟩
    · have q4 : ¬ M 14 0 = 4 := by omega
      have fN : f_rdN (80 + (f + 1)) M = f_rdN (80 + f) (f_rd1 M) := by rw [eN, if_pos ⟨q4, o16⟩]
      rw [fN]
      rcases itm_eq hi ok with ⟨a, b⟩ | ⟨a, b⟩
      · have fL : f_rl i (f + 1) n K = f_rl i f (n + 1) (x_itm K i).1 := by rw [eL, if_neg q, if_neg (show ¬ (x_itm K i).2 = 0 by omega)]
        rw [fL]
        obtain ⟨s1, s2, s3⟩ := sgI_rd1 sg q4 b.2.1
        exact rl_eq hi f (n + 1) _ _ (by omega) (by omega) (by omega) (by omega) s1 b
      · have fL : f_rl i (f + 1) n K = ((x_itm K i).1, -10 - (x_itm K i).1 2 4) := by rw [eL, if_neg q, if_pos a]
        rw [fL, f_rdN_stop _ (Or.inr b.1)]
        exact Or.inr ⟨rfl, b⟩
theorem cr_eq {V M : Nat → Nat → Int} {to : Nat} (hi : isTo to) (h1 : V 0 1 = M 1 0) (hT : 0 ≤ M 1 0 ∧ M 1 0 ≤ 120) (ht : ∀ k : Nat, k < 120 → V 1 k = M 0 k % 256) : rlR (f_cread V to (V 0 1)) (f_read M) to := by
  have nx := hi.x2
  obtain ⟨Q, hQ⟩ : ∃ Q, Q = f_no (mU (mU V 2 1 (V 0 1)) 2 2 0) to := ⟨_, rfl⟩
  obtain ⟨Z, hZ⟩ : ∃ Z, Z = f_nin (f_r0 M) 4 := ⟨_, rfl⟩
  have e1 : f_cread V to (V 0 1) = f_rl to 120 0 (f_kst Q) := by unfold f_cread f_cr0; rw [hQ]; rfl
  have e2 : f_read M = f_rdN (80 + 120) (f_step Z) := by unfold f_read f_r1; rw [hZ]
  have q2 : Q 2 = mU (mU V 2 1 (V 0 1)) 2 2 0 2 := by rw [hQ]; exact f_no_o _ (by omega)
  have q1 : Q 1 = V 1 := by rw [hQ, f_no_o _ (by omega)]; rfl
  have q7 := f_no_7 (mU (mU V 2 1 (V 0 1)) 2 2 0) to
  rw [← hQ] at q7
  have q6 : Q (to + 6) 0 = 0 := by
    rw [hQ]
    unfold f_no f_noN
    rw [if_neg (by omega), mU_eq]
  have qF : ∀ k : Nat, k < 4 → Q (to + 7) k = 9 := fun k hk => by
    rw [hQ]
    unfold f_no f_noN
    rw [if_pos ⟨rfl, hk⟩]
  have z1 : Z 1 0 = M 1 0 := by rw [hZ]; rfl
  have z0 : Z 0 = M 0 := by rw [hZ]; rfl
  have z12 : Z 12 0 = 0 := by rw [hZ]; rfl
  have z16 : Z 16 0 = 0 := by rw [hZ]; rfl
  have z17 : Z 17 0 = 0 := by rw [hZ]; rfl
  have z18 : Z 18 0 = 0 := by rw [hZ]; rfl
  have z2 : Z 2 1 = 0 := by rw [hZ]; rfl
  have z5 : Z 5 1 = 0 := by rw [hZ]; rfl
  have z9 : Z 9 1 = 1 := by rw [hZ]; rfl
  have z10 : Z 10 6 = 0 := by rw [hZ]; rfl
  have z11 : ∀ k : Nat, k < 4 → Z 11 k = 9 := fun k hk => by
    rw [hZ]
    exact if_pos ⟨rfl, hk⟩
  have hd : hdR Q Z := by
    refine ⟨?_, ?_, by rw [z1]; exact hT, by rw [z1, z12]; omega, fun k hk => by rw [q1, z0]; exact ht k hk⟩
    · rw [q2, z1]; exact h1
    · rw [q2, z12]; rfl
  have pq : pQ Z := by
    unfold pQ
    rw [z1, z12, z16, z18, z2, z5, z9]
    exact ⟨hT, by omega, Or.inl rfl, Or.inl rfl, by decide, by decide, by decide⟩
  have pi := pI_stepq pq
  have a13 := f_step_13 Z
  have a12 := f_step_12 (M := Z) (by omega) (by omega)
  have b := s_a1_bd (M := Z) (by omega)
  have sg : sgI (f_step Z) := ⟨⟨pi, by omega⟩, fun z => by have := a12.2 z; omega⟩
  have tk := tkR_kst hd
  have td : tdR Q Z to := by
    unfold tdR
    rw [q7.1, q7.2.1, z2, z5]
    exact ⟨by decide, by decide, fun k hk => absurd hk (by omega), fun k hk => absurd hk (by omega), fun k hk => by rw [qF k hk, z11 k hk]⟩
  have wd : wdR Q Z to := Or.inl ⟨q7.2.2, z18, z9, q6, z10⟩
  rw [e1, e2]
  refine rl_eq hi 120 0 (f_kst Q) (f_step Z) (by omega) (by omega) (by omega) ((f_step_lo _ (by decide) _).trans z17) sg ⟨tk, (f_step_lo _ (by decide) _).trans z16, ?_, ?_⟩
  · exact td.cg hi (fun g hg => f_kst_o _ _ hg) (fun f hf _ _ => f_step_o Z (Or.inl hf))
  · exact wd.cg (by rw [f_kst_o _ _ (by omega)]) (f_kst_o _ _ (by omega)) (f_step_o Z (by decide)) (f_step_o Z (by decide)) (f_step_o Z (by decide))
