/-! The class reads as the reference does: items. -/
def wr (M : Nat → Nat → Int) (s : Int) : Prop := ¬ M 16 0 = 0 ∧ M 13 0 = s
theorem wr.due {M : Nat → Nat → Int} {s : Int} (h : wr M s) (is : Int) : wr (f_due M is) s := by unfold f_due; rw [if_pos h.1]; exact h
theorem wr.num {M : Nat → Nat → Int} {s : Int} (h : wr M s) (lo hi : Int) : wr (f_num M lo hi) s := h.due _
theorem wr.rc {M : Nat → Nat → Int} {s : Int} (h : wr M s) : wr (f_rC M) s := h.due _
theorem wr.w {M : Nat → Nat → Int} {s : Int} (h : wr M s) {f : Nat} (i : Nat) (v : Int) (h1 : 16 ≠ f) (h2 : 13 ≠ f) : wr (mU M f i v) s := ⟨by rw [mU_nf _ _ _ _ h1]; exact h.1, by rw [mU_nf _ _ _ _ h2]; exact h.2⟩
theorem tkR.cg {K M L : Nat → Nat → Int} (h : tkR K M) (e0 : L 0 = M 0) (e1 : L 1 = M 1) (e2 : L 12 = M 12) (e3 : L 13 = M 13) (e4 : L 14 = M 14) (e5 : L 15 = M 15) : tkR K L := by
  unfold tkR hdR at h ⊢
  rw [e0, e1, e2, e3, e4, e5]
  exact h
theorem tkR.w {K M : Nat → Nat → Int} (h : tkR K M) {f : Nat} (i : Nat) (v : Int) (hf : (1 < f ∧ f < 12) ∨ 15 < f) : tkR K (mU M f i v) :=
  h.cg (mU_or _ _ _ (by omega)) (mU_or _ _ _ (by omega)) (mU_or _ _ _ (by omega)) (mU_or _ _ _ (by omega)) (mU_or _ _ _ (by omega)) (mU_or _ _ _ (by omega))
theorem tkR.kg {K M L : Nat → Nat → Int} (h : tkR K M) (e1 : L 1 = K 1) (e2 : L 2 = K 2) : tkR L M := by
  unfold tkR hdR at h ⊢
  rw [e1, e2]
  exact h
theorem num_eq {K M : Nat → Nat → Int} (h : tkR K M) (h0 : M 16 0 = 0) (lo hi : Int) : (k_num K lo hi = M 15 0 ∧ lo ≤ M 15 0 ∧ M 15 0 ≤ hi ∧ M 14 0 = 2 ∧ tkR (f_knum K lo hi) (f_num M lo hi) ∧ f_num M lo hi 16 0 = 0) ∨ (k_num K lo hi = -1 ∧ f_knum K lo hi = K ∧ wr (f_num M lo hi) (M 13 0)) := by
  obtain ⟨a, b, c, d, e⟩ := id h
  have n16 : ¬ ¬ M 16 0 = 0 := fun z => z h0
  by_cases q : M 14 0 = 2 ∧ lo ≤ M 15 0 ∧ M 15 0 ≤ hi
  · have e3 : K 2 3 = 2 := by omega
    have e5 := e (Or.inr e3)
    have q9 : K 2 3 = 2 ∧ lo ≤ K 2 5 ∧ K 2 5 ≤ hi := by omega
    have f1 : k_num K lo hi = K 2 5 := if_pos q9
    have f2 : f_knum K lo hi = f_kst K := if_pos q9
    have f3 : f_num M lo hi = f_step M := by
      unfold f_num f_due s_ok
      rw [if_neg n16, if_pos q, if_pos (by decide)]
    left
    rw [f1, f2, f3]
    exact ⟨e5, q.2.1, q.2.2, q.1, tkR_kst a, (congrFun (f_step_o M (by decide)) 0).trans h0⟩
  · have q9 : ¬ (K 2 3 = 2 ∧ lo ≤ K 2 5 ∧ K 2 5 ≤ hi) := fun z => q (by have := e (Or.inr z.1); omega)
    have f1 : k_num K lo hi = -1 := if_neg q9
    have f2 : f_knum K lo hi = K := if_neg q9
    have f3 : f_num M lo hi = mU M 16 0 1 := by
      unfold f_num f_due s_ok
      rw [if_neg n16, if_neg q, if_neg (by decide)]
    right
    rw [f1, f2, f3]
    exact ⟨rfl, rfl, by rw [mU_eq]; decide, rfl⟩
theorem sem_eq {K M : Nat → Nat → Int} (h : tkR K M) (h0 : M 16 0 = 0) : (K 2 3 = 3 ∧ tkR (f_ksem K) (f_rC M) ∧ f_rC M 16 0 = 0) ∨ (¬ K 2 3 = 3 ∧ f_ksem K = K ∧ wr (f_rC M) (M 13 0)) := by
  obtain ⟨a, b, c, d, e⟩ := id h
  have n16 : ¬ ¬ M 16 0 = 0 := fun z => z h0
  by_cases q : K 2 3 = 3
  · have f2 : f_ksem K = f_kst K := if_pos q
    have f3 : f_rC M = f_step M := by
      unfold f_rC f_due
      rw [if_neg n16, if_pos (show M 14 0 = 3 by omega), if_pos (by decide)]
    left
    rw [f2, f3]
    exact ⟨q, tkR_kst a, (congrFun (f_step_o M (by decide)) 0).trans h0⟩
  · have f2 : f_ksem K = K := if_neg q
    have f3 : f_rC M = mU M 16 0 1 := by
      unfold f_rC f_due
      rw [if_neg n16, if_neg (show ¬ M 14 0 = 3 by omega), if_neg (by decide)]
    right
    rw [f2, f3]
    exact ⟨q, rfl, by rw [mU_eq]; decide, rfl⟩
/-- what was told so far -/
def tdR (K M : Nat → Nat → Int) (i : Nat) : Prop := (K i 7 = M 2 1 ∧ 0 ≤ M 2 1 ∧ M 2 1 ≤ 6) ∧ (K i 8 = M 5 1 ∧ 0 ≤ M 5 1 ∧ M 5 1 ≤ 6) ∧ (∀ k : Nat, (k : Int) < M 2 1 → K (i + 1) k = M 3 (6 + k) ∧ K (i + 2) k = M 4 (6 + k)) ∧ (∀ k : Nat, (k : Int) < M 5 1 → K (i + 3) k = M 6 (6 + k) ∧ K (i + 4) k = M 7 (6 + k) ∧ K (i + 5) k = M 8 (6 + k)) ∧ (∀ k : Nat, k < 4 → K (i + 7) k = M 11 k)
def wdR (K M : Nat → Nat → Int) (i : Nat) : Prop := (K i 9 = 0 ∧ M 18 0 = 0 ∧ M 9 1 = 1 ∧ K (i + 6) 0 = 0 ∧ M 10 6 = 0) ∨ ((0 < K i 9 ∧ K i 9 ≤ 6) ∧ M 18 0 = 1 ∧ K i 9 = M 9 1 ∧ (∀ k : Nat, (k : Int) < M 9 1 → K (i + 6) k = M 10 (6 + k)))
theorem tdR.cg {K M L N : Nat → Nat → Int} {i : Nat} (hi : isTo i) (h : tdR K M i) (eL : ∀ g, g ≠ 2 → L g = K g) (eN : ∀ f, f < 12 → f ≠ 9 → f ≠ 10 → N f = M f) : tdR L N i := by
  have x := hi.x2
  unfold tdR at h ⊢
  rw [eL i (by omega), eL (i + 1) (by omega), eL (i + 2) (by omega), eL (i + 3) (by omega), eL (i + 4) (by omega), eL (i + 5) (by omega), eL (i + 7) (by omega), eN 2 (by decide) (by decide) (by decide), eN 3 (by decide) (by decide) (by decide), eN 4 (by decide) (by decide) (by decide), eN 5 (by decide) (by decide) (by decide), eN 6 (by decide) (by decide) (by decide), eN 7 (by decide) (by decide) (by decide), eN 8 (by decide) (by decide) (by decide), eN 11 (by decide) (by decide) (by decide)]
  exact h
theorem wdR.cg {K M L N : Nat → Nat → Int} {i : Nat} (h : wdR K M i) (e1 : L i 9 = K i 9) (e2 : L (i + 6) = K (i + 6)) (e3 : N 9 = M 9) (e4 : N 10 = M 10) (e5 : N 18 = M 18) : wdR L N i := by
  unfold wdR at h ⊢
  rw [e1, e2, e3, e4, e5]
  exact h
def okR (K M : Nat → Nat → Int) (i : Nat) : Prop := tkR K M ∧ M 16 0 = 0 ∧ tdR K M i ∧ wdR K M i
theorem f_rC_o (M : Nat → Nat → Int) {f : Nat} (h : f < 12 ∨ 16 < f) : f_rC M f = M f := f_due_o M _ h
theorem tk_24 {K M : Nat → Nat → Int} (h : tkR K M) : K 2 4 = M 13 0 := h.2.1
-- one of the people
theorem tdR_one {K A W D : Nat → Nat → Int} {i n : Nat} {x y : Int} (hi : isTo i) (td : tdR K A i) (hn : A 2 1 = (n : Int)) (h6 : A 2 1 < 6) (hW : ∀ g, g ≠ 2 → W g = K g) (d2 : D 2 1 = A 2 1 + 1) (d3 : ∀ j, D 3 j = if j = 6 + n then x else A 3 j) (d4 : ∀ j, D 4 j = if j = 6 + n then y else A 4 j) (dO : ∀ f, f < 12 → f ≠ 2 → f ≠ 3 → f ≠ 4 → D f = A f) : tdR (f_o5 W i x y) D i := by
  have nx := hi.x2
  obtain ⟨t1, t2, t3, t4, t5⟩ := td
  have e7 : Int.toNat (W i 7) = n := by rw [hW i (by omega)]; omega
  have w7 : f_o5 W i x y i 7 = A 2 1 + 1 := by unfold f_o5; rw [mU_eq, hW i (by omega), t1.1]
  have wi : ∀ j : Nat, j ≠ 7 → f_o5 W i x y i j = K i j := fun j hj => by
    unfold f_o5
    rw [mU_ni _ _ _ _ hj, mU_nf _ _ _ _ (by omega), mU_nf _ _ _ _ (by omega), hW i (by omega)]
  have w1 : ∀ j, f_o5 W i x y (i + 1) j = if j = n then x else K (i + 1) j := fun j => by
    unfold f_o5
    rw [mU_nf _ _ _ _ (by omega), mU_nf _ _ _ _ (by omega), e7]
    by_cases q : j = n
    · rw [q, mU_eq, if_pos rfl]
    · rw [mU_ni _ _ _ _ q, if_neg q, hW _ (by omega)]
  have w2 : ∀ j, f_o5 W i x y (i + 2) j = if j = n then y else K (i + 2) j := fun j => by
    unfold f_o5
    rw [mU_nf _ _ _ _ (by omega), e7]
    by_cases q : j = n
    · rw [q, mU_eq, if_pos rfl]
    · rw [mU_ni _ _ _ _ q, mU_nf _ _ _ _ (by omega), if_neg q, hW _ (by omega)]
  have wo : ∀ g, i + 2 < g → f_o5 W i x y g = K g := fun g hg => by
    unfold f_o5
    rw [mU_or _ _ _ (by omega), mU_or _ _ _ (by omega), mU_or _ _ _ (by omega), hW _ (by omega)]
  unfold tdR
  rw [w7, wi 8 (by decide), d2, dO 5 (by decide) (by decide) (by decide) (by decide), wo (i + 3) (by omega), wo (i + 4) (by omega), wo (i + 5) (by omega), wo (i + 7) (by omega), dO 6 (by decide) (by decide) (by decide) (by decide), dO 7 (by decide) (by decide) (by decide) (by decide), dO 8 (by decide) (by decide) (by decide) (by decide), dO 11 (by decide) (by decide) (by decide) (by decide)]
  refine ⟨⟨rfl, by omega, by omega⟩, t2, fun k hk => ?_, t4, t5⟩
  rw [w1, w2, d3, d4]
  by_cases q : k = n
  · rw [if_pos q, if_pos q, if_pos (by omega), if_pos (by omega)]
    exact ⟨rfl, rfl⟩
  · rw [if_neg q, if_neg q, if_neg (by omega), if_neg (by omega)]
    exact t3 k (by omega)
theorem one_eq {K A : Nat → Nat → Int} {i : Nat} (hi : isTo i) (ht : tkR (f_kst K) A) (h0 : A 16 0 = 0) (td : tdR K A i) (wd : wdR K A i) (h6 : A 2 1 < 6) : (r_one K i = 1 ∧ okR (f_one K i) (f_rC (f_itp A)) i) ∨ (r_one K i = 0 ∧ wr (f_rC (f_itp A)) (f_one K i 2 4)) := by
  have nx := hi.x2
  have t7 : K i 7 = A 2 1 := td.1.1
  have tb := td.1.2
  obtain ⟨n, hn⟩ := Int.eq_ofNat_of_zero_le tb.1
  have e6 : Int.toNat (6 + A 2 1) = 6 + n := by omega
  obtain ⟨B, hB⟩ : ∃ B, B = f_ipA A := ⟨_, rfl⟩
  obtain ⟨C, hC⟩ : ∃ C, C = f_ipB B := ⟨_, rfl⟩
  obtain ⟨E, hE⟩ : ∃ E, E = f_ipC C := ⟨_, rfl⟩
  have hT : f_itp A = E := by rw [hE, hC, hB]; rfl
  rw [hT]
  have b1 : B = mU (f_num A 0 30) 3 (6 + n) (A 15 0) := by rw [hB]; unfold f_ipA; rw [e6]
  have bO : ∀ f, f < 12 → f ≠ 3 → B f = A f := fun f h1 h2 => by rw [b1, mU_or _ _ _ h2, f_num_lo _ _ _ h1]
  have c1 : C = mU (f_num B 0 5) 4 (6 + n) (B 15 0) := by rw [hC]; unfold f_ipB; rw [bO 2 (by decide) (by decide), e6]
  have cO : ∀ f, f < 12 → f ≠ 4 → C f = B f := fun f h1 h2 => by rw [c1, mU_or _ _ _ h2, f_num_lo _ _ _ h1]
  have e1 : E = mU C 2 1 (C 2 1 + 1) := hE
  rcases num_eq ht h0 0 30 with ⟨p1, p2, p3, p4, p5, p6⟩ | ⟨p1, p2, p3⟩
  · have tB : tkR (f_o2 K) B := by rw [b1]; exact p5.w _ _ (by decide)
    have zB : B 16 0 = 0 := by rw [b1, mU_nf _ _ _ _ (by decide)]; exact p6
    have op : o_pl K = A 15 0 := p1
    rcases num_eq tB zB 0 5 with ⟨q1, q2, q3, q4, q5, q6⟩ | ⟨q1, q2, q3⟩
    · have tC : tkR (f_o3 K) E := by rw [e1, c1]; exact (q5.w _ _ (by decide)).w _ _ (by decide)
      have zC : E 16 0 = 0 := by rw [e1, mU_nf _ _ _ _ (by decide), c1, mU_nf _ _ _ _ (by decide)]; exact q6
      have oe : o_er K = B 15 0 := q1
      rcases sem_eq tC zC with ⟨s1, s2, s3⟩ | ⟨s1, s2, s3⟩
      · left
        have hr : r_one K i = 1 := if_pos ⟨by omega, by omega, by omega, s1⟩
        have hf : f_one K i = f_o5 (f_ksem (f_o3 K)) i (o_pl K) (o_er K) := by
          unfold f_one
          rw [if_neg (by omega), if_neg (by omega), if_neg (by omega), if_neg (fun z => z s1)]
        have hW : ∀ g, g ≠ 2 → f_ksem (f_o3 K) g = K g := fun g hg => by rw [f_ksem_o _ _ hg, f_o3_o _ hg]
        have l : ∀ {f : Nat}, f < 12 → f_rC E f = E f := fun hf => f_rC_o E (Or.inl hf)
        refine ⟨hr, ?_, s3, ?_, ?_⟩
        · rw [hf]
          unfold f_o5
          exact s2.kg (by rw [mU_or _ _ _ (by omega), mU_or _ _ _ (by omega), mU_or _ _ _ (by omega)]) (by rw [mU_or _ _ _ (by omega), mU_or _ _ _ (by omega), mU_or _ _ _ (by omega)])
        · rw [hf, op, oe]
          refine tdR_one hi td hn h6 hW ?_ (fun j => ?_) (fun j => ?_) (fun f h1 h2 h3 h4 => ?_)
          · rw [l (by decide), e1, mU_eq, cO 2 (by decide) (by decide), bO 2 (by decide) (by decide)]
          · rw [l (by decide), e1, mU_nf _ _ _ _ (by decide), cO 3 (by decide) (by decide), b1]
            by_cases q : j = 6 + n
            · rw [q, mU_eq, if_pos rfl]
            · rw [mU_ni _ _ _ _ q, f_num_lo _ _ _ (by decide), if_neg q]
          · rw [l (by decide), e1, mU_nf _ _ _ _ (by decide), c1]
            by_cases q : j = 6 + n
            · rw [q, mU_eq, if_pos rfl]
            · rw [mU_ni _ _ _ _ q, f_num_lo _ _ _ (by decide), bO 4 (by decide) (by decide), if_neg q]
          · rw [l h1, e1, mU_or _ _ _ h2, cO f h1 h4, bO f h1 h3]
        · refine wd.cg ?_ ?_ ?_ ?_ ?_
          · rw [hf]
            unfold f_o5
            rw [mU_ni _ _ _ _ (by decide), mU_nf _ _ _ _ (by omega), mU_nf _ _ _ _ (by omega), hW i (by omega)]
          · rw [hf]
            unfold f_o5
            rw [mU_or _ _ _ (by omega), mU_or _ _ _ (by omega), mU_or _ _ _ (by omega), hW _ (by omega)]
          · rw [l (by decide), e1, mU_or _ _ _ (by decide), cO 9 (by decide) (by decide), bO 9 (by decide) (by decide)]
          · rw [l (by decide), e1, mU_or _ _ _ (by decide), cO 10 (by decide) (by decide), bO 10 (by decide) (by decide)]
          · rw [f_rC_o E (by decide), e1, mU_or _ _ _ (by decide), c1, mU_or _ _ _ (by decide), f_num_o _ _ _ (by decide), b1, mU_or _ _ _ (by decide), f_num_o _ _ _ (by decide)]
      · right
        refine ⟨if_neg (fun z => s1 z.2.2.2), ?_⟩
        have hf : f_one K i = f_o3 K := by
          unfold f_one
          rw [if_neg (by omega), if_neg (by omega), if_neg (by omega), if_pos s1, s2]
        rw [hf, tk_24 tC]
        exact s3
    · right
      have oe : o_er K = -1 := q1
      refine ⟨if_neg (fun z => by omega), ?_⟩
      have hf : f_one K i = f_o2 K := by
        unfold f_one
        rw [if_neg (by omega), if_neg (by omega), if_pos (by omega)]
        exact q2
      rw [hf, tk_24 tB, e1, c1]
      exact ((q3.w _ _ (by decide) (by decide)).w _ _ (by decide) (by decide)).rc
  · right
    have op : o_pl K = -1 := p1
    refine ⟨if_neg (fun z => by omega), ?_⟩
    have hf : f_one K i = f_kst K := by
      unfold f_one
      rw [if_neg (by omega), if_pos (by omega)]
      exact p2
    rw [hf, tk_24 ht, e1, c1, b1]
    exact ((((p3.w _ _ (by decide) (by decide)).num _ _).w _ _ (by decide) (by decide)).w _ _ (by decide) (by decide)).rc
-- a saying
theorem tdR_say {K A W D : Nat → Nat → Int} {i n : Nat} {x y z : Int} (hi : isTo i) (td : tdR K A i) (hn : A 5 1 = (n : Int)) (h6 : A 5 1 < 6) (hW : ∀ g, g ≠ 2 → W g = K g) (d5 : D 5 1 = A 5 1 + 1) (d6 : ∀ j, D 6 j = if j = 6 + n then x else A 6 j) (d7 : ∀ j, D 7 j = if j = 6 + n then y else A 7 j) (d8 : ∀ j, D 8 j = if j = 6 + n then z else A 8 j) (dO : ∀ f, f < 12 → f ≠ 5 → f ≠ 6 → f ≠ 7 → f ≠ 8 → D f = A f) : tdR (f_y6 W i x y z) D i := by
  have nx := hi.x2
  obtain ⟨t1, t2, t3, t4, t5⟩ := td
  have e8 : Int.toNat (W i 8) = n := by rw [hW i (by omega)]; omega
  have w8 : f_y6 W i x y z i 8 = A 5 1 + 1 := by unfold f_y6; rw [mU_eq, hW i (by omega), t2.1]
  have wi : ∀ j : Nat, j ≠ 8 → f_y6 W i x y z i j = K i j := fun j hj => by
    unfold f_y6
    rw [mU_ni _ _ _ _ hj, mU_nf _ _ _ _ (by omega), mU_nf _ _ _ _ (by omega), mU_nf _ _ _ _ (by omega), hW i (by omega)]
  have w3 : ∀ j, f_y6 W i x y z (i + 3) j = if j = n then x else K (i + 3) j := fun j => by
    unfold f_y6
    rw [mU_nf _ _ _ _ (by omega), mU_nf _ _ _ _ (by omega), mU_nf _ _ _ _ (by omega), e8]
    by_cases q : j = n
    · rw [q, mU_eq, if_pos rfl]
    · rw [mU_ni _ _ _ _ q, if_neg q, hW _ (by omega)]
  have w4 : ∀ j, f_y6 W i x y z (i + 4) j = if j = n then y else K (i + 4) j := fun j => by
    unfold f_y6
    rw [mU_nf _ _ _ _ (by omega), mU_nf _ _ _ _ (by omega), e8]
    by_cases q : j = n
    · rw [q, mU_eq, if_pos rfl]
    · rw [mU_ni _ _ _ _ q, mU_nf _ _ _ _ (by omega), if_neg q, hW _ (by omega)]
  have w5 : ∀ j, f_y6 W i x y z (i + 5) j = if j = n then z else K (i + 5) j := fun j => by
    unfold f_y6
    rw [mU_nf _ _ _ _ (by omega), e8]
    by_cases q : j = n
    · rw [q, mU_eq, if_pos rfl]
    · rw [mU_ni _ _ _ _ q, mU_nf _ _ _ _ (by omega), mU_nf _ _ _ _ (by omega), if_neg q, hW _ (by omega)]
  have wo : ∀ g, (i < g ∧ g < i + 3) ∨ i + 5 < g → f_y6 W i x y z g = K g := fun g hg => by
    unfold f_y6
    rw [mU_or _ _ _ (by omega), mU_or _ _ _ (by omega), mU_or _ _ _ (by omega), mU_or _ _ _ (by omega), hW _ (by omega)]
  have d : ∀ f, f = 2 ∨ f = 3 ∨ f = 4 ∨ f = 11 → D f = A f := fun f hf => dO f (by omega) (by omega) (by omega) (by omega) (by omega)
  unfold tdR
  rw [w8, wi 7 (by decide), d5, d 2 (by decide), wo (i + 1) (by omega), wo (i + 2) (by omega), wo (i + 7) (by omega), d 3 (by decide), d 4 (by decide), d 11 (by decide)]
  refine ⟨t1, ⟨rfl, by omega, by omega⟩, t3, fun k hk => ?_, t5⟩
  rw [w3, w4, w5, d6, d7, d8]
  by_cases q : k = n
  · rw [if_pos q, if_pos q, if_pos q, if_pos (by omega), if_pos (by omega), if_pos (by omega)]
    exact ⟨rfl, rfl, rfl⟩
  · rw [if_neg q, if_neg q, if_neg q, if_neg (by omega), if_neg (by omega), if_neg (by omega)]
    exact t4 k (by omega)
theorem say_eq {K A : Nat → Nat → Int} {i : Nat} (hi : isTo i) (ht : tkR (f_kst K) A) (h0 : A 16 0 = 0) (td : tdR K A i) (wd : wdR K A i) (h6 : A 5 1 < 6) : (r_say K i = 1 ∧ okR (f_say K i) (f_rC (f_its A)) i) ∨ (r_say K i = 0 ∧ wr (f_rC (f_its A)) (f_say K i 2 4)) := by
  have nx := hi.x2
  have t7 : K i 7 = A 2 1 := td.1.1
  have t8 : K i 8 = A 5 1 := td.2.1.1
  have tb := td.2.1.2
  obtain ⟨n, hn⟩ := Int.eq_ofNat_of_zero_le tb.1
  have e6 : Int.toNat (6 + A 5 1) = 6 + n := by omega
  obtain ⟨B, hB⟩ : ∃ B, B = f_isA A (6 + A 5 1) := ⟨_, rfl⟩
  obtain ⟨C, hC⟩ : ∃ C, C = f_isB B (6 + A 5 1) := ⟨_, rfl⟩
  obtain ⟨G, hG⟩ : ∃ G, G = f_isC C (6 + A 5 1) := ⟨_, rfl⟩
  obtain ⟨E, hE⟩ : ∃ E, E = f_isD G := ⟨_, rfl⟩
  have hT : f_its A = E := by rw [hE, hG, hC, hB]; rfl
  rw [hT]
  have b1 : B = mU (f_num A 1 9) 6 (6 + n) (A 15 0) := by rw [hB]; unfold f_isA; rw [e6]
  have bO : ∀ f, f < 12 → f ≠ 6 → B f = A f := fun f h1 h2 => by rw [b1, mU_or _ _ _ h2, f_num_lo _ _ _ h1]
  have c1 : C = mU (f_num B 0 3) 7 (6 + n) (B 15 0) := by rw [hC]; unfold f_isB; rw [e6]
  have cO : ∀ f, f < 12 → f ≠ 7 → C f = B f := fun f h1 h2 => by rw [c1, mU_or _ _ _ h2, f_num_lo _ _ _ h1]
  have c21 : C 2 1 = A 2 1 := by rw [cO 2 (by decide) (by decide), bO 2 (by decide) (by decide)]
  have g1 : G = mU (f_num C 0 (A 2 1 - 1)) 8 (6 + n) (C 15 0) := by rw [hG]; unfold f_isC; rw [e6, c21]
  have gO : ∀ f, f < 12 → f ≠ 8 → G f = C f := fun f h1 h2 => by rw [g1, mU_or _ _ _ h2, f_num_lo _ _ _ h1]
  have e1 : E = mU G 5 1 (G 5 1 + 1) := hE
  rcases num_eq ht h0 1 9 with ⟨p1, p2, p3, p4, p5, p6⟩ | ⟨p1, p2, p3⟩
  · have tB : tkR (f_y2 K) B := by rw [b1]; exact p5.w _ _ (by decide)
    have zB : B 16 0 = 0 := by rw [b1, mU_nf _ _ _ _ (by decide)]; exact p6
    have op : y_we K = A 15 0 := p1
    rcases num_eq tB zB 0 3 with ⟨q1, q2, q3, q4, q5, q6⟩ | ⟨q1, q2, q3⟩
    · have tC : tkR (f_y3 K) C := by rw [c1]; exact q5.w _ _ (by decide)
      have zC : C 16 0 = 0 := by rw [c1, mU_nf _ _ _ _ (by decide)]; exact q6
      have oe : y_tw K = B 15 0 := q1
      have k4 : f_y4 K i = f_knum (f_y3 K) 0 (A 2 1 - 1) := by unfold f_y4; rw [t7]
      have yf : y_fi K i = k_num (f_y3 K) 0 (A 2 1 - 1) := by unfold y_fi; rw [t7]
      rcases num_eq tC zC 0 (A 2 1 - 1) with ⟨r1, r2, r3, r4, r5, r6⟩ | ⟨r1, r2, r3⟩
      · have tG : tkR (f_y4 K i) E := by rw [k4, e1, g1]; exact (r5.w _ _ (by decide)).w _ _ (by decide)
        have zG : E 16 0 = 0 := by rw [e1, mU_nf _ _ _ _ (by decide), g1, mU_nf _ _ _ _ (by decide)]; exact r6
        have og : y_fi K i = C 15 0 := yf.trans r1
        rcases sem_eq tG zG with ⟨s1, s2, s3⟩ | ⟨s1, s2, s3⟩
        · left
          have hr : r_say K i = 1 := if_pos ⟨by omega, by omega, by omega, by omega, s1⟩
          have hf : f_say K i = f_y6 (f_ksem (f_y4 K i)) i (y_we K) (y_tw K) (y_fi K i) := by
            unfold f_say
            rw [if_neg (by omega), if_neg (by omega), if_neg (by omega), if_neg (by omega), if_neg (fun z => z s1)]
          have hW : ∀ g, g ≠ 2 → f_ksem (f_y4 K i) g = K g := fun g hg => by rw [f_ksem_o _ _ hg, f_y4_o _ _ hg]
          have l : ∀ {f : Nat}, f < 12 → f_rC E f = E f := fun hf => f_rC_o E (Or.inl hf)
          refine ⟨hr, ?_, s3, ?_, ?_⟩
          · rw [hf]
            unfold f_y6
            exact s2.kg (by rw [mU_or _ _ _ (by omega), mU_or _ _ _ (by omega), mU_or _ _ _ (by omega), mU_or _ _ _ (by omega)]) (by rw [mU_or _ _ _ (by omega), mU_or _ _ _ (by omega), mU_or _ _ _ (by omega), mU_or _ _ _ (by omega)])
          · rw [hf, op, oe, og]
            refine tdR_say hi td hn h6 hW ?_ (fun j => ?_) (fun j => ?_) (fun j => ?_) (fun f h1 h2 h3 h4 h5 => ?_)
            · rw [l (by decide), e1, mU_eq, gO 5 (by decide) (by decide), cO 5 (by decide) (by decide), bO 5 (by decide) (by decide)]
            · rw [l (by decide), e1, mU_nf _ _ _ _ (by decide), gO 6 (by decide) (by decide), cO 6 (by decide) (by decide), b1]
              by_cases q : j = 6 + n
              · rw [q, mU_eq, if_pos rfl]
              · rw [mU_ni _ _ _ _ q, f_num_lo _ _ _ (by decide), if_neg q]
            · rw [l (by decide), e1, mU_nf _ _ _ _ (by decide), gO 7 (by decide) (by decide), c1]
              by_cases q : j = 6 + n
              · rw [q, mU_eq, if_pos rfl]
              · rw [mU_ni _ _ _ _ q, f_num_lo _ _ _ (by decide), bO 7 (by decide) (by decide), if_neg q]
            · rw [l (by decide), e1, mU_nf _ _ _ _ (by decide), g1]
              by_cases q : j = 6 + n
              · rw [q, mU_eq, if_pos rfl]
              · rw [mU_ni _ _ _ _ q, f_num_lo _ _ _ (by decide), cO 8 (by decide) (by decide), bO 8 (by decide) (by decide), if_neg q]
            · rw [l h1, e1, mU_or _ _ _ h2, gO f h1 h5, cO f h1 h4, bO f h1 h3]
          · refine wd.cg ?_ ?_ ?_ ?_ ?_
            · rw [hf]
              unfold f_y6
              rw [mU_ni _ _ _ _ (by decide), mU_nf _ _ _ _ (by omega), mU_nf _ _ _ _ (by omega), mU_nf _ _ _ _ (by omega), hW i (by omega)]
            · rw [hf]
              unfold f_y6
              rw [mU_or _ _ _ (by omega), mU_or _ _ _ (by omega), mU_or _ _ _ (by omega), mU_or _ _ _ (by omega), hW _ (by omega)]
            · rw [l (by decide), e1, mU_or _ _ _ (by decide), gO 9 (by decide) (by decide), cO 9 (by decide) (by decide), bO 9 (by decide) (by decide)]
            · rw [l (by decide), e1, mU_or _ _ _ (by decide), gO 10 (by decide) (by decide), cO 10 (by decide) (by decide), bO 10 (by decide) (by decide)]
            · rw [f_rC_o E (by decide), e1, mU_or _ _ _ (by decide), g1, mU_or _ _ _ (by decide), f_num_o _ _ _ (by decide), c1, mU_or _ _ _ (by decide), f_num_o _ _ _ (by decide), b1, mU_or _ _ _ (by decide), f_num_o _ _ _ (by decide)]
        · right
          refine ⟨if_neg (fun z => s1 z.2.2.2.2), ?_⟩
          have hf : f_say K i = f_y4 K i := by
            unfold f_say
            rw [if_neg (by omega), if_neg (by omega), if_neg (by omega), if_neg (by omega), if_pos s1, s2]
          rw [hf, tk_24 tG]
          exact s3
      · right
        have og : y_fi K i = -1 := yf.trans r1
        refine ⟨if_neg (fun z => by omega), ?_⟩
        have hf : f_say K i = f_y3 K := by
          unfold f_say
          rw [if_neg (by omega), if_neg (by omega), if_neg (by omega), if_pos (by omega), k4]
          exact r2
        rw [hf, tk_24 tC, e1, g1]
        exact ((r3.w _ _ (by decide) (by decide)).w _ _ (by decide) (by decide)).rc
    · right
      have oe : y_tw K = -1 := q1
      refine ⟨if_neg (fun z => by omega), ?_⟩
      have hf : f_say K i = f_y2 K := by
        unfold f_say
        rw [if_neg (by omega), if_neg (by omega), if_pos (by omega)]
        exact q2
      rw [hf, tk_24 tB, e1, g1, c1]
      exact ((((q3.w _ _ (by decide) (by decide)).num _ _).w _ _ (by decide) (by decide)).w _ _ (by decide) (by decide)).rc
  · right
    have op : y_we K = -1 := p1
    refine ⟨if_neg (fun z => by omega), ?_⟩
    have hf : f_say K i = f_kst K := by
      unfold f_say
      rw [if_neg (by omega), if_pos (by omega)]
      exact p2
    rw [hf, tk_24 ht, e1, g1, c1, b1]
    exact ((((((p3.w _ _ (by decide) (by decide)).num _ _).w _ _ (by decide) (by decide)).num _ _).w _ _ (by decide) (by decide)).w _ _ (by decide) (by decide)).rc
-- feathers
theorem fea_eq {K A : Nat → Nat → Int} {i : Nat} (hi : isTo i) (ht : tkR (f_kst K) A) (h0 : A 16 0 = 0) (td : tdR K A i) (wd : wdR K A i) : (r_fea K = 1 ∧ okR (f_fea K i) (f_rC (f_itf A)) i) ∨ (r_fea K = 0 ∧ wr (f_rC (f_itf A)) (f_fea K i 2 4)) := by
  have nx := hi.x2
  rcases num_eq ht h0 0 3 with ⟨p1, p2, p3, p4, p5, p6⟩ | ⟨p1, p2, p3⟩
  · have ek : e_kd K = A 15 0 := p1
    rcases num_eq p5 p6 0 20 with ⟨q1, q2, q3, q4, q5, q6⟩ | ⟨q1, q2, q3⟩
    · have en : e_nn K = f_num A 0 3 15 0 := q1
      obtain ⟨E, hE⟩ : ∃ E, E = mU (f_num (f_num A 0 3) 0 20) 11 (Int.toNat (A 15 0)) (f_num A 0 3 15 0) := ⟨_, rfl⟩
      have hT : f_itf A = E := by unfold f_itf; rw [if_pos q6, hE]
      rw [hT]
      have tE : tkR (f_e3 K) E := by rw [hE]; exact q5.w _ _ (by decide)
      have zE : E 16 0 = 0 := by rw [hE, mU_nf _ _ _ _ (by decide)]; exact q6
      have eO : ∀ f, f < 12 ∨ 16 < f → f ≠ 11 → E f = A f := fun f h1 h2 => by rw [hE, mU_or _ _ _ h2, f_num_o _ _ _ h1, f_num_o _ _ _ h1]
      rcases sem_eq tE zE with ⟨s1, s2, s3⟩ | ⟨s1, s2, s3⟩
      · left
        have hr : r_fea K = 1 := if_pos ⟨by omega, by omega, s1⟩
        have hf : f_fea K i = mU (f_ksem (f_e3 K)) (i + 7) (Int.toNat (e_kd K)) (e_nn K) := by
          unfold f_fea
          rw [if_neg (by omega), if_neg (by omega), if_neg (fun z => z s1)]
        have hW : ∀ g, g ≠ 2 → f_ksem (f_e3 K) g = K g := fun g hg => by rw [f_ksem_o _ _ hg, f_e3_o _ hg]
        have l : ∀ {f : Nat}, f < 12 ∨ 16 < f → f_rC E f = E f := fun hf => f_rC_o E hf
        have wo : ∀ g, g ≠ 2 → g ≠ i + 7 → f_fea K i g = K g := fun g h1 h2 => by rw [hf, mU_or _ _ _ h2, hW g h1]
        have no : ∀ f, f < 12 ∨ 16 < f → f ≠ 11 → f_rC E f = A f := fun f h1 h2 => by rw [l h1, eO f h1 h2]
        refine ⟨hr, ?_, s3, ?_, ?_⟩
        · rw [hf]
          exact s2.kg (mU_or _ _ _ (by omega)) (mU_or _ _ _ (by omega))
        · obtain ⟨t1, t2, t3, t4, t5⟩ := td
          unfold tdR
          rw [wo i (by omega) (by omega), wo (i + 1) (by omega) (by omega), wo (i + 2) (by omega) (by omega), wo (i + 3) (by omega) (by omega), wo (i + 4) (by omega) (by omega), wo (i + 5) (by omega) (by omega), no 2 (by decide) (by decide), no 3 (by decide) (by decide), no 4 (by decide) (by decide), no 5 (by decide) (by decide), no 6 (by decide) (by decide), no 7 (by decide) (by decide), no 8 (by decide) (by decide), l (by decide), hf, hE, ek, en]
          refine ⟨t1, t2, t3, t4, fun k hk => ?_⟩
          by_cases q : k = Int.toNat (A 15 0)
          · rw [q, mU_eq, mU_eq]
          · rw [mU_ni _ _ _ _ q, mU_ni _ _ _ _ q, hW _ (by omega), f_num_lo _ _ _ (by decide), f_num_lo _ _ _ (by decide)]
            exact t5 k hk
        · exact wd.cg (by rw [wo i (by omega) (by omega)]) (wo _ (by omega) (by omega)) (no 9 (by decide) (by decide)) (no 10 (by decide) (by decide)) (no 18 (by decide) (by decide))
      · right
        refine ⟨if_neg (fun z => s1 z.2.2), ?_⟩
        have hf : f_fea K i = f_e3 K := by
          unfold f_fea
          rw [if_neg (by omega), if_neg (by omega), if_pos s1, s2]
        rw [hf, tk_24 tE]
        exact s3
    · right
      have en : e_nn K = -1 := q1
      have hT : f_itf A = f_num (f_num A 0 3) 0 20 := by unfold f_itf; rw [if_neg q3.1]
      refine ⟨if_neg (fun z => by omega), ?_⟩
      have hf : f_fea K i = f_e2 K := by
        unfold f_fea
        rw [if_neg (by omega), if_pos (by omega)]
        exact q2
      rw [hf, hT, show f_e2 K 2 4 = f_num A 0 3 13 0 from tk_24 p5]
      exact q3.rc
  · right
    have ek : e_kd K = -1 := p1
    have w := p3.num 0 20
    have hT : f_itf A = f_num (f_num A 0 3) 0 20 := by unfold f_itf; rw [if_neg w.1]
    refine ⟨if_neg (fun z => by omega), ?_⟩
    have hf : f_fea K i = f_kst K := by
      unfold f_fea
      rw [if_pos (by omega)]
      exact p2
    rw [hf, hT, tk_24 ht]
    exact w.rc
-- winds
def finR (P : (Nat → Nat → Int) × Int) (N : Nat → Nat → Int) (i : Nat) : Prop := (P.2 = 1 ∧ okR P.1 N i) ∨ (P.2 = 0 ∧ wr N (P.1 2 4))
theorem win_one {K M : Nat → Nat → Int} {i : Nat} {j : Int} (hi : isTo i) (hj : 0 ≤ j) (ht : tkR K M) (h0 : M 16 0 = 0) (td : tdR K M i) (h9 : M 9 1 = j) (h18 : M 18 0 = 1) (hw : ∀ k : Nat, (k : Int) < j → K (i + 6) k = M 10 (6 + k)) : (¬ k_num K 0 8 < 0 ∧ tkR (f_w1 K i j) (f_bl1 M) ∧ f_bl1 M 16 0 = 0 ∧ tdR (f_w1 K i j) (f_bl1 M) i ∧ f_bl1 M 9 1 = j + 1 ∧ f_bl1 M 18 0 = 1 ∧ f_w1 K i j i 9 = j + 1 ∧ (∀ k : Nat, (k : Int) < j + 1 → f_w1 K i j (i + 6) k = f_bl1 M 10 (6 + k))) ∨ (k_num K 0 8 < 0 ∧ f_knum K 0 8 = K ∧ wr (f_bl1 M) (M 13 0)) := by
  have nx := hi.x2
  obtain ⟨n, hn⟩ := Int.eq_ofNat_of_zero_le hj
  rcases num_eq ht h0 0 8 with ⟨p1, p2, p3, p4, p5, p6⟩ | ⟨p1, p2, p3⟩
  · left
    have o9 : f_num M 0 8 9 = M 9 := f_num_lo _ _ _ (by decide)
    have e6 : Int.toNat (6 + f_num M 0 8 9 1) = 6 + n := by rw [o9]; omega
    obtain ⟨E, hE⟩ : ∃ E, E = mU (mU (f_num M 0 8) 10 (6 + n) (M 15 0 - 4)) 9 1 (j + 1) := ⟨_, rfl⟩
    have hT : f_bl1 M = E := by
      unfold f_bl1 f_bw
      rw [if_pos p6, e6, hE, mU_nf _ _ _ _ (by decide), o9, h9]
    obtain ⟨W, hW⟩ : ∃ W, W = mU (mU (f_knum K 0 8) (i + 6) n (M 15 0 - 4)) i 9 (j + 1) := ⟨_, rfl⟩
    have hF : f_w1 K i j = W := by
      unfold f_w1
      rw [p1, show Int.toNat j = n by omega, hW]
    rw [hT, hF]
    have wo : ∀ g, g ≠ 2 → g ≠ i → g ≠ i + 6 → W g = K g := fun g h1 h2 h3 => by rw [hW, mU_or _ _ _ h2, mU_or _ _ _ h3, f_knum_o _ _ _ _ h1]
    have wi : ∀ k : Nat, k ≠ 9 → W i k = K i k := fun k hk => by rw [hW, mU_ni _ _ _ _ hk, mU_nf _ _ _ _ (by omega), f_knum_o _ _ _ _ (by omega)]
    have eO : ∀ f, f < 12 ∨ 16 < f → f ≠ 9 → f ≠ 10 → E f = M f := fun f h1 h2 h3 => by rw [hE, mU_or _ _ _ h2, mU_or _ _ _ h3, f_num_o _ _ _ h1]
    refine ⟨by omega, ?_, ?_, ?_, ?_, ?_, ?_, fun k hk => ?_⟩
    · rw [hW, hE]
      exact ((p5.w _ _ (by decide)).w _ _ (by decide)).kg (by rw [mU_or _ _ _ (by omega), mU_or _ _ _ (by omega)]) (by rw [mU_or _ _ _ (by omega), mU_or _ _ _ (by omega)])
    · rw [hE, mU_nf _ _ _ _ (by decide), mU_nf _ _ _ _ (by decide)]; exact p6
    · unfold tdR at td ⊢
      rw [wi 7 (by decide), wi 8 (by decide), wo (i + 1) (by omega) (by omega) (by omega), wo (i + 2) (by omega) (by omega) (by omega), wo (i + 3) (by omega) (by omega) (by omega), wo (i + 4) (by omega) (by omega) (by omega), wo (i + 5) (by omega) (by omega) (by omega), wo (i + 7) (by omega) (by omega) (by omega), eO 2 (by decide) (by decide) (by decide), eO 3 (by decide) (by decide) (by decide), eO 4 (by decide) (by decide) (by decide), eO 5 (by decide) (by decide) (by decide), eO 6 (by decide) (by decide) (by decide), eO 7 (by decide) (by decide) (by decide), eO 8 (by decide) (by decide) (by decide), eO 11 (by decide) (by decide) (by decide)]
      exact td
    · rw [hE, mU_eq]
    · rw [eO 18 (by decide) (by decide) (by decide)]; exact h18
    · rw [hW, mU_eq]
    · have w6 : W (i + 6) k = if k = n then M 15 0 - 4 else K (i + 6) k := by
        rw [hW, mU_nf (f := i) (g := i + 6) _ _ _ _ (by omega)]
        by_cases q : k = n
        · rw [q, mU_eq, if_pos rfl]
        · rw [mU_ni _ _ _ _ q, f_knum_o _ _ _ _ (by omega), if_neg q]
      have e10 : E 10 (6 + k) = if k = n then M 15 0 - 4 else M 10 (6 + k) := by
        rw [hE, mU_nf (f := 9) (g := 10) _ _ _ _ (by decide)]
        by_cases q : k = n
        · rw [q, mU_eq, if_pos rfl]
        · rw [mU_ni _ _ _ _ (by omega), f_num_lo _ _ _ (by decide), if_neg q]
      rw [w6, e10]
      by_cases q : k = n
      · rw [if_pos q, if_pos q]
      · rw [if_neg q, if_neg q]
        exact hw k (by omega)
  · right
    have hT : f_bl1 M = f_num M 0 8 := by unfold f_bl1; rw [if_neg p3.1]
    rw [hT]
    exact ⟨by omega, p2, p3⟩
theorem win_stop {K M : Nat → Nat → Int} {i : Nat} {j : Int} (hi : isTo i) (hj : 0 < j ∧ j ≤ 6) (ht : tkR K M) (h0 : M 16 0 = 0) (td : tdR K M i) (h9 : M 9 1 = j) (h18 : M 18 0 = 1) (k9 : K i 9 = j) (hw : ∀ k : Nat, (k : Int) < j → K (i + 6) k = M 10 (6 + k)) : finR (f_ksem K, if K 2 3 = 3 then 1 else 0) (f_rC M) i := by
  have nx := hi.x2
  rcases sem_eq ht h0 with ⟨s1, s2, s3⟩ | ⟨s1, s2, s3⟩
  · left
    refine ⟨if_pos s1, s2, s3, td.cg hi (fun g hg => f_ksem_o _ _ hg) (fun f hf _ _ => f_rC_o _ (Or.inl hf)), Or.inr ?_⟩
    show (0 < f_ksem K i 9 ∧ f_ksem K i 9 ≤ 6) ∧ f_rC M 18 0 = 1 ∧ f_ksem K i 9 = f_rC M 9 1 ∧ (∀ k : Nat, (k : Int) < f_rC M 9 1 → f_ksem K (i + 6) k = f_rC M 10 (6 + k))
    rw [f_ksem_o _ i (by omega), f_ksem_o _ (i + 6) (by omega), f_rC_o M (f := 18) (by decide), f_rC_o M (f := 9) (by decide), f_rC_o M (f := 10) (by decide), k9, h9]
    exact ⟨hj, h18, rfl, hw⟩
  · right
    refine ⟨if_neg s1, ?_⟩
    show wr (f_rC M) (f_ksem K 2 4)
    rw [s2, tk_24 ht]
    exact s3
theorem win_eq {i : Nat} (hi : isTo i) : ∀ (n : Nat) (j : Int) (K M : Nat → Nat → Int), j + n = 5 → 0 ≤ j → (j = 0 ∨ ¬ K 2 3 = 3) → tkR K M → M 16 0 = 0 → tdR K M i → M 9 1 = j → M 18 0 = 1 → (∀ k : Nat, (k : Int) < j → K (i + 6) k = M 10 (6 + k)) → finR (f_wl i (n + 1) j K) (f_rC (f_blN (n + 1) M)) i := by
  intro n
  induction n with
  | zero =>
    intro j K M hn hj hg ht h0 td h9 h18 hw
    have e1 : f_wl i 1 j K = if k_num K 0 8 < 0 then (f_knum K 0 8, 0) else (f_ksem (f_w1 K i j), if (f_w1 K i j) 2 3 = 3 then 1 else 0) := if_pos hg
    have e2 : f_blN 1 M = if f_bl1 M 16 0 = 0 ∧ f_bl1 M 14 0 = 2 ∧ f_bl1 M 9 1 < 6 then f_bl1 M else f_bl1 M := rfl
    have e3 : f_blN 1 M = f_bl1 M := by rw [e2]; split <;> rfl
    rw [e1, e3]
    rcases win_one hi hj ht h0 td h9 h18 hw with ⟨p1, p2, p3, p4, p5, p6, p7, p8⟩ | ⟨p1, p2, p3⟩
    · rw [if_neg p1]
      exact win_stop hi (by omega) p2 p3 p4 p5 p6 p7 p8
    · rw [if_pos p1]
      right
      refine ⟨rfl, ?_⟩
      show wr (f_rC (f_bl1 M)) (f_knum K 0 8 2 4)
      rw [p2, tk_24 ht]
      exact p3.rc
  | succ n ih =>
    intro j K M hn hj hg ht h0 td h9 h18 hw
    have e1 : f_wl i (n + 1 + 1) j K = if k_num K 0 8 < 0 then (f_knum K 0 8, 0) else f_wl i (n + 1) (j + 1) (f_w1 K i j) := if_pos hg
    have e2 : f_blN (n + 1 + 1) M = if f_bl1 M 16 0 = 0 ∧ f_bl1 M 14 0 = 2 ∧ f_bl1 M 9 1 < 6 then f_blN (n + 1) (f_bl1 M) else f_bl1 M := rfl
    rw [e1, e2]
    rcases win_one hi hj ht h0 td h9 h18 hw with ⟨p1, p2, p3, p4, p5, p6, p7, p8⟩ | ⟨p1, p2, p3⟩
    · rw [if_neg p1]
      obtain ⟨t1, t2, t3, t4, t5⟩ := id p2
      by_cases q : f_w1 K i j 2 3 = 2
      · rw [if_pos ⟨p3, by omega, by omega⟩]
        exact ih (j + 1) _ _ (by omega) (by omega) (Or.inr (by omega)) p2 p3 p4 p5 p6 p8
      · rw [if_neg (fun z => by have := z.2.1; omega)]
        have st := win_stop hi (by omega) p2 p3 p4 p5 p6 p7 p8
        by_cases q3 : f_w1 K i j 2 3 = 3
        · have e3 : f_wl i (n + 1) (j + 1) (f_w1 K i j) = (f_ksem (f_w1 K i j), if (f_w1 K i j) 2 3 = 3 then 1 else 0) := if_neg (by omega)
          rw [e3]
          exact st
        · have kn : k_num (f_w1 K i j) 0 8 = -1 := if_neg (fun z => q z.1)
          have kk : f_knum (f_w1 K i j) 0 8 = f_w1 K i j := if_neg (fun z => q z.1)
          have ks : f_ksem (f_w1 K i j) = f_w1 K i j := if_neg q3
          have e3 : f_wl i (n + 1) (j + 1) (f_w1 K i j) = if k_num (f_w1 K i j) 0 8 < 0 then (f_knum (f_w1 K i j) 0 8, 0) else f_wl i n (j + 1 + 1) (f_w1 (f_w1 K i j) i (j + 1)) := if_pos (Or.inr q3)
          rw [e3, if_pos (by omega), kk]
          rw [ks, if_neg q3] at st
          exact st
    · rw [if_pos p1, if_neg (fun z => p3.1 z.1)]
      right
      refine ⟨rfl, ?_⟩
      show wr (f_rC (f_bl1 M)) (f_knum K 0 8 2 4)
      rw [p2, tk_24 ht]
      exact p3.rc
-- an item
theorem f_step_lo (M : Nat → Nat → Int) {f : Nat} (h : f < 12 ∨ 15 < f) (k : Nat) : f_step M f k = M f k := congrFun (f_step_o M h) k
theorem okR.cg {K M N : Nat → Nat → Int} {i : Nat} (h : okR K M i) (e : ∀ f, f ≠ 17 → N f = M f) (hi : isTo i) : okR K N i :=
  ⟨h.1.cg (e _ (by decide)) (e _ (by decide)) (e _ (by decide)) (e _ (by decide)) (e _ (by decide)) (e _ (by decide)), (congrFun (e 16 (by decide)) 0).trans h.2.1, h.2.2.1.cg hi (fun _ _ => rfl) (fun f hf _ _ => e f (by omega)), h.2.2.2.cg rfl rfl (e _ (by decide)) (e _ (by decide)) (e _ (by decide))⟩
theorem itm_eq {K M : Nat → Nat → Int} {i : Nat} (hi : isTo i) (h : okR K M i) : finR (x_itm K i) (f_rd1 M) i := by
  obtain ⟨ht, h0, td, wd⟩ := id h
  obtain ⟨t1, t2, t3, t4, t5⟩ := id ht
  have nx := hi.x2
  have bad : s_gd M = 0 → wr (f_rd1 M) (K 2 4) := fun z => by
    have e : f_rA M = mU M 16 0 1 := by
      unfold f_rA f_due
      rw [if_neg (fun y => y h0), z, if_neg (by decide)]
    have e2 : ¬ f_rA M 16 0 = 0 := by rw [e, mU_eq]; decide
    unfold f_rd1
    rw [if_neg e2, e, t2]
    exact ⟨by rw [mU_eq]; decide, rfl⟩
  have good : ∀ P : (Nat → Nat → Int) × Int, ¬ s_gd M = 0 → finR P (f_rC (f_item (f_step M) (s_wd M))) i → finR P (f_rd1 M) i := fun P z hP => by
    have e : f_rA M = f_step M := by
      unfold f_rA f_due
      rw [if_neg (fun y => y h0), if_pos z]
    have e2 : f_rA M 16 0 = 0 := by rw [e, f_step_lo _ (by decide)]; exact h0
    have e3 : f_rd1 M = f_rD (f_rC (f_item (f_step M) (s_wd M))) := by unfold f_rd1; rw [if_pos e2, e]
    have e4 : ∀ f, f ≠ 17 → f_rd1 M f = f_rC (f_item (f_step M) (s_wd M)) f := fun f hf => by rw [e3]; unfold f_rD; exact mU_or _ _ _ hf
    rcases hP with ⟨a, b⟩ | ⟨a, b⟩
    · exact Or.inl ⟨a, b.cg e4 hi⟩
    · exact Or.inr ⟨a, by rw [e4 16 (by decide)]; exact b.1, by rw [e4 13 (by decide)]; exact b.2⟩
  have hk : tkR (f_kst K) (f_step M) := tkR_kst t1
  have z0 : f_step M 16 0 = 0 := (f_step_lo _ (by decide) _).trans h0
  have td2 : tdR K (f_step M) i := td.cg hi (fun _ _ => rfl) (fun f hf _ _ => f_step_o M (Or.inl hf))
  have wd2 : wdR K (f_step M) i := wd.cg rfl rfl (f_step_o M (by decide)) (f_step_o M (by decide)) (f_step_o M (by decide))
  unfold x_itm
  by_cases q1 : K 2 3 = 1
  · rw [if_neg (fun z => z q1)]
    have e14 : M 14 0 = 1 := by omega
    have e15 : K 2 5 = M 15 0 := t5 (Or.inl q1)
    have ew : s_wd M = K 2 5 := by unfold s_wd; rw [if_pos e14, e15]
    have eg : s_gd M = if ¬ (s_may M (K 2 5) = 0) then 1 else 0 := by
      unfold s_gd
      rw [ew]
      by_cases y : s_may M (K 2 5) = 0
      · rw [if_neg (fun z => z.2 y), if_neg (fun z => z y)]
      · rw [if_pos ⟨e14, y⟩, if_pos y]
    by_cases w1 : K 2 5 = 112
    · rw [if_pos w1]
      have em : s_may M (K 2 5) = if M 2 1 < 6 then 1 else 0 := by unfold s_may; rw [if_pos w1]
      by_cases q6 : M 2 1 < 6
      · rw [if_pos q6] at em
        refine good _ (by rw [eg, em]; decide) ?_
        have ei : f_item (f_step M) (s_wd M) = f_itp (f_step M) := by unfold f_item; rw [ew, if_pos w1]
        rw [ei]
        exact one_eq hi hk z0 td2 wd2 (by rw [f_step_lo _ (by decide)]; exact q6)
      · rw [if_neg q6] at em
        have t7 := td.1.1
        have ef : f_one K i = K := if_pos (by omega)
        have er : r_one K i = 0 := if_neg (fun z => by omega)
        right
        refine ⟨er, ?_⟩
        show wr (f_rd1 M) (f_one K i 2 4)
        rw [ef]
        exact bad (by rw [eg, em]; rfl)
    · rw [if_neg w1]
      by_cases w2 : K 2 5 = 115
      · rw [if_pos w2]
        have em : s_may M (K 2 5) = if M 5 1 < 6 then 1 else 0 := by unfold s_may; rw [if_neg w1, if_pos w2]
        by_cases q6 : M 5 1 < 6
        · rw [if_pos q6] at em
          refine good _ (by rw [eg, em]; decide) ?_
          have ei : f_item (f_step M) (s_wd M) = f_its (f_step M) := by unfold f_item; rw [ew, if_neg w1, if_pos w2]
          rw [ei]
          exact say_eq hi hk z0 td2 wd2 (by rw [f_step_lo _ (by decide)]; exact q6)
        · rw [if_neg q6] at em
          have t8 := td.2.1.1
          have ef : f_say K i = K := if_pos (by omega)
          have er : r_say K i = 0 := if_neg (fun z => by omega)
          right
          refine ⟨er, ?_⟩
          show wr (f_rd1 M) (f_say K i 2 4)
          rw [ef]
          exact bad (by rw [eg, em]; rfl)
      · rw [if_neg w2]
        by_cases w3 : K 2 5 = 119
        · rw [if_pos w3]
          have em : s_may M (K 2 5) = if M 18 0 = 0 then 1 else 0 := by unfold s_may; rw [if_neg w1, if_neg w2, if_pos w3]
          by_cases q6 : M 18 0 = 0
          · rw [if_pos q6] at em
            have k9 : K i 9 = 0 := by
              rcases wd with y | y
              · exact y.1
              · exact absurd q6 (by omega)
            have ex : x_win K i = f_wl i 6 0 (f_kst K) := by unfold x_win; rw [if_neg (by omega)]; rfl
            refine good _ (by rw [eg, em]; decide) ?_
            have ei : f_item (f_step M) (s_wd M) = f_blN 6 (mU (mU (f_step M) 9 1 0) 18 0 1) := by unfold f_item; rw [ew, if_neg w1, if_neg w2, if_pos w3]; rfl
            rw [ei, ex]
            refine win_eq hi 5 0 (f_kst K) (mU (mU (f_step M) 9 1 0) 18 0 1) (by omega) (by omega) (Or.inl rfl) ((hk.w _ _ (by decide)).w _ _ (by decide)) z0 ?_ rfl rfl (fun k hk => absurd hk (by omega))
            exact td.cg hi (fun g hg => f_kst_o _ _ hg) (fun f hf h9 _ => by rw [mU_or _ _ _ (by omega), mU_or _ _ _ h9]; exact f_step_o M (Or.inl hf))
          · rw [if_neg q6] at em
            have k9 : 0 < K i 9 := by
              rcases wd with y | y
              · exact absurd y.2.1 q6
              · exact y.1.1
            have ex : x_win K i = (K, 0) := by unfold x_win; rw [if_pos k9]
            rw [ex]
            exact Or.inr ⟨rfl, bad (by rw [eg, em]; rfl)⟩
        · rw [if_neg w3]
          by_cases w4 : K 2 5 = 102
          · rw [if_pos w4]
            have em : s_may M (K 2 5) = 1 := by unfold s_may; rw [if_neg w1, if_neg w2, if_neg w3, if_pos w4]
            refine good _ (by rw [eg, em]; decide) ?_
            have ei : f_item (f_step M) (s_wd M) = f_itf (f_step M) := by unfold f_item; rw [ew, if_neg w1, if_neg w2, if_neg w3]
            rw [ei]
            exact fea_eq hi hk z0 td2 wd2
          · rw [if_neg w4]
            have em : s_may M (K 2 5) = 0 := by unfold s_may; rw [if_neg w1, if_neg w2, if_neg w3, if_neg w4]
            exact Or.inr ⟨rfl, bad (by rw [eg, em]; rfl)⟩
  · rw [if_pos q1]
    exact Or.inr ⟨rfl, bad (if_neg (fun z => by omega))⟩
