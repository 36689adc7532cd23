/-! What the reference's reader tells. -/
def qB (M : Nat → Nat → Int) : Prop := qP M ∧ qS M ∧ qWi M ∧ qF M
theorem qB_cong {M K : Nat → Nat → Int} (h : ∀ f, f < 12 → K f = M f) (q : qB M) : qB K := by
  unfold qB qP qS qWi qF at *
  rw [h 2 (by decide), h 3 (by decide), h 4 (by decide), h 5 (by decide), h 6 (by decide), h 7 (by decide), h 8 (by decide), h 9 (by decide), h 10 (by decide), h 11 (by decide)]
  exact q
theorem qB_bl1 {M : Nat → Nat → Int} (h9 : 0 ≤ M 9 1) (q : M 16 0 = 0 → qB M) (z : f_bl1 M 16 0 = 0) : qB (f_bl1 M) ∧ f_bl1 M 9 1 = M 9 1 + 1 := by
  obtain ⟨n, hn⟩ := Int.eq_ofNat_of_zero_le h9
  have z1 : f_num M 0 8 16 0 = 0 := by
    by_cases y : f_num M 0 8 16 0 = 0
    · exact y
    · unfold f_bl1 at z
      rw [if_neg y] at z
      exact z
  obtain ⟨a1, a2, a3, a4⟩ := f_num_ok z1
  obtain ⟨q1, q2, q3, q4⟩ := q a1
  have o : ∀ f, f < 12 → f_num M 0 8 f = M f := fun f h => f_num_lo _ _ _ h
  have e6 : Int.toNat (6 + f_num M 0 8 9 1) = 6 + n := by rw [o 9 (by decide)]; omega
  obtain ⟨E, hE⟩ : ∃ E, E = mU (mU (f_num M 0 8) 10 (6 + n) (M 15 0 - 4)) 9 1 (M 9 1 + 1) := ⟨_, rfl⟩
  have hT : f_bl1 M = E := by
    unfold f_bl1 f_bw
    rw [if_pos z1, e6, hE, mU_nf _ _ _ _ (by decide), o 9 (by decide)]
  have no : ∀ f, f < 12 → f ≠ 9 → f ≠ 10 → E f = M f := fun f h1 h2 h3 => by rw [hE, mU_or _ _ _ h2, mU_or _ _ _ h3, o f h1]
  have n9 : E 9 1 = M 9 1 + 1 := by rw [hE, mU_eq]
  have n10 : ∀ j, E 10 j = if j = 6 + n then M 15 0 - 4 else M 10 j := fun j => by
    rw [hE, mU_nf _ _ _ _ (by decide)]
    by_cases y : j = 6 + n
    · rw [y, mU_eq, if_pos rfl]
    · rw [mU_ni _ _ _ _ y, o 10 (by decide), if_neg y]
  rw [hT]
  refine ⟨⟨?_, ?_, fun k hk => ?_, ?_⟩, n9⟩
  · unfold qP at q1 ⊢
    rw [no 2 (by decide) (by decide) (by decide), no 3 (by decide) (by decide) (by decide), no 4 (by decide) (by decide) (by decide)]
    exact q1
  · unfold qS at q2 ⊢
    rw [no 2 (by decide) (by decide) (by decide), no 5 (by decide) (by decide) (by decide), no 6 (by decide) (by decide) (by decide), no 7 (by decide) (by decide) (by decide), no 8 (by decide) (by decide) (by decide)]
    exact q2
  · rw [n9] at hk
    rw [n10]
    by_cases y : k = n
    · rw [if_pos (by omega)]; omega
    · rw [if_neg (by omega)]; exact q3 k (by omega)
  · unfold qF at q4 ⊢
    rw [no 11 (by decide) (by decide) (by decide)]
    exact q4
theorem qB_blN : ∀ (n : Nat) {M : Nat → Nat → Int}, 0 ≤ M 9 1 → (M 16 0 = 0 → qB M) → f_blN (n + 1) M 16 0 = 0 → qB (f_blN (n + 1) M) ∧ 1 ≤ f_blN (n + 1) M 9 1
  | 0, M, h9, q, z => by
    have e : f_blN 1 M = if f_bl1 M 16 0 = 0 ∧ f_bl1 M 14 0 = 2 ∧ f_bl1 M 9 1 < 6 then f_bl1 M else f_bl1 M := rfl
    have e3 : f_blN 1 M = f_bl1 M := by rw [e]; split <;> rfl
    rw [e3] at z ⊢
    have a := qB_bl1 h9 q z
    exact ⟨a.1, by omega⟩
  | n + 1, M, h9, q, z => by
    have e : f_blN (n + 1 + 1) M = if f_bl1 M 16 0 = 0 ∧ f_bl1 M 14 0 = 2 ∧ f_bl1 M 9 1 < 6 then f_blN (n + 1) (f_bl1 M) else f_bl1 M := rfl
    rw [e] at z ⊢
    by_cases y : f_bl1 M 16 0 = 0 ∧ f_bl1 M 14 0 = 2 ∧ f_bl1 M 9 1 < 6
    · rw [if_pos y] at z ⊢
      have a := qB_bl1 h9 q y.1
      exact qB_blN n (by omega) (fun _ => a.1) z
    · rw [if_neg y] at z ⊢
      have a := qB_bl1 h9 q z
      exact ⟨a.1, by omega⟩
theorem qI_blow {M : Nat → Nat → Int} (q : M 16 0 = 0 → qI M) (z : f_blow M 16 0 = 0) : qI (f_blow M) := by
  have a := qB_blN 5 (M := mU (mU M 9 1 0) 18 0 1) (by show (0 : Int) ≤ 0; decide) (fun y => ?_) z
  · exact ⟨a.1.1, a.1.2.1, a.1.2.2.1, a.1.2.2.2, a.2⟩
  · obtain ⟨q1, q2, q3, q4, q5⟩ := q y
    refine ⟨q1, q2, fun k hk => ?_, q4⟩
    have hk2 : (k : Int) < 0 := hk
    omega
theorem qI_item {M : Nat → Nat → Int} (hp : pI M) (q : M 16 0 = 0 → qI M) (wd : Int) (z : f_item M wd 16 0 = 0) : qI (f_item M wd) := by
  obtain ⟨p1, p2, p3, p4, p5, p6, p7, p8, p9, p10⟩ := hp
  unfold f_item at z ⊢
  split at z
  · rename_i y
    rw [if_pos y]
    exact qI_ip p7.1 q z
  · rename_i y
    rw [if_neg y]
    split at z
    · rename_i y2
      rw [if_pos y2]
      exact qI_is p8.1 q z
    · rename_i y2
      rw [if_neg y2]
      split at z
      · rename_i y3
        rw [if_pos y3]
        exact qI_blow q z
      · rename_i y3
        rw [if_neg y3]
        exact qI_if q z
theorem qI_rd1 {M : Nat → Nat → Int} (h : sgI M) (h4 : ¬ M 14 0 = 4) (q : qI M) (z : f_rd1 M 16 0 = 0) : qI (f_rd1 M) := by
  have hA : f_rA M 16 0 = 0 := by
    by_cases q : f_rA M 16 0 = 0
    · exact q
    · unfold f_rd1 at z
      rw [if_neg q] at z
      exact z
  have eA : f_rA M = f_step M := f_due_go hA
  have p1 := pI_step h.1.1
  obtain ⟨B, hB⟩ : ∃ B, B = f_item (f_step M) (s_wd M) := ⟨_, rfl⟩
  have e1 : f_rd1 M = f_rD (f_rC B) := by unfold f_rd1; rw [if_pos hA, eA, hB]
  have zC : f_rC B 16 0 = 0 := by rw [e1] at z; exact z
  have zB : B 16 0 = 0 := (f_due_ok zC).1
  have qs : qI (f_step M) := qI_cong (fun f hf => f_step_o M (Or.inl hf)) q
  have qb : qI B := by
    rw [hB] at zB ⊢
    exact qI_item p1 (fun _ => qs) _ zB
  rw [e1]
  refine qI_cong (M := B) (fun f hf => ?_) qb
  unfold f_rD
  rw [mU_or _ _ _ (by omega), f_rC_o _ (Or.inl hf)]
theorem qI_rdN : ∀ (n : Nat) {M : Nat → Nat → Int}, sgI M → (M 16 0 = 0 → qI M) → f_rdN n M 16 0 = 0 → qI (f_rdN n M)
  | 0, _, _, q, z => q z
  | n + 1, M, sg, q, z => by
    have e : f_rdN (n + 1) M = if ¬ (M 14 0 = 4) ∧ M 16 0 = 0 then f_rdN n (f_rd1 M) else M := rfl
    rw [e] at z ⊢
    by_cases y : ¬ (M 14 0 = 4) ∧ M 16 0 = 0
    · rw [if_pos y] at z ⊢
      by_cases w : f_rd1 M 16 0 = 0
      · exact qI_rdN n (sgI_rd1 sg y.1 w).1 (fun _ => qI_rd1 sg y.1 (q y.2) w) z
      · rw [f_rdN_stop _ (Or.inr w)] at z
        exact absurd z w
    · rw [if_neg y] at z ⊢
      exact q z
theorem r1_Z {M : Nat → Nat → Int} (hT : 0 ≤ M 1 0 ∧ M 1 0 ≤ 120) : sgI (f_r1 M) ∧ qI (f_r1 M) ∧ f_r1 M 16 0 = 0 := by
  obtain ⟨Z, hZ⟩ : ∃ Z, Z = f_nin (f_r0 M) 4 := ⟨_, rfl⟩
  have e : f_r1 M = f_step Z := by unfold f_r1; rw [hZ]
  have z1 : Z 1 0 = M 1 0 := by rw [hZ]; rfl
  have z12 : Z 12 0 = 0 := by rw [hZ]; rfl
  have z16 : Z 16 0 = 0 := by rw [hZ]; rfl
  have z18 : Z 18 0 = 0 := by rw [hZ]; rfl
  have z2 : Z 2 1 = 0 := by rw [hZ]; rfl
  have z5 : Z 5 1 = 0 := by rw [hZ]; rfl
  have z9 : Z 9 1 = 1 := by rw [hZ]; rfl
  have z10 : Z 10 6 = 0 := by rw [hZ]; rfl
  have z11 : ∀ k : Nat, k < 4 → Z 11 k = 9 := fun k hk => by
    rw [hZ]
    exact if_pos ⟨rfl, hk⟩
  have pq : pQ Z := by
    unfold pQ
    rw [z1, z12, z16, z18, z2, z5, z9]
    exact ⟨hT, by omega, Or.inl rfl, Or.inl rfl, by decide, by decide, by decide⟩
  have pi := pI_stepq pq
  have a13 := f_step_13 Z
  have a12 := f_step_12 (M := Z) (by omega) (by omega)
  have b := s_a1_bd (M := Z) (by omega)
  have sg : sgI (f_step Z) := ⟨⟨pi, by omega⟩, fun z => by have := a12.2 z; omega⟩
  rw [e]
  refine ⟨sg, qI_cong (M := Z) (fun f hf => f_step_o Z (Or.inl hf)) ⟨fun k hk => ?_, fun k hk => ?_, fun k hk => ?_, fun k hk => ?_, by omega⟩, (f_step_lo _ (by decide) _).trans z16⟩
  · rw [z2] at hk; omega
  · rw [z5] at hk; omega
  · rw [z9] at hk
    have k0 : k = 0 := by omega
    subst k0
    rw [show (6 + 0 : Nat) = 6 from rfl, z10]; decide
  · rw [z11 k hk]; decide
theorem qI_read {M : Nat → Nat → Int} (hT : 0 ≤ M 1 0 ∧ M 1 0 ≤ 120) (z : f_read M 16 0 = 0) : qI (f_read M) := by
  have a := r1_Z hT
  exact qI_rdN 200 a.1 (fun _ => a.2.1) z
theorem pJ_rd1 {M : Nat → Nat → Int} (h : pJ M) : pJ (f_rd1 M) := by
  have p1 := pGo_due h (s_gd M)
  have p1' : pJ (f_rA M) := p1.1
  unfold f_rd1
  by_cases hA : f_rA M 16 0 = 0
  · rw [if_pos hA]
    obtain ⟨g1, g2⟩ := f_due_ok hA
    have eA : f_rA M = f_step M := f_due_go hA
    have gm : ¬ (s_may M (s_wd M) = 0) := by
      unfold s_gd at g2
      by_cases q : M 14 0 = 1 ∧ ¬ (s_may M (s_wd M) = 0)
      · exact q.2
      · rw [if_neg q] at g2; exact absurd rfl g2
    have p2 : pGo (f_rA M) (f_item (f_rA M) (s_wd M)) := by
      refine pGo_item p1' (fun z => ?_) (fun z => ?_)
      · rw [eA, f_step_lo _ (by decide)]
        unfold s_may at gm
        rw [if_pos z] at gm
        omega
      · rw [eA, f_step_lo _ (by decide)]
        unfold s_may at gm
        rw [if_neg (by omega), if_pos z] at gm
        omega
    have p3 : pJ (f_rC (f_item (f_rA M) (s_wd M))) := (pGo_due p2.1 _).1
    exact ⟨p3.1, p3.2⟩
  · rw [if_neg hA]
    exact p1'
theorem pJ_rdN : ∀ (n : Nat) {M : Nat → Nat → Int}, pJ M → pJ (f_rdN n M)
  | 0, _, h => h
  | n + 1, M, h => by
    have e : f_rdN (n + 1) M = if ¬ (M 14 0 = 4) ∧ M 16 0 = 0 then f_rdN n (f_rd1 M) else M := rfl
    rw [e]
    split
    · exact pJ_rdN n (pJ_rd1 h)
    · exact h
theorem pJ_read {M : Nat → Nat → Int} (hT : 0 ≤ M 1 0 ∧ M 1 0 ≤ 120) : pJ (f_read M) := pJ_rdN 200 (r1_Z hT).1.1
/-! What the reference's reader leaves alone. -/
def lowI (f k : Nat) : Prop := f < 2 ∨ 19 ≤ f ∨ ((f = 2 ∨ f = 5 ∨ f = 9) ∧ k = 0) ∨ ((f = 3 ∨ f = 4 ∨ f = 6 ∨ f = 7 ∨ f = 8 ∨ f = 10) ∧ k < 6)
def fr (M N : Nat → Nat → Int) : Prop := ∀ f k, lowI f k → N f k = M f k
theorem fr.tr {M N K : Nat → Nat → Int} (h : fr M N) (h2 : fr N K) : fr M K := fun f k z => (h2 f k z).trans (h f k z)
theorem fr.rf (M : Nat → Nat → Int) : fr M M := fun _ _ _ => rfl
theorem fr.w {M N : Nat → Nat → Int} (h : fr M N) {f i : Nat} (v : Int) (hl : ¬ lowI f i) : fr M (mU N f i v) := fun g k z => by
  rw [← h g k z]
  unfold mU
  exact if_neg (fun y => hl (by rw [← y.1, ← y.2]; exact z))
theorem fr_due (M : Nat → Nat → Int) (is : Int) : fr M (f_due M is) := fun f k z => congrFun (f_due_o M is (by unfold lowI at z; omega)) k
theorem fr.num {M N : Nat → Nat → Int} (h : fr M N) (lo hi : Int) : fr M (f_num N lo hi) := h.tr (fr_due N _)
theorem fr_ip {M : Nat → Nat → Int} (h : 0 ≤ M 2 1) : fr M (f_itp M) := by
  have a : fr M (f_ipA M) := ((fr.rf M).num 0 30).w _ (by unfold lowI; omega)
  have e : f_ipA M 2 1 = M 2 1 := by unfold f_ipA; rw [mU_nf _ _ _ _ (by decide), f_num_lo _ _ _ (by decide)]
  have b : fr M (f_ipB (f_ipA M)) := (a.num 0 5).w _ (by unfold lowI; omega)
  exact b.w _ (by unfold lowI; omega)
theorem fr_is {M : Nat → Nat → Int} (h : 0 ≤ M 5 1) : fr M (f_its M) := by
  have a : fr M (f_isA M (6 + M 5 1)) := ((fr.rf M).num 1 9).w _ (by unfold lowI; omega)
  have b : fr M (f_isB (f_isA M (6 + M 5 1)) (6 + M 5 1)) := (a.num 0 3).w _ (by unfold lowI; omega)
  have c : fr M (f_isC (f_isB (f_isA M (6 + M 5 1)) (6 + M 5 1)) (6 + M 5 1)) := (b.num 0 _).w _ (by unfold lowI; omega)
  exact c.w _ (by unfold lowI; omega)
theorem fr_if (M : Nat → Nat → Int) : fr M (f_itf M) := by
  have a := ((fr.rf M).num 0 3).num 0 20
  unfold f_itf
  split
  · exact a.w _ (by unfold lowI; omega)
  · exact a
theorem f_bl1_9 (M : Nat → Nat → Int) : f_bl1 M 9 1 = M 9 1 ∨ f_bl1 M 9 1 = M 9 1 + 1 := by
  have o : f_num M 0 8 9 = M 9 := f_num_lo _ _ _ (by decide)
  unfold f_bl1
  split
  · right
    unfold f_bw
    rw [mU_eq, mU_nf _ _ _ _ (by decide), o]
  · left
    rw [o]
theorem fr_bl1 {M : Nat → Nat → Int} (h : 0 ≤ M 9 1) : fr M (f_bl1 M) := by
  have a := (fr.rf M).num 0 8
  have o : f_num M 0 8 9 = M 9 := f_num_lo _ _ _ (by decide)
  unfold f_bl1
  split
  · unfold f_bw
    exact (a.w _ (by rw [o]; unfold lowI; omega)).w _ (by unfold lowI; omega)
  · exact a
theorem fr_blN : ∀ (n : Nat) {M : Nat → Nat → Int}, 0 ≤ M 9 1 → fr M (f_blN n M)
  | 0, M, _ => fr.rf M
  | n + 1, M, h => by
    have e : f_blN (n + 1) M = if f_bl1 M 16 0 = 0 ∧ f_bl1 M 14 0 = 2 ∧ f_bl1 M 9 1 < 6 then f_blN n (f_bl1 M) else f_bl1 M := rfl
    have a := fr_bl1 h
    have b := f_bl1_9 M
    rw [e]
    split
    · exact a.tr (fr_blN n (by omega))
    · exact a
theorem fr_item {M : Nat → Nat → Int} (hp : pI M) (wd : Int) : fr M (f_item M wd) := by
  obtain ⟨p1, p2, p3, p4, p5, p6, p7, p8, p9, p10⟩ := hp
  unfold f_item
  split
  · exact fr_ip p7.1
  · split
    · exact fr_is p8.1
    · split
      · have a : fr M (mU (mU M 9 1 0) 18 0 1) := ((fr.rf M).w _ (by unfold lowI; omega)).w _ (by unfold lowI; omega)
        exact a.tr (fr_blN 6 (by show (0 : Int) ≤ 0; decide))
      · exact fr_if M
theorem fr_rd1 {M : Nat → Nat → Int} (h : pJ M) : fr M (f_rd1 M) := by
  have a : fr M (f_rA M) := fr_due M _
  have p1 : pJ (f_rA M) := (pGo_due h _).1
  unfold f_rd1
  split
  · have b := a.tr (fr_item p1.1 (s_wd M))
    have c : fr M (f_rC (f_item (f_rA M) (s_wd M))) := b.tr (fr_due _ _)
    exact c.w _ (by unfold lowI; omega)
  · exact a
theorem fr_rdN : ∀ (n : Nat) {M : Nat → Nat → Int}, pJ M → fr M (f_rdN n M)
  | 0, M, _ => fr.rf M
  | n + 1, M, h => by
    have e : f_rdN (n + 1) M = if ¬ (M 14 0 = 4) ∧ M 16 0 = 0 then f_rdN n (f_rd1 M) else M := rfl
    rw [e]
    split
    · exact (fr_rd1 h).tr (fr_rdN n (pJ_rd1 h))
    · exact fr.rf M
theorem fr_read {M : Nat → Nat → Int} (hT : 0 ≤ M 1 0 ∧ M 1 0 ≤ 120) : fr M (f_read M) := by
  have p := (r1_Z hT).1.1
  have a : fr M (f_r0 M) := by
    unfold f_r0
    exact (((((((((fr.rf M).w _ (by unfold lowI; omega)).w _ (by unfold lowI; omega)).w _ (by unfold lowI; omega)).w _ (by unfold lowI; omega)).w _ (by unfold lowI; omega)).w _ (by unfold lowI; omega)).w _ (by unfold lowI; omega)).w _ (by unfold lowI; omega))
  have b : fr M (f_nin (f_r0 M) 4) := fun f k z => by
    rw [← a f k z]
    unfold f_nin
    exact if_neg (fun y => by unfold lowI at z; omega)
  have c : fr M (f_r1 M) := b.tr (fun f k z => f_step_lo _ (by unfold lowI at z; omega) k)
  exact c.tr (fr_rdN 200 p)
