/-! The invariant behind each call that changes the state. -/
theorem mI_hours {M : Nat → Nat → Int} (hI : mI M) (nn : Int) : mI (f_hours M nn) := by
  unfold f_hours
  split
  · exact hI
  · split
    · exact hI
    · rename_i q1 q2
      have e : f_know M 19 = M 19 := f_know_o M (by decide) (by decide)
      have b := (mI_now hI).2.2.2.2.1
      refine mI_now19 (mI_know hI) (mU_f19 _ _ _) (vI_hour (mI_v (mI_know hI)) rfl ?_)
      rw [e]
      omega
theorem mI_damps {M : Nat → Nat → Int} (hI : mI M) (nn : Int) : mI (f_damps M nn) := by
  unfold f_damps
  split
  · exact hI
  · split
    · exact hI
    · rename_i q1 q2
      exact mI_now19 (mI_know hI) (mU_f19 _ _ _) (vI_damp (mI_v (mI_know hI)) rfl (by omega))
theorem mI_plucks {M : Nat → Nat → Int} (hI : mI M) (fe nn : Int) : mI (f_plucks M fe nn) := by
  unfold f_plucks
  split
  · exact hI
  · split
    · exact hI
    · rename_i q1 q2
      have b := mI_fe hI (k := fe) (by omega)
      exact mI_now19 (mI_know hI) (mU_f19 _ _ _) (vI_fea (mI_v (mI_know hI)) rfl (by omega) (by unfold s_plv; omega))
theorem mI_mark {M : Nat → Nat → Int} (hI : mI M) (kd pe : Int) : mI (f_mark M kd pe) := by
  unfold f_mark
  split
  · exact hI
  · exact mI_o29 hI (fun f hf => by funext j; exact mU_nf _ _ _ _ hf)
theorem mI_relay {M : Nat → Nat → Int} (hI : mI M) (sy to wh : Int) : mI (f_relay M sy to wh) := by
  unfold f_relay
  split
  · exact hI
  · exact mI_oo hI (fun f hf _ => f_ms_o _ _ _ _ _ hf)
theorem mI_allot {M : Nat → Nat → Int} (hI : mI M) (st sy : Int) : mI (f_allot M st sy) := by
  unfold f_allot
  split
  · exact hI
  · exact mI_oo hI (fun f _ hf => f_tdN_o _ _ hf)
theorem mI_clear {M : Nat → Nat → Int} (hI : mI M) : mI (mU M 1 0 0) := by
  obtain ⟨h1, h2, h3, h4, h5, h6, h7, h8, h9, h10, h11, h12, h13, h14⟩ := hI
  exact ⟨(by show (0 : Int) ≤ 0 ∧ (0 : Int) ≤ 120; decide), h2, h3, h4, h5, h6, h7, h8, h9, h10, h11, h12, h13, h14⟩
theorem mI_forget {M : Nat → Nat → Int} (hI : mI M) : mI (mU M 28 0 0) := by
  obtain ⟨h1, h2, h3, h4, h5, h6, h7, h8, h9, h10, h11, h12, h13, h14⟩ := hI
  refine ⟨h1, h2, h3, h4, h5, h6, h7, h8, h9, h10, h11, h12, (by show (0 : Int) ≤ 0 ∧ (0 : Int) ≤ 4; decide), fun k hk => ?_⟩
  have q : (k : Int) < 0 := hk
  omega
theorem zsb_bd {c : Int} (h : 0 ≤ c ∧ c ≤ 255) : -128 ≤ zsb c ∧ zsb c < 128 := by unfold zsb; omega
theorem mI_type {M : Nat → Nat → Int} (hI : mI M) (cc : Int) : mI (f_type M cc) := by
  unfold f_type
  split
  · exact hI
  · split
    · exact hI
    · rename_i q1 q2
      obtain ⟨h1, h2, h3, h4, h5, h6, h7, h8, h9, h10, h11, h12, h13, h14⟩ := hI
      refine ⟨(by show 0 ≤ M 1 0 + 1 ∧ M 1 0 + 1 ≤ 120; omega), fun k hk => ?_, h3, h4, h5, h6, h7, h8, h9, h10, h11, h12, h13, h14⟩
      show -128 ≤ mU M 0 (Int.toNat (M 1 0)) (zsb cc) 0 k ∧ mU M 0 (Int.toNat (M 1 0)) (zsb cc) 0 k < 128
      by_cases e : k = Int.toNat (M 1 0)
      · rw [e, mU_eq]
        exact zsb_bd (by omega)
      · rw [mU_ni _ _ _ _ e]
        exact h2 k hk
theorem mI_saw {M : Nat → Nat → Int} (hI : mI M) (sy sp : Int) : mI (f_saw M sy sp) := by
  unfold f_saw
  split
  · exact hI
  · split
    · exact hI
    · rename_i q1 q2
      obtain ⟨h1, h2, h3, h4, h5, h6, h7, h8, h9, h10, h11, h12, h13, h14⟩ := hI
      refine ⟨h1, h2, h3, h4, h5, h6, h7, h8, h9, h10, h11, h12, (by show 0 ≤ M 28 0 + 1 ∧ M 28 0 + 1 ≤ 4; omega), fun k hk => ?_⟩
      have hk2 : (k : Int) < M 28 0 + 1 := hk
      show (0 ≤ mU M 26 (Int.toNat (M 28 0)) sy 26 k ∧ mU M 26 (Int.toNat (M 28 0)) sy 26 k < M 5 0) ∧ (0 ≤ mU M 27 (Int.toNat (M 28 0)) sp 27 k ∧ mU M 27 (Int.toNat (M 28 0)) sp 27 k ≤ 30)
      by_cases e : k = Int.toNat (M 28 0)
      · rw [e, mU_eq, mU_eq]
        omega
      · rw [mU_ni _ _ _ _ e, mU_ni _ _ _ _ e]
        exact h14 k (by omega)
theorem mI_undo {M : Nat → Nat → Int} (hI : mI M) : mI (f_undo M) := by
  unfold f_undo
  by_cases q : M 20 0 = 0
  · rw [if_pos q]; exact hI
  · rw [if_neg q]
    obtain ⟨h1, h2, h3, h4, h5, h6, h7, h8, h9, h10, h11, h12, h13, h14⟩ := hI
    have e19 : ∀ k, k < 29 → f_blk (f_undo1 M) 19 21 0 (29 * Int.toNat (M 20 0 - 1)) 29 19 k = M 21 (29 * Int.toNat (M 20 0 - 1) + k) := fun k hk => by
      have t : f_blk (f_undo1 M) 19 21 0 (29 * Int.toNat (M 20 0 - 1)) 29 19 k = f_undo1 M 21 (29 * Int.toNat (M 20 0 - 1) + (k - 0)) := if_pos ⟨rfl, by omega, by omega⟩
      rw [t]; rfl
    have e20 : ∀ k, k ≠ 0 → f_blk (f_undo1 M) 19 21 0 (29 * Int.toNat (M 20 0 - 1)) 29 20 k = M 20 k := fun k hk => mU_ni M 20 20 _ hk
    refine ⟨h1, h2, h3, h4, h5, h6, h7, h8, vI_ext h4.2 (h11 (Int.toNat (M 20 0 - 1)) (by omega)) e19, (by show 0 ≤ M 20 0 - 1 ∧ M 20 0 - 1 ≤ 10; omega), fun j hj => ?_, fun i hi => ?_, h13, h14⟩
    · have hj2 : (j : Int) < M 20 0 - 1 := hj
      exact h11 j (by omega)
    · obtain ⟨a1, a2⟩ := h12 i hi
      refine ⟨a1, fun z => ?_⟩
      obtain ⟨c1, c2, c3⟩ := a2 z
      rw [e20 (1 + i) (by omega)]
      exact ⟨c1, c2, c3⟩
theorem mI_keep {M : Nat → Nat → Int} (hI : mI M) (im : Int) : mI (f_keep M im) := by
  unfold f_keep
  by_cases q : 0 ≤ im ∧ im ≤ 1
  · rw [if_neg (fun z => z q)]
    obtain ⟨n, rfl⟩ := Int.eq_ofNat_of_zero_le q.1
    have hn : n ≤ 1 := by omega
    unfold f_kp2 f_kp1
    have e1 : Int.toNat (29 * (n : Int)) = 29 * n := by omega
    have e2 : Int.toNat (290 * (1 + (n : Int))) = 290 * (1 + n) := by omega
    have e3 : Int.toNat (1 + (n : Int)) = 1 + n := by omega
    rw [e1, e2, e3, Int.toNat_natCast]
    obtain ⟨N, hN⟩ : ∃ N, N = mU (mU (f_blk (f_blk M 22 19 (29 * n) 0 29) 21 21 (290 * (1 + n)) 0 290) 20 (1 + n) (M 20 0)) 23 n 1 := ⟨_, rfl⟩
    have n22 : ∀ k, N 22 k = if 29 * n ≤ k ∧ k < 29 * n + 29 then M 19 (0 + (k - 29 * n)) else M 22 k := fun k => by rw [hN]; simp [mU, f_blk]
    have n21 : ∀ k, N 21 k = if 290 * (1 + n) ≤ k ∧ k < 290 * (1 + n) + 290 then M 21 (0 + (k - 290 * (1 + n))) else M 21 k := fun k => by rw [hN]; simp [mU, f_blk]
    have n20 : ∀ k, N 20 k = if k = 1 + n then M 20 0 else M 20 k := fun k => by rw [hN]; simp [mU, f_blk]
    have n23 : ∀ k, N 23 k = if k = n then 1 else M 23 k := fun k => by rw [hN]; simp [mU, f_blk]
    have no : ∀ f, f ≠ 20 → f ≠ 21 → f ≠ 22 → f ≠ 23 → N f = M f := fun f a1 a2 a3 a4 => by rw [hN]; funext j; simp [mU, f_blk, a1, a2, a3, a4]
    rw [← hN]
    obtain ⟨h1, h2, h3, h4, h5, h6, h7, h8, h9, h10, h11, h12, h13, h14⟩ := hI
    unfold mI
    rw [no 0 (by decide) (by decide) (by decide) (by decide), no 1 (by decide) (by decide) (by decide) (by decide), no 2 (by decide) (by decide) (by decide) (by decide), no 3 (by decide) (by decide) (by decide) (by decide), no 4 (by decide) (by decide) (by decide) (by decide), no 5 (by decide) (by decide) (by decide) (by decide), no 6 (by decide) (by decide) (by decide) (by decide), no 7 (by decide) (by decide) (by decide) (by decide), no 8 (by decide) (by decide) (by decide) (by decide), no 9 (by decide) (by decide) (by decide) (by decide), no 10 (by decide) (by decide) (by decide) (by decide), no 19 (by decide) (by decide) (by decide) (by decide), no 26 (by decide) (by decide) (by decide) (by decide), no 27 (by decide) (by decide) (by decide) (by decide), no 28 (by decide) (by decide) (by decide) (by decide)]
    have z0 : N 20 0 = M 20 0 := by rw [n20, if_neg (by omega)]
    refine ⟨h1, h2, h3, h4, h5, h6, h7, h8, h9, by rw [z0]; exact h10, fun j hj => ?_, fun i hi => ?_, h13, h14⟩
    · rw [z0] at hj
      refine vI_ext h4.2 (h11 j hj) (fun k hk => ?_)
      show N 21 (29 * j + k) = M 21 (29 * j + k)
      rw [n21, if_neg (by omega)]
    · by_cases w : i = n
      · subst w
        rw [n23, if_pos rfl, n20, if_pos rfl]
        refine ⟨Or.inr rfl, fun _ => ⟨vI_ext h4.2 h9 (fun k hk => ?_), h10, fun j hj => vI_ext h4.2 (h11 j hj) (fun k hk => ?_)⟩⟩
        · show N 22 (29 * i + k) = M 19 k
          rw [n22, if_pos (by omega)]
          congr 1; omega
        · show N 21 (290 * (1 + i) + 29 * j + k) = M 21 (29 * j + k)
          rw [n21, if_pos (by omega)]
          congr 1; omega
      · rw [n23, if_neg w, n20, if_neg (by omega)]
        obtain ⟨a1, a2⟩ := h12 i hi
        refine ⟨a1, fun z => ?_⟩
        obtain ⟨c1, c2, c3⟩ := a2 z
        refine ⟨vI_ext h4.2 c1 (fun k hk => ?_), c2, fun j hj => vI_ext h4.2 (c3 j hj) (fun k hk => ?_)⟩
        · show N 22 (29 * i + k) = M 22 (29 * i + k)
          rw [n22, if_neg (by omega)]
        · show N 21 (290 * (1 + i) + 29 * j + k) = M 21 (290 * (1 + i) + 29 * j + k)
          rw [n21, if_neg (by omega)]
  · rw [if_pos q]; exact hI
theorem mI_back {M : Nat → Nat → Int} (hI : mI M) (im : Int) : mI (f_back M im) := by
  unfold f_back
  by_cases q : 0 ≤ im ∧ im ≤ 1
  · rw [if_neg (fun z => z q)]
    by_cases q2 : M 23 (Int.toNat im) = 0
    · rw [if_pos q2]; exact hI
    · rw [if_neg q2]
      obtain ⟨n, rfl⟩ := Int.eq_ofNat_of_zero_le q.1
      have hn : n ≤ 1 := by omega
      unfold f_bk2 f_bk1
      have e1 : Int.toNat (29 * (n : Int)) = 29 * n := by omega
      have e2 : Int.toNat (290 * (1 + (n : Int))) = 290 * (1 + n) := by omega
      have e3 : Int.toNat (1 + (n : Int)) = 1 + n := by omega
      rw [Int.toNat_natCast] at q2
      rw [e1, e2, e3]
      obtain ⟨N, hN⟩ : ∃ N, N = mU (f_blk (f_blk M 19 22 0 (29 * n) 29) 21 21 0 (290 * (1 + n)) 290) 20 0 (M 20 (1 + n)) := ⟨_, rfl⟩
      have n19 : ∀ k, k < 29 → N 19 k = M 22 (29 * n + k) := fun k hk => by rw [hN]; simp [mU, f_blk, hk]
      have n21 : ∀ k, N 21 k = if k < 290 then M 21 (290 * (1 + n) + k) else M 21 k := fun k => by rw [hN]; simp [mU, f_blk]
      have n20 : ∀ k, N 20 k = if k = 0 then M 20 (1 + n) else M 20 k := fun k => by rw [hN]; simp [mU, f_blk]
      have no : ∀ f, f ≠ 19 → f ≠ 20 → f ≠ 21 → N f = M f := fun f a1 a2 a3 => by rw [hN]; funext j; simp [mU, f_blk, a1, a2, a3]
      rw [← hN]
      obtain ⟨h1, h2, h3, h4, h5, h6, h7, h8, h9, h10, h11, h12, h13, h14⟩ := hI
      obtain ⟨a1, a2⟩ := h12 n (by omega)
      obtain ⟨c1, c2, c3⟩ := a2 (by omega)
      unfold mI
      rw [no 0 (by decide) (by decide) (by decide), no 1 (by decide) (by decide) (by decide), no 2 (by decide) (by decide) (by decide), no 3 (by decide) (by decide) (by decide), no 4 (by decide) (by decide) (by decide), no 5 (by decide) (by decide) (by decide), no 6 (by decide) (by decide) (by decide), no 7 (by decide) (by decide) (by decide), no 8 (by decide) (by decide) (by decide), no 9 (by decide) (by decide) (by decide), no 10 (by decide) (by decide) (by decide), no 22 (by decide) (by decide) (by decide), no 23 (by decide) (by decide) (by decide), no 26 (by decide) (by decide) (by decide), no 27 (by decide) (by decide) (by decide), no 28 (by decide) (by decide) (by decide)]
      have z0 : N 20 0 = M 20 (1 + n) := by rw [n20, if_pos rfl]
      refine ⟨h1, h2, h3, h4, h5, h6, h7, h8, vI_ext h4.2 c1 n19, by rw [z0]; exact c2, fun j hj => ?_, fun i hi => ?_, h13, h14⟩
      · rw [z0] at hj
        refine vI_ext h4.2 (c3 j hj) (fun k hk => ?_)
        show N 21 (29 * j + k) = M 21 (290 * (1 + n) + 29 * j + k)
        rw [n21, if_pos (by omega)]
        congr 1; omega
      · rw [n20, if_neg (by omega)]
        obtain ⟨b1, b2⟩ := h12 i hi
        refine ⟨b1, fun z => ?_⟩
        obtain ⟨t1, t2, t3⟩ := b2 z
        refine ⟨t1, t2, fun j hj => vI_ext h4.2 (t3 j hj) (fun k hk => ?_)⟩
        show N 21 (290 * (1 + i) + 29 * j + k) = M 21 (290 * (1 + i) + 29 * j + k)
        rw [n21, if_neg (by omega)]
  · rw [if_pos q]; exact hI
theorem vI_kn {P S : Int} {v : Nat → Int} (h : vI P S v) {M : Nat → Nat → Int} (e : M 19 = v) {x sy : Int} (hs : 0 ≤ sy ∧ sy < 6) (hx : 0 ≤ x ∧ x < 64) (hx2 : sy < S → 0 < x) : vI P S (mU M 19 (Int.toNat (6 + sy)) x 19) := by
  subst e
  obtain ⟨v1, v2, v3, v4, v5, v6, v7⟩ := h
  have q : ∀ j, mU M 19 (Int.toNat (6 + sy)) x 19 j = if j = Int.toNat (6 + sy) then x else M 19 j := fun j => by simp [mU]
  refine ⟨by rw [q, if_neg (by omega)]; exact v1, by rw [q, if_neg (by omega)]; exact v2, fun k hk => ?_, fun k hk => ?_, by rw [q, if_neg (by omega)]; exact v5, fun k hk => ?_, fun k hk => ?_⟩
  · rw [q, if_neg (by omega)]; exact v3 k hk
  · rw [q]; split
    · exact hx
    · exact v4 k hk
  · rw [q, if_neg (by omega)] at hk; rw [q, q, if_neg (by omega), if_neg (by omega)]; exact v6 k hk
  · rw [q]; split
    · exact hx2 (by omega)
    · exact v7 k hk
theorem vI_take {P S : Int} {M : Nat → Nat → Int} {ii : Int} (hS : S ≤ 6) (h : vI P S (M 19)) (hi : 0 ≤ ii ∧ ii < M 19 12) : vI P S (f_take M ii 19) := by
  obtain ⟨v1, v2, v3, v4, v5, v6, v7⟩ := h
  have lo : ∀ j, j < 12 → f_take M ii 19 j = M 19 j := fun j hj => by
    unfold f_take f_take1
    rw [mU_ni _ _ _ _ (by omega), mU_ni _ _ _ _ (by omega), mU_ni _ _ _ _ (by omega)]
    unfold f_tk
    rw [if_neg (by omega), if_neg (by omega)]
  have st : ∀ k, k < 7 → f_take M ii 19 (13 + k) = if Int.toNat ii ≤ k then M 19 (13 + (k + 1)) else M 19 (13 + k) := fun k hk => by
    unfold f_take f_take1
    rw [mU_ni _ _ _ _ (by omega), mU_ni _ _ _ _ (by omega), mU_ni _ _ _ _ (by omega)]
    unfold f_tk
    by_cases q : Int.toNat ii ≤ k
    · rw [if_pos (by omega), if_pos q]; rfl
    · rw [if_neg (by omega), if_neg (by omega), if_neg q]
  have sp : ∀ k, k < 7 → f_take M ii 19 (21 + k) = if Int.toNat ii ≤ k then M 19 (21 + (k + 1)) else M 19 (21 + k) := fun k hk => by
    unfold f_take f_take1
    rw [mU_ni _ _ _ _ (by omega), mU_ni _ _ _ _ (by omega), mU_ni _ _ _ _ (by omega)]
    unfold f_tk
    by_cases q : Int.toNat ii ≤ k
    · rw [if_neg (by omega), if_pos (by omega), if_pos q]; rfl
    · rw [if_neg (by omega), if_neg (by omega), if_neg q]
  have l12 := f_take_12 M ii
  refine ⟨by rw [lo 0 (by omega)]; exact v1, by rw [lo 1 (by omega)]; exact v2, fun k hk => ?_, fun k hk => ?_, by rw [l12]; omega, fun k hk => ?_, fun k hk => ?_⟩
  · rw [lo _ (by omega)]; exact v3 k hk
  · rw [lo _ (by omega)]; exact v4 k hk
  · rw [l12] at hk
    rw [st k (by omega), sp k (by omega)]
    by_cases q : Int.toNat ii ≤ k
    · rw [if_pos q, if_pos q]; exact v6 (k + 1) (by omega)
    · rw [if_neg q, if_neg q]; exact v6 k (by omega)
  · rw [lo _ (by omega)]; exact v7 k hk
theorem f_take_o (M : Nat → Nat → Int) (ii : Int) {f : Nat} (h : f ≠ 19) : f_take M ii f = M f := by
  funext j
  unfold f_take f_take1
  rw [mU_nf _ _ _ _ h, mU_nf _ _ _ _ h, mU_nf _ _ _ _ h]
  unfold f_tk
  rw [if_neg (fun z => h z.1), if_neg (fun z => h z.1)]
theorem mI_take {M : Nat → Nat → Int} (hI : mI M) {ii : Int} (hi : 0 ≤ ii ∧ ii < M 19 12) : mI (f_take M ii) := mI_now19 hI (fun f hf => f_take_o M ii hf) (vI_take (mI_now hI).2.2.1.2 (mI_v hI) hi)
theorem mI_picks {M : Nat → Nat → Int} (hI : mI M) (pe : Int) : mI (f_picks M pe) := by
  unfold f_picks
  split
  · exact hI
  · split
    · exact hI
    · rename_i q1 q2
      have hK := mI_know hI
      have e : f_know M 19 = M 19 := f_know_o M (by decide) (by decide)
      have nw := mI_now hI
      have nk := mI_now hK
      have b : s_fnd M pe = -9 ∨ (0 ≤ s_fnd M pe ∧ s_fnd M pe < M 19 12) := by
        have t := zfind_bd (fun q => decide (M 19 (Int.toNat (21 + q)) = M 3 (Int.toNat pe))) (Int.toNat (M 19 12 - 0)) 0
        unfold s_fnd
        omega
      have ly := mI_ly hI (k := s_fnd M pe) (by omega)
      have kn := mI_kn hI (k := M 19 (Int.toNat (13 + s_fnd M pe))) (by omega)
      have k1 := mI_k1 hI (k := M 19 (Int.toNat (13 + s_fnd M pe))) (by omega)
      have z64 : zp pe < 64 := zp_lt (k := pe) (N := 6) (by omega) (by omega)
      have zn := zp_nn pe
      have zo := zor_lt (k := 6) (a := M 19 (Int.toNat (6 + M 19 (Int.toNat (13 + s_fnd M pe))))) (b := zp pe) (by omega) (by omega)
      have zg := zor_ge (a := M 19 (Int.toNat (6 + M 19 (Int.toNat (13 + s_fnd M pe))))) (b := zp pe) (by omega)
      unfold f_pk
      rw [e]
      refine mI_take (mI_now19 hK (mU_f19 _ _ _) (vI_kn (mI_v hK) rfl (by omega) (by omega) (by omega))) ?_
      rw [mU_ni _ _ _ _ (by omega), e]
      omega
theorem vI_add {P S : Int} {K : Nat → Nat → Int} {sy sp : Int} (h : vI P S (K 19)) (h7 : K 19 12 < 8) (hs : 0 ≤ sy ∧ sy < S) (hp : 0 ≤ sp ∧ sp ≤ 30) (hS : S ≤ 6) : vI P S (f_lt3 K sy sp 19) := by
  obtain ⟨v1, v2, v3, v4, v5, v6, v7⟩ := h
  obtain ⟨n, hn⟩ : ∃ n : Nat, K 19 12 = (n : Int) := ⟨Int.toNat (K 19 12), by omega⟩
  have ea : f_lta K sy = mU K 19 (13 + n) sy := by
    unfold f_lta
    rw [hn, show Int.toNat (13 + (n : Int)) = 13 + n by omega]
  have ea12 : mU K 19 (13 + n) sy 19 12 = (n : Int) := by rw [mU_ni _ _ _ _ (by omega), hn]
  have eb : f_ltb (f_lta K sy) sp = mU (mU K 19 (13 + n) sy) 19 (21 + n) sp := by
    unfold f_ltb
    rw [ea, ea12, show Int.toNat (21 + (n : Int)) = 21 + n by omega]
  have eb12 : mU (mU K 19 (13 + n) sy) 19 (21 + n) sp 19 12 = (n : Int) := by rw [mU_ni _ _ _ _ (by omega), ea12]
  have ec : f_lt3 K sy sp = mU (mU (mU K 19 (13 + n) sy) 19 (21 + n) sp) 19 12 ((n : Int) + 1) := by
    unfold f_lt3 f_ltc
    rw [eb, eb12]
  rw [ec]
  have q : ∀ j, mU (mU (mU K 19 (13 + n) sy) 19 (21 + n) sp) 19 12 ((n : Int) + 1) 19 j = if j = 12 then (n : Int) + 1 else if j = 21 + n then sp else if j = 13 + n then sy else K 19 j := fun j => by simp [mU]
  refine ⟨by rw [q, if_neg (by omega), if_neg (by omega), if_neg (by omega)]; exact v1, by rw [q, if_neg (by omega), if_neg (by omega), if_neg (by omega)]; exact v2, fun k hk => ?_, fun k hk => ?_, by rw [q, if_pos rfl]; omega, fun k hk => ?_, fun k hk => ?_⟩
  · rw [q, if_neg (by omega), if_neg (by omega), if_neg (by omega)]; exact v3 k hk
  · rw [q, if_neg (by omega), if_neg (by omega), if_neg (by omega)]; exact v4 k hk
  · rw [q, if_pos rfl] at hk
    have x1 : mU (mU (mU K 19 (13 + n) sy) 19 (21 + n) sp) 19 12 ((n : Int) + 1) 19 (13 + k) = if k = n then sy else K 19 (13 + k) := by
      rw [q, if_neg (by omega), if_neg (by omega)]
      by_cases w : k = n
      · rw [if_pos (by omega), if_pos w]
      · rw [if_neg (by omega), if_neg w]
    have x2 : mU (mU (mU K 19 (13 + n) sy) 19 (21 + n) sp) 19 12 ((n : Int) + 1) 19 (21 + k) = if k = n then sp else K 19 (21 + k) := by
      rw [q, if_neg (by omega)]
      by_cases w : k = n
      · rw [if_pos (by omega), if_pos w]
      · rw [if_neg (by omega), if_neg (by omega), if_neg w]
    rw [x1, x2]
    by_cases w : k = n
    · rw [if_pos w, if_pos w]; exact ⟨hs, hp⟩
    · rw [if_neg w, if_neg w]; exact v6 k (by omega)
  · rw [q, if_neg (by omega), if_neg (by omega), if_neg (by omega)]; exact v7 k hk
theorem f_lt3_o (K : Nat → Nat → Int) (sy sp : Int) {f : Nat} (h : f ≠ 19) : f_lt3 K sy sp f = K f := by
  funext j
  unfold f_lt3 f_ltc f_ltb f_lta
  rw [mU_nf _ _ _ _ h, mU_nf _ _ _ _ h, mU_nf _ _ _ _ h]
theorem mI_lets {M : Nat → Nat → Int} (hI : mI M) (pe sy fe nn sd : Int) : mI (f_lets M pe sy fe nn sd) := by
  unfold f_lets
  split
  · exact hI
  · rename_i q1
    split
    · exact hI
    · rename_i q2
      have g1 : s_lok M pe sy fe nn sd := Classical.not_not.mp q1
      have g2 : s_lgo M pe sy fe nn := Classical.not_not.mp q2
      have nw := mI_now hI
      have h1 := mI_lt1 hI (fe := fe) (nn := nn) (by omega) (by omega)
      have n1 := mI_now h1
      have e5 : f_lt1 M fe nn 5 = M 5 := (f_know_o M (f := 5) (by decide) (by decide) ▸ mU_f19 _ _ _ 5 (by decide))
      have e50 := congrFun e5 0
      have kn := mI_kn h1 (k := sy) (by omega)
      have k1 := mI_k1 h1 (k := sy) (by omega)
      have sb : 0 ≤ s_lst M pe sy fe nn sd ∧ s_lst M pe sy fe nn sd < 64 := s_hearers_bd _ _ _ (by omega)
      have zo := zor_lt (k := 6) (a := f_lt1 M fe nn 19 (Int.toNat (6 + sy))) (b := s_lst M pe sy fe nn sd) (by omega) (by omega)
      have zg := zor_ge (a := f_lt1 M fe nn 19 (Int.toNat (6 + sy))) (b := s_lst M pe sy fe nn sd) (by omega)
      have h2 : mI (f_lt2 M pe sy fe nn sd) := mI_now19 h1 (mU_f19 _ _ _) (vI_kn (mI_v h1) rfl (by omega) (by omega) (by omega))
      have n2 := mI_now h2
      have e52 : f_lt2 M pe sy fe nn sd 5 0 = M 5 0 := (congrFun (mU_f19 _ _ _ 5 (by decide)) 0).trans e50
      split
      · rename_i q3
        have sp : 0 ≤ s_lsp M pe sy fe nn sd ∧ s_lsp M pe sy fe nn sd ≤ 30 := by
          have a := s_land_bd (f_lt1 M fe nn 3 (Int.toNat pe)) (f_lt1 M fe nn 7 (Int.toNat sy)) (f_lt1 M fe nn 6 (Int.toNat sy)) (f_lt1 M fe nn 19 1) fe nn sd (s_wind (f_lt1 M fe nn) 0)
          have b := s_land_or (f_lt1 M fe nn 3 (Int.toNat pe)) (f_lt1 M fe nn 7 (Int.toNat sy)) (f_lt1 M fe nn 6 (Int.toNat sy)) (f_lt1 M fe nn 19 1) fe nn sd (s_wind (f_lt1 M fe nn) 0)
          have c : s_lsp M pe sy fe nn sd = s_land (f_lt1 M fe nn 3 (Int.toNat pe)) (f_lt1 M fe nn 7 (Int.toNat sy)) (f_lt1 M fe nn 6 (Int.toNat sy)) (f_lt1 M fe nn 19 1) fe nn sd (s_wind (f_lt1 M fe nn) 0) := rfl
          omega
        split
        · rename_i q4
          have h3 := mI_take h2 (ii := 0) (by omega)
          have n3 := mI_now h3
          have t12 := f_take_12 (f_lt2 M pe sy fe nn sd) 0
          have t5 := congrFun (f_take_o (f_lt2 M pe sy fe nn sd) 0 (f := 5) (by decide)) 0
          exact mI_now19 h3 (fun f hf => f_lt3_o _ _ _ hf) (vI_add (mI_v h3) (by omega) (by omega) sp (by omega))
        · exact mI_now19 h2 (fun f hf => f_lt3_o _ _ _ hf) (vI_add (mI_v h2) (by omega) (by omega) sp (by omega))
      · exact h2
