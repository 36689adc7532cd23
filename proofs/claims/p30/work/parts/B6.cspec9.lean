/-! The class's reader: tokens. -/
def k_sort (V : Nat → Nat → Int) (i : Int) : Int := if V 2 1 ≤ i then 0 else if 97 ≤ V 1 (Int.toNat i) ∧ V 1 (Int.toNat i) ≤ 122 then 1 else if 48 ≤ V 1 (Int.toNat i) ∧ V 1 (Int.toNat i) ≤ 57 then 2 else if V 1 (Int.toNat i) = 59 then 3 else 4
theorem k_sort_bd (V : Nat → Nat → Int) (i : Int) : 0 ≤ k_sort V i ∧ k_sort V i ≤ 4 := by unfold k_sort; omega
theorem k_sort_lt (V : Nat → Nat → Int) (i : Int) : ¬ k_sort V i = 0 → i < V 2 1 := by unfold k_sort; omega
abbrev k_by (V : Nat → Nat → Int) : Prop := ∀ k : Nat, k < 120 → 0 ≤ V 1 k ∧ V 1 k ≤ 255
/-- what holds while the text is read -/
def rdH (V : Nat → Nat → Int) : Prop := (0 ≤ V 2 1 ∧ V 2 1 ≤ 120) ∧ (0 ≤ V 2 2 ∧ V 2 2 ≤ V 2 1) ∧ k_by V
def rdS (V : Nat → Nat → Int) : Prop := (0 ≤ V 2 1 ∧ V 2 1 ≤ 120) ∧ (0 ≤ V 2 2 ∧ V 2 2 ≤ V 2 1) ∧ (0 ≤ V 2 4 ∧ V 2 4 ≤ V 2 2) ∧ (0 ≤ V 2 3 ∧ V 2 3 ≤ 4) ∧ k_by V
def rdI (V : Nat → Nat → Int) : Prop := rdS V ∧ (V 2 3 = 1 ∨ V 2 3 = 2 → 0 ≤ V 2 5 ∧ V 2 5 ≤ 255)
theorem rdS.h {V : Nat → Nat → Int} (h : rdS V) : rdH V := ⟨h.1, h.2.1, h.2.2.2.2⟩
def k_le (V : Nat → Nat → Int) : Int := z_run (fun q => decide (k_sort V q = 1)) (Int.toNat (121 - V 2 2)) (V 2 2)
def f_sol (V : Nat → Nat → Int) : Nat → Nat → Int := mU (mU V 2 2 (k_le V)) 2 5 (if k_le V - V 2 4 = 1 then V 1 (Int.toNat (V 2 4)) else 0)
def k_de (V : Nat → Nat → Int) : Int := z_run (fun q => decide (k_sort V q = 2)) (Int.toNat (121 - V 2 2)) (V 2 2)
def k_val (V : Nat → Nat → Int) : Nat → Int → Int → Int
  | 0, _, v => v
  | f + 1, i, v => if k_sort V i = 2 then k_val V f (i + 1) (if v * 10 + V 1 (Int.toNat i) - 48 < 100 then v * 10 + V 1 (Int.toNat i) - 48 else 100) else v
theorem k_val_step (V : Nat → Nat → Int) {N i : Int} (v : Int) (h : i < N) : k_val V (N - i).toNat i v = if k_sort V i = 2 then k_val V (N - (i + 1)).toNat (i + 1) (if v * 10 + V 1 (Int.toNat i) - 48 < 100 then v * 10 + V 1 (Int.toNat i) - 48 else 100) else v := by
  obtain ⟨k, hk⟩ : ∃ k : Nat, (N - i).toNat = k + 1 := ⟨(N - i - 1).toNat, by omega⟩
  have e : (N - (i + 1)).toNat = k := by omega
  rw [hk, e]
  rfl
theorem k_sort_2 {V : Nat → Nat → Int} {i : Int} (h : k_sort V i = 2) : i < V 2 1 ∧ 48 ≤ V 1 (Int.toNat i) ∧ V 1 (Int.toNat i) ≤ 57 := by unfold k_sort at h; omega
theorem k_val_bd (V : Nat → Nat → Int) : ∀ (n : Nat) (i v : Int), (0 ≤ v ∧ v ≤ 100) → 0 ≤ k_val V n i v ∧ k_val V n i v ≤ 100
  | 0, _, _, h => h
  | n + 1, i, v, h => by
    simp only [k_val]
    split
    · rename_i q
      have q2 := k_sort_2 q
      exact k_val_bd V n (i + 1) _ (by omega)
    · exact h
def k_dv (V : Nat → Nat → Int) : Int := k_val V (Int.toNat (121 - V 2 2)) (V 2 2) 0
def f_sod (V : Nat → Nat → Int) : Nat → Nat → Int := if 99 < k_dv V ∨ (V 1 (Int.toNat (V 2 4)) = 48 ∧ 1 < k_de V - V 2 4) then mU (mU (mU V 2 5 (k_dv V)) 2 2 (k_de V)) 2 3 4 else mU (mU V 2 5 (k_dv V)) 2 2 (k_de V)
def k_a1 (V : Nat → Nat → Int) : Int := z_run (fun q => decide (q < V 2 1 ∧ V 1 (Int.toNat q) = 32)) (Int.toNat (121 - V 2 2)) (V 2 2)
def k_at (V : Nat → Nat → Int) : Nat → Nat → Int := mU (mU (mU V 2 2 (k_a1 V)) 2 4 (k_a1 V)) 2 3 (k_sort V (k_a1 V))
def f_kst (V : Nat → Nat → Int) : Nat → Nat → Int := if k_sort V (k_a1 V) = 1 then f_sol (k_at V) else if k_sort V (k_a1 V) = 2 then f_sod (k_at V) else if k_sort V (k_a1 V) = 0 then k_at V else mU (k_at V) 2 2 (k_a1 V + 1)
theorem k_a1_bd {V : Nat → Nat → Int} (h : V 2 2 ≤ V 2 1) : V 2 2 ≤ k_a1 V ∧ k_a1 V ≤ V 2 1 := z_run_bd (fun i hi => (of_decide_eq_true hi).1) _ _ h
theorem k_le_bd {V : Nat → Nat → Int} (h : V 2 2 ≤ V 2 1) : V 2 2 ≤ k_le V ∧ k_le V ≤ V 2 1 := z_run_bd (fun i hi => k_sort_lt V i (by have := of_decide_eq_true hi; omega)) _ _ h
theorem k_de_bd {V : Nat → Nat → Int} (h : V 2 2 ≤ V 2 1) : V 2 2 ≤ k_de V ∧ k_de V ≤ V 2 1 := z_run_bd (fun i hi => k_sort_lt V i (by have := of_decide_eq_true hi; omega)) _ _ h
theorem k_2k (V : Nat → Nat → Int) (k : Nat) (x : Int) {j : Nat} (h : j ≠ k) : mU V 2 k x 2 j = V 2 j := mU_ni _ _ _ _ h
theorem k_2s (V : Nat → Nat → Int) (k : Nat) (x : Int) (h : k ≠ 1) (i : Int) : k_sort (mU V 2 k x) i = k_sort V i := by
  unfold k_sort
  rw [k_2k V k x (show 1 ≠ k by omega), mU_or _ _ _ (show 1 ≠ 2 by decide)]
theorem rdI_sol {V : Nat → Nat → Int} (h : rdS V) : rdI (f_sol V) := by
  obtain ⟨h1, h2, h3, h4, h6⟩ := h
  have b := k_le_bd h2.2
  refine ⟨⟨h1, ⟨?_, ?_⟩, ⟨h3.1, ?_⟩, h4, h6⟩, fun _ => ?_⟩
  · show 0 ≤ k_le V; omega
  · show k_le V ≤ V 2 1; omega
  · show V 2 4 ≤ k_le V; omega
  · show 0 ≤ (if k_le V - V 2 4 = 1 then V 1 (Int.toNat (V 2 4)) else 0) ∧ (if k_le V - V 2 4 = 1 then V 1 (Int.toNat (V 2 4)) else 0) ≤ 255
    by_cases q : V 2 4 < 120
    · have := h6 (Int.toNat (V 2 4)) (by omega)
      omega
    · omega
theorem rdI_sod {V : Nat → Nat → Int} (h : rdS V) : rdI (f_sod V) := by
  obtain ⟨h1, h2, h3, h4, h6⟩ := h
  have b := k_de_bd h2.2
  have v : 0 ≤ k_dv V ∧ k_dv V ≤ 100 := k_val_bd V _ _ _ (by omega)
  unfold f_sod
  split
  · refine ⟨⟨h1, ⟨?_, ?_⟩, ⟨h3.1, ?_⟩, ⟨?_, ?_⟩, h6⟩, fun _ => ?_⟩
    · show 0 ≤ k_de V; omega
    · show k_de V ≤ V 2 1; omega
    · show V 2 4 ≤ k_de V; omega
    · show (0 : Int) ≤ 4; omega
    · show (4 : Int) ≤ 4; omega
    · show 0 ≤ k_dv V ∧ k_dv V ≤ 255; omega
  · refine ⟨⟨h1, ⟨?_, ?_⟩, ⟨h3.1, ?_⟩, h4, h6⟩, fun _ => ?_⟩
    · show 0 ≤ k_de V; omega
    · show k_de V ≤ V 2 1; omega
    · show V 2 4 ≤ k_de V; omega
    · show 0 ≤ k_dv V ∧ k_dv V ≤ 255; omega
theorem rdS_at {V : Nat → Nat → Int} (h : rdH V) : rdS (k_at V) := by
  obtain ⟨h1, h2, h3⟩ := h
  have b := k_a1_bd h2.2
  have s := k_sort_bd V (k_a1 V)
  refine ⟨h1, ⟨?_, ?_⟩, ⟨?_, ?_⟩, ⟨?_, ?_⟩, h3⟩
  · show 0 ≤ k_a1 V; omega
  · show k_a1 V ≤ V 2 1; omega
  · show 0 ≤ k_a1 V; omega
  · show k_a1 V ≤ k_a1 V; omega
  · show 0 ≤ k_sort V (k_a1 V); omega
  · show k_sort V (k_a1 V) ≤ 4; omega
theorem rdI_kst {V : Nat → Nat → Int} (h : rdH V) : rdI (f_kst V) := by
  have a := rdS_at h
  obtain ⟨h1, h2, h3⟩ := id h
  have b := k_a1_bd h2.2
  have s := k_sort_bd V (k_a1 V)
  have sl := k_sort_lt V (k_a1 V)
  unfold f_kst
  split
  · exact rdI_sol a
  · split
    · exact rdI_sod a
    · split
      · rename_i e1 e2 e3
        refine ⟨a, fun z => ?_⟩
        have e : k_at V 2 3 = k_sort V (k_a1 V) := rfl
        omega
      · rename_i e1 e2 e3
        refine ⟨⟨h1, ⟨?_, ?_⟩, ⟨?_, ?_⟩, ⟨s.1, s.2⟩, h3⟩, fun z => ?_⟩
        · show 0 ≤ k_a1 V + 1; omega
        · show k_a1 V + 1 ≤ V 2 1; omega
        · show 0 ≤ k_a1 V; omega
        · show k_a1 V ≤ k_a1 V + 1; omega
        · have e : mU (k_at V) 2 2 (k_a1 V + 1) 2 3 = k_sort V (k_a1 V) := rfl
          omega
abbrev k_nok (V : Nat → Nat → Int) (lo hi : Int) : Prop := V 2 3 = 2 ∧ lo ≤ V 2 5 ∧ V 2 5 ≤ hi
def k_num (V : Nat → Nat → Int) (lo hi : Int) : Int := if k_nok V lo hi then V 2 5 else -1
def f_knum (V : Nat → Nat → Int) (lo hi : Int) : Nat → Nat → Int := if k_nok V lo hi then f_kst V else V
def f_ksem (V : Nat → Nat → Int) : Nat → Nat → Int := if V 2 3 = 3 then f_kst V else V
theorem rdI_knum {V : Nat → Nat → Int} (h : rdI V) (lo hi : Int) : rdI (f_knum V lo hi) := by
  unfold f_knum
  split
  · exact rdI_kst h.1.h
  · exact h
theorem rdI_ksem {V : Nat → Nat → Int} (h : rdI V) : rdI (f_ksem V) := by
  unfold f_ksem
  split
  · exact rdI_kst h.1.h
  · exact h
theorem k_num_bd {V : Nat → Nat → Int} (lo hi : Int) (h : 0 ≤ lo) : k_num V lo hi = -1 ∨ (lo ≤ k_num V lo hi ∧ k_num V lo hi ≤ hi) := by
  unfold k_num
  split
  · rename_i q
    exact Or.inr q.2
  · exact Or.inl rfl
theorem f_kst_o (V : Nat → Nat → Int) (g : Nat) (h : g ≠ 2) : f_kst V g = V g := by
  have e : k_at V g = V g := by unfold k_at; rw [mU_or _ _ _ h, mU_or _ _ _ h, mU_or _ _ _ h]
  unfold f_kst
  split
  · unfold f_sol; rw [mU_or _ _ _ h, mU_or _ _ _ h]; exact e
  · split
    · unfold f_sod
      split
      · rw [mU_or _ _ _ h, mU_or _ _ _ h, mU_or _ _ _ h]; exact e
      · rw [mU_or _ _ _ h, mU_or _ _ _ h]; exact e
    · split
      · exact e
      · rw [mU_or _ _ _ h]; exact e
theorem f_knum_o (V : Nat → Nat → Int) (lo hi : Int) (g : Nat) (h : g ≠ 2) : f_knum V lo hi g = V g := by
  unfold f_knum
  split
  · exact f_kst_o V g h
  · rfl
theorem f_ksem_o (V : Nat → Nat → Int) (g : Nat) (h : g ≠ 2) : f_ksem V g = V g := by
  unfold f_ksem
  split
  · exact f_kst_o V g h
  · rfl
theorem sod_st {V W : Nat → Nat → Int} (h : W = mU (mU V 2 5 (W 2 5)) 2 2 (W 2 2)) (x y : Int) : mU (mU W 2 5 x) 2 2 y = mU (mU V 2 5 x) 2 2 y := by
  funext g j
  by_cases q2 : g = 2 ∧ j = 2
  · simp [mU, q2]
  · by_cases q5 : g = 2 ∧ j = 5
    · simp [mU, q5]
    · have e := congrFun (congrFun h g) j
      simp only [mU, if_neg q2, if_neg q5] at e ⊢
      exact e
