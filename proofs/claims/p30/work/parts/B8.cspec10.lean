/-! The class's reader: items. -/
/-- what holds of the Told that is read into -/
def dtI (V : Nat → Nat → Int) (i : Nat) : Prop := (0 ≤ V i 7 ∧ V i 7 ≤ 6) ∧ (0 ≤ V i 8 ∧ V i 8 ≤ 6) ∧ (0 ≤ V i 9 ∧ V i 9 ≤ 6)
theorem dtI.of {V W : Nat → Nat → Int} {i : Nat} (h : dtI V i) (e : W i = V i) : dtI W i := by unfold dtI; rw [e]; exact h
theorem isTo.n2 {i : Nat} (h : isTo i) : i ≠ 2 := by unfold isTo at h; omega
-- one of the people
def o_pl (V : Nat → Nat → Int) : Int := k_num (f_kst V) 0 30
def f_o2 (V : Nat → Nat → Int) : Nat → Nat → Int := f_knum (f_kst V) 0 30
def o_er (V : Nat → Nat → Int) : Int := k_num (f_o2 V) 0 5
def f_o3 (V : Nat → Nat → Int) : Nat → Nat → Int := f_knum (f_o2 V) 0 5
def f_o5 (W : Nat → Nat → Int) (i : Nat) (x y : Int) : Nat → Nat → Int := mU (mU (mU W (i + 1) (Int.toNat (W i 7)) x) (i + 2) (Int.toNat (W i 7)) y) i 7 (W i 7 + 1)
def f_one (V : Nat → Nat → Int) (i : Nat) : Nat → Nat → Int := if 6 ≤ V i 7 then V else if o_pl V < 0 then f_o2 V else if o_er V < 0 then f_o3 V else if ¬ f_o3 V 2 3 = 3 then f_ksem (f_o3 V) else f_o5 (f_ksem (f_o3 V)) i (o_pl V) (o_er V)
def r_one (V : Nat → Nat → Int) (i : Nat) : Int := if V i 7 < 6 ∧ 0 ≤ o_pl V ∧ 0 ≤ o_er V ∧ f_o3 V 2 3 = 3 then 1 else 0
-- a saying
def y_we (V : Nat → Nat → Int) : Int := k_num (f_kst V) 1 9
def f_y2 (V : Nat → Nat → Int) : Nat → Nat → Int := f_knum (f_kst V) 1 9
def y_tw (V : Nat → Nat → Int) : Int := k_num (f_y2 V) 0 3
def f_y3 (V : Nat → Nat → Int) : Nat → Nat → Int := f_knum (f_y2 V) 0 3
def y_fi (V : Nat → Nat → Int) (i : Nat) : Int := k_num (f_y3 V) 0 (V i 7 - 1)
def f_y4 (V : Nat → Nat → Int) (i : Nat) : Nat → Nat → Int := f_knum (f_y3 V) 0 (V i 7 - 1)
def f_y6 (W : Nat → Nat → Int) (i : Nat) (x y z : Int) : Nat → Nat → Int := mU (mU (mU (mU W (i + 3) (Int.toNat (W i 8)) x) (i + 4) (Int.toNat (W i 8)) y) (i + 5) (Int.toNat (W i 8)) z) i 8 (W i 8 + 1)
def f_say (V : Nat → Nat → Int) (i : Nat) : Nat → Nat → Int := if 6 ≤ V i 8 then V else if y_we V < 0 then f_y2 V else if y_tw V < 0 then f_y3 V else if y_fi V i < 0 then f_y4 V i else if ¬ f_y4 V i 2 3 = 3 then f_ksem (f_y4 V i) else f_y6 (f_ksem (f_y4 V i)) i (y_we V) (y_tw V) (y_fi V i)
def r_say (V : Nat → Nat → Int) (i : Nat) : Int := if V i 8 < 6 ∧ 0 ≤ y_we V ∧ 0 ≤ y_tw V ∧ 0 ≤ y_fi V i ∧ f_y4 V i 2 3 = 3 then 1 else 0
-- feathers
def e_kd (V : Nat → Nat → Int) : Int := k_num (f_kst V) 0 3
def f_e2 (V : Nat → Nat → Int) : Nat → Nat → Int := f_knum (f_kst V) 0 3
def e_nn (V : Nat → Nat → Int) : Int := k_num (f_e2 V) 0 20
def f_e3 (V : Nat → Nat → Int) : Nat → Nat → Int := f_knum (f_e2 V) 0 20
def f_fea (V : Nat → Nat → Int) (i : Nat) : Nat → Nat → Int := if e_kd V < 0 then f_e2 V else if e_nn V < 0 then f_e3 V else if ¬ f_e3 V 2 3 = 3 then f_ksem (f_e3 V) else mU (f_ksem (f_e3 V)) (i + 7) (Int.toNat (e_kd V)) (e_nn V)
def r_fea (V : Nat → Nat → Int) : Int := if 0 ≤ e_kd V ∧ 0 ≤ e_nn V ∧ f_e3 V 2 3 = 3 then 1 else 0
-- winds
def f_w1 (K : Nat → Nat → Int) (i : Nat) (j : Int) : Nat → Nat → Int := mU (mU (f_knum K 0 8) (i + 6) (Int.toNat j) (k_num K 0 8 - 4)) i 9 (j + 1)
def f_wl (i : Nat) : Nat → Int → (Nat → Nat → Int) → (Nat → Nat → Int) × Int
  | 0, _, K => (f_ksem K, if K 2 3 = 3 then 1 else 0)
  | n + 1, j, K => if j = 0 ∨ ¬ K 2 3 = 3 then (if k_num K 0 8 < 0 then (f_knum K 0 8, 0) else f_wl i n (j + 1) (f_w1 K i j)) else (f_ksem K, if K 2 3 = 3 then 1 else 0)
theorem f_wl_step (i : Nat) {j : Int} (h : 0 ≤ j ∧ j < 6) (K : Nat → Nat → Int) : f_wl i (Int.toNat (6 - j)) j K = if j = 0 ∨ ¬ K 2 3 = 3 then (if k_num K 0 8 < 0 then (f_knum K 0 8, 0) else f_wl i (Int.toNat (6 - (j + 1))) (j + 1) (f_w1 K i j)) else (f_ksem K, if K 2 3 = 3 then 1 else 0) := by
  obtain ⟨k, hk⟩ : ∃ k : Nat, Int.toNat (6 - j) = k + 1 := ⟨Int.toNat (6 - j - 1), by omega⟩
  have e : Int.toNat (6 - (j + 1)) = k := by omega
  rw [hk, e]
  rfl
def x_win (V : Nat → Nat → Int) (i : Nat) : (Nat → Nat → Int) × Int := if 0 < V i 9 then (V, 0) else f_wl i (Int.toNat (6 - 0)) 0 (f_kst V)
-- an item
def x_itm (V : Nat → Nat → Int) (i : Nat) : (Nat → Nat → Int) × Int := if ¬ V 2 3 = 1 then (V, 0) else if V 2 5 = 112 then (f_one V i, r_one V i) else if V 2 5 = 115 then (f_say V i, r_say V i) else if V 2 5 = 119 then x_win V i else if V 2 5 = 102 then (f_fea V i, r_fea V) else (V, 0)
-- the text
def f_rl (i : Nat) : Nat → Int → (Nat → Nat → Int) → (Nat → Nat → Int) × Int
  | 0, n, K => (K, n)
  | f + 1, n, K => if K 2 3 = 0 then (K, n) else if (x_itm K i).2 = 0 then ((x_itm K i).1, -10 - (x_itm K i).1 2 4) else f_rl i f (n + 1) (x_itm K i).1
theorem f_rl_step (i : Nat) {n : Int} (h : 0 ≤ n ∧ n < 120) (K : Nat → Nat → Int) : f_rl i (Int.toNat (120 - n)) n K = if K 2 3 = 0 then (K, n) else if (x_itm K i).2 = 0 then ((x_itm K i).1, -10 - (x_itm K i).1 2 4) else f_rl i (Int.toNat (120 - (n + 1))) (n + 1) (x_itm K i).1 := by
  obtain ⟨k, hk⟩ : ∃ k : Nat, Int.toNat (120 - n) = k + 1 := ⟨Int.toNat (120 - n - 1), by omega⟩
  have e : Int.toNat (120 - (n + 1)) = k := by omega
  rw [hk, e]
  rfl
theorem k_num_p {V : Nat → Nat → Int} {lo hi : Int} (h0 : 0 ≤ lo) (h : 0 ≤ k_num V lo hi) : lo ≤ k_num V lo hi ∧ k_num V lo hi ≤ hi := by
  have := k_num_bd (V := V) lo hi h0
  omega
theorem f_o3_o (V : Nat → Nat → Int) {g : Nat} (h : g ≠ 2) : f_o3 V g = V g := by unfold f_o3 f_o2; rw [f_knum_o _ _ _ g h, f_knum_o _ _ _ g h, f_kst_o _ g h]
theorem f_y3_o (V : Nat → Nat → Int) {g : Nat} (h : g ≠ 2) : f_y3 V g = V g := by unfold f_y3 f_y2; rw [f_knum_o _ _ _ g h, f_knum_o _ _ _ g h, f_kst_o _ g h]
theorem f_y4_o (V : Nat → Nat → Int) (i : Nat) {g : Nat} (h : g ≠ 2) : f_y4 V i g = V g := by unfold f_y4; rw [f_knum_o _ _ _ g h, f_y3_o _ h]
theorem f_e3_o (V : Nat → Nat → Int) {g : Nat} (h : g ≠ 2) : f_e3 V g = V g := by unfold f_e3 f_e2; rw [f_knum_o _ _ _ g h, f_knum_o _ _ _ g h, f_kst_o _ g h]
theorem rdI.of {V W : Nat → Nat → Int} (h : rdI V) (e2 : W 2 = V 2) (e1 : W 1 = V 1) : rdI W := by
  unfold rdI rdS k_by
  rw [e2, e1]; exact h
theorem rdI.w6 {V W : Nat → Nat → Int} {to j : Nat} {x : Int} (ht : isTo to) (h : rdI V) (e : W = mU V (to + 6) j x) : rdI W := by
  unfold isTo at ht
  exact h.of (by rw [e, mU_or _ _ _ (by omega)]) (by rw [e, mU_or _ _ _ (by omega)])
theorem rdI.w9 {V W : Nat → Nat → Int} {to j : Nat} {x : Int} (ht : isTo to) (h : rdI V) (e : W = mU V to j x) : rdI W := by
  unfold isTo at ht
  exact h.of (by rw [e, mU_or _ _ _ (by omega)]) (by rw [e, mU_or _ _ _ (by omega)])
theorem r_one_b (V : Nat → Nat → Int) (i : Nat) : r_one V i = 0 ∨ r_one V i = 1 := by unfold r_one; split <;> simp
theorem r_say_b (V : Nat → Nat → Int) (i : Nat) : r_say V i = 0 ∨ r_say V i = 1 := by unfold r_say; split <;> simp
theorem r_fea_b (V : Nat → Nat → Int) : r_fea V = 0 ∨ r_fea V = 1 := by unfold r_fea; split <;> simp
theorem f_wl_b (i : Nat) : ∀ (n : Nat) (j : Int) (K : Nat → Nat → Int), (f_wl i n j K).2 = 0 ∨ (f_wl i n j K).2 = 1
  | 0, _, K => by simp only [f_wl]; split <;> simp
  | n + 1, j, K => by
    simp only [f_wl]
    split
    · split
      · simp
      · exact f_wl_b i n (j + 1) _
    · split <;> simp
theorem x_win_b (V : Nat → Nat → Int) (i : Nat) : (x_win V i).2 = 0 ∨ (x_win V i).2 = 1 := by
  unfold x_win
  split
  · simp
  · exact f_wl_b i _ _ _
theorem x_itm_b (V : Nat → Nat → Int) (i : Nat) : (x_itm V i).2 = 0 ∨ (x_itm V i).2 = 1 := by
  unfold x_itm
  split
  · simp
  · split
    · exact r_one_b V i
    · split
      · exact r_say_b V i
      · split
        · exact x_win_b V i
        · split
          · exact r_fea_b V
          · simp
