/-! Bounds of the class's state, and more that its methods answer. -/
def toI (V : Nat → Nat → Int) (i : Nat) : Prop := (0 ≤ V i 7 ∧ V i 7 ≤ 6) ∧ (0 ≤ V i 8 ∧ V i 8 ≤ 6) ∧ (0 ≤ V i 9 ∧ V i 9 ≤ 6) ∧ (∀ k : Nat, (k : Int) < V i 7 → (0 ≤ V (i + 1) k ∧ V (i + 1) k ≤ 30) ∧ (0 ≤ V (i + 2) k ∧ V (i + 2) k ≤ 5)) ∧ (∀ k : Nat, (k : Int) < V i 8 → (1 ≤ V (i + 3) k ∧ V (i + 3) k ≤ 9) ∧ (0 ≤ V (i + 4) k ∧ V (i + 4) k ≤ 3) ∧ (0 ≤ V (i + 5) k ∧ V (i + 5) k < V i 7)) ∧ (∀ k : Nat, (k : Int) < (if 1 < V i 9 then V i 9 else 1) → -4 ≤ V (i + 6) k ∧ V (i + 6) k ≤ 4)
theorem toI.now {V : Nat → Nat → Int} {i : Nat} (h : toI V i) : (0 ≤ V i 7 ∧ V i 7 ≤ 6) ∧ (0 ≤ V i 8 ∧ V i 8 ≤ 6) ∧ (0 ≤ V i 9 ∧ V i 9 ≤ 6) := ⟨h.1, h.2.1, h.2.2.1⟩
theorem toI.pe {V : Nat → Nat → Int} {i : Nat} (h : toI V i) {k : Int} (hk : 0 ≤ k ∧ k < V i 7) : (0 ≤ V (i + 1) (Int.toNat k) ∧ V (i + 1) (Int.toNat k) ≤ 30) ∧ (0 ≤ V (i + 2) (Int.toNat k) ∧ V (i + 2) (Int.toNat k) ≤ 5) := h.2.2.2.1 _ (by omega)
theorem toI.sy {V : Nat → Nat → Int} {i : Nat} (h : toI V i) {k : Int} (hk : 0 ≤ k ∧ k < V i 8) : (1 ≤ V (i + 3) (Int.toNat k) ∧ V (i + 3) (Int.toNat k) ≤ 9) ∧ (0 ≤ V (i + 4) (Int.toNat k) ∧ V (i + 4) (Int.toNat k) ≤ 3) ∧ (0 ≤ V (i + 5) (Int.toNat k) ∧ V (i + 5) (Int.toNat k) < V i 7) := h.2.2.2.2.1 _ (by omega)
theorem toI.wi {V : Nat → Nat → Int} {i : Nat} (h : toI V i) {k : Int} (hk : 0 ≤ k ∧ k < (if 1 < V i 9 then V i 9 else 1)) : -4 ≤ V (i + 6) (Int.toNat k) ∧ V (i + 6) (Int.toNat k) ≤ 4 := h.2.2.2.2.2 _ (by omega)
def moI (V : Nat → Nat → Int) (i : Nat) : Prop := (0 ≤ V i 0 ∧ V i 0 ≤ 999) ∧ (0 ≤ V i 1 ∧ V i 1 ≤ 5) ∧ (0 ≤ V i 2 ∧ V i 2 ≤ 8) ∧ (∀ k : Nat, k < 4 → 0 ≤ V (i + 1) k ∧ V (i + 1) k ≤ 20) ∧ (∀ k : Nat, k < 6 → 0 ≤ V (i + 2) k ∧ V (i + 2) k < 64) ∧ (∀ k : Nat, (k : Int) < V i 2 → (0 ≤ V (i + 3) k ∧ V (i + 3) k < 6) ∧ (0 ≤ V (i + 4) k ∧ V (i + 4) k ≤ 30))
theorem moI.now {V : Nat → Nat → Int} {i : Nat} (h : moI V i) : (0 ≤ V i 0 ∧ V i 0 ≤ 999) ∧ (0 ≤ V i 1 ∧ V i 1 ≤ 5) ∧ (0 ≤ V i 2 ∧ V i 2 ≤ 8) := ⟨h.1, h.2.1, h.2.2.1⟩
theorem moI.fe {V : Nat → Nat → Int} {i : Nat} (h : moI V i) {k : Int} (hk : 0 ≤ k ∧ k < 4) : 0 ≤ V (i + 1) (Int.toNat k) ∧ V (i + 1) (Int.toNat k) ≤ 20 := h.2.2.2.1 _ (by omega)
theorem moI.kn {V : Nat → Nat → Int} {i : Nat} (h : moI V i) {k : Int} (hk : 0 ≤ k ∧ k < 6) : 0 ≤ V (i + 2) (Int.toNat k) ∧ V (i + 2) (Int.toNat k) < 64 := h.2.2.2.2.1 _ (by omega)
theorem moI.st {V : Nat → Nat → Int} {i : Nat} (h : moI V i) {k : Int} (hk : 0 ≤ k ∧ k < V i 2) : (0 ≤ V (i + 3) (Int.toNat k) ∧ V (i + 3) (Int.toNat k) < 6) ∧ (0 ≤ V (i + 4) (Int.toNat k) ∧ V (i + 4) (Int.toNat k) ≤ 30) := h.2.2.2.2.2 _ (by omega)
theorem cLif_eq {fe : Int} (h : 0 ≤ fe ∧ fe ≤ 3) : cLif (Int.toNat fe) = s_lift fe := by
  rcases (show fe = 0 ∨ fe = 1 ∨ fe = 2 ∨ fe = 3 by omega) with rfl | rfl | rfl | rfl <;> rfl
theorem s_fly_bd (tw we dm fe nn : Int) (h1 : 0 ≤ tw ∧ tw ≤ 3) (h2 : 1 ≤ we ∧ we ≤ 9) (h3 : 0 ≤ dm ∧ dm ≤ 5) (h4 : 0 ≤ nn ∧ nn ≤ 3) : 0 ≤ s_fly tw we dm fe nn ∧ s_fly tw we dm fe nn ≤ 30 := by
  have := s_lift_mul fe h4
  unfold s_fly
  (repeat' split) <;> omega
theorem zor_0 {a : Int} (h : 0 ≤ a) : zor a 0 = a := by
  unfold zor
  simp
  omega
theorem cKin_26 : ∀ k : Fin 26, (0 ≤ cKin k.1 ∧ cKin k.1 / 100 ≤ 3 ∧ cKin k.1 / 10 % 10 ≤ 3 ∧ cKin k.1 % 10 ≤ 1) ∧ cKin k.1 ≤ 331 := by decide +kernel
theorem cKin_ok {k : Int} (h : 0 ≤ k ∧ k < 26) : (0 ≤ cKin (Int.toNat k) ∧ cKin (Int.toNat k) / 100 ≤ 3 ∧ cKin (Int.toNat k) / 10 % 10 ≤ 3 ∧ cKin (Int.toNat k) % 10 ≤ 1) ∧ cKin (Int.toNat k) ≤ 331 := cKin_26 ⟨Int.toNat k, by omega⟩
theorem cMan_26 : ∀ k : Fin 26, (0 ≤ cMan k.1 ∧ cMan k.1 / 100 ≤ 3 ∧ cMan k.1 / 10 % 10 ≤ 3 ∧ cMan k.1 % 10 ≤ 1) ∧ cMan k.1 ≤ 331 := by decide +kernel
theorem cMan_ok {k : Int} (h : 0 ≤ k ∧ k < 26) : (0 ≤ cMan (Int.toNat k) ∧ cMan (Int.toNat k) / 100 ≤ 3 ∧ cMan (Int.toNat k) / 10 % 10 ≤ 3 ∧ cMan (Int.toNat k) % 10 ≤ 1) ∧ cMan (Int.toNat k) ≤ 331 := cMan_26 ⟨Int.toNat k, by omega⟩
def s_lgN (f : Int → Int) : Nat → Int
  | 0 => 0
  | k + 1 => if f (cKin k) = -9 then s_lgN f k else zor (s_lgN f k) (zp (f (cKin k)))
theorem s_lgN_succ (f : Int → Int) {k : Int} (h : 0 ≤ k) : s_lgN f (Int.toNat (k + 1)) = if f (cKin (Int.toNat k)) = -9 then s_lgN f (Int.toNat k) else zor (s_lgN f (Int.toNat k)) (zp (f (cKin (Int.toNat k)))) := by
  rw [show Int.toNat (k + 1) = Int.toNat k + 1 by omega]; rfl
theorem s_lgN_nn (f : Int → Int) : ∀ k : Nat, 0 ≤ s_lgN f k
  | 0 => Int.le_refl _
  | k + 1 => by
    simp only [s_lgN]
    split
    · exact s_lgN_nn f k
    · exact zor_nn _ _
def s_wkN (kn : Nat → Int) (sy : Int) : Nat → Int
  | 0 => 0
  | k + 1 => if kn k / zp sy % 2 = 1 then zor (s_wkN kn sy k) (zp (k : Int)) else s_wkN kn sy k
theorem s_wkN_succ (kn : Nat → Int) (sy : Int) {k : Int} (h : 0 ≤ k) : s_wkN kn sy (Int.toNat (k + 1)) = if kn (Int.toNat k) / zp sy % 2 = 1 then zor (s_wkN kn sy (Int.toNat k)) (zp k) else s_wkN kn sy (Int.toNat k) := by
  rw [show Int.toNat (k + 1) = Int.toNat k + 1 by omega]
  show (if _ then zor _ (zp ((Int.toNat k : Nat) : Int)) else _) = _
  rw [show ((Int.toNat k : Nat) : Int) = k by omega]
theorem s_wkN_nn (kn : Nat → Int) (sy : Int) : ∀ k : Nat, 0 ≤ s_wkN kn sy k
  | 0 => Int.le_refl _
  | k + 1 => by
    simp only [s_wkN]
    split
    · exact zor_nn _ _
    · exact s_wkN_nn kn sy k
theorem s_wkN_lt (kn : Nat → Int) (sy : Int) : ∀ k : Nat, k ≤ 6 → s_wkN kn sy k < 64
  | 0, _ => by show (0 : Int) < 64; decide
  | k + 1, h => by
    have ih := s_wkN_lt kn sy k (by omega)
    have i2 := s_wkN_nn kn sy k
    simp only [s_wkN]
    split
    · have q : zp (k : Int) < 64 := by
        have : k < 6 := by omega
        rcases (show k = 0 ∨ k = 1 ∨ k = 2 ∨ k = 3 ∨ k = 4 ∨ k = 5 by omega) with rfl | rfl | rfl | rfl | rfl | rfl <;> decide
      exact (zor_lt (k := 6) ⟨i2, by omega⟩ ⟨zp_nn _, by omega⟩).2
    · exact ih
theorem s_wkN_bd (kn : Nat → Int) (sy : Int) : 0 ≤ s_wkN kn sy 6 ∧ s_wkN kn sy 6 < 64 := ⟨s_wkN_nn kn sy 6, s_wkN_lt kn sy 6 (by omega)⟩
def s_sumN (f : Nat → Int) : Nat → Int
  | 0 => 0
  | k + 1 => s_sumN f k + f k
theorem s_sumN_succ (f : Nat → Int) {k : Int} (h : 0 ≤ k) : s_sumN f (Int.toNat (k + 1)) = s_sumN f (Int.toNat k) + f (Int.toNat k) := by
  rw [show Int.toNat (k + 1) = Int.toNat k + 1 by omega]; rfl
theorem s_sumN_4 (f : Nat → Int) : s_sumN f 4 = f 0 + f 1 + f 2 + f 3 := by
  show 0 + f 0 + f 1 + f 2 + f 3 = _
  omega
/-- a stray is taken away, one is added -/
def f_rmN (V : Nat → Nat → Int) (i : Nat) (ii : Int) (n : Nat) : Nat → Nat → Int := fun g k => if (g = i + 3 ∨ g = i + 4) ∧ ii ≤ (k : Int) ∧ k + 1 < n then V g (k + 1) else V g k
theorem f_rmN_0 (V : Nat → Nat → Int) (i : Nat) (ii : Int) : f_rmN V i ii (Int.toNat (ii + 1)) = V := by
  funext g k
  unfold f_rmN
  rw [if_neg (by omega)]
theorem f_rmN_i (V : Nat → Nat → Int) (i : Nat) (ii : Int) (n : Nat) : f_rmN V i ii n i 2 = V i 2 := by
  unfold f_rmN
  rw [if_neg (by omega)]
theorem f_rmN_rd (V : Nat → Nat → Int) (i : Nat) (ii : Int) {n g : Nat} (h : g = i + 3 ∨ g = i + 4) : f_rmN V i ii n g n = V g n := by
  unfold f_rmN
  rw [if_neg (by omega)]
theorem f_rmN_step (V : Nat → Nat → Int) (i : Nat) {ii n x y : Int} (h : 0 ≤ ii ∧ ii + 1 ≤ n) (hx : x = V (i + 3) (Int.toNat n)) (hy : y = V (i + 4) (Int.toNat n)) : mU (mU (f_rmN V i ii (Int.toNat n)) (i + 3) (Int.toNat (n - 1)) x) (i + 4) (Int.toNat (n - 1)) y = f_rmN V i ii (Int.toNat (n + 1)) := by
  have e1 : Int.toNat (n + 1) = Int.toNat n + 1 := by omega
  have e2 : Int.toNat n = Int.toNat (n - 1) + 1 := by omega
  have e3 : ii ≤ ((Int.toNat (n - 1) : Nat) : Int) := by omega
  rw [e1, hx, hy, e2]
  generalize Int.toNat (n - 1) = j at e3
  funext g k
  simp only [mU, f_rmN]
  by_cases q4 : g = i + 4 ∧ k = j
  · obtain ⟨rfl, rfl⟩ := q4
    rw [if_pos ⟨rfl, rfl⟩, if_pos ⟨Or.inr rfl, e3, by omega⟩]
  · rw [if_neg q4]
    by_cases q3 : g = i + 3 ∧ k = j
    · obtain ⟨rfl, rfl⟩ := q3
      rw [if_pos ⟨rfl, rfl⟩, if_pos ⟨Or.inl rfl, e3, by omega⟩]
    · rw [if_neg q3]
      by_cases q : (g = i + 3 ∨ g = i + 4) ∧ ii ≤ (k : Int) ∧ k + 1 < j + 1
      · rw [if_pos q, if_pos (by omega)]
      · rw [if_neg q, if_neg (by omega)]
def f_rmv (V : Nat → Nat → Int) (i : Nat) (ii : Int) : Nat → Nat → Int := mU (f_rmN V i ii (Int.toNat (V i 2))) i 2 (f_rmN V i ii (Int.toNat (V i 2)) i 2 - 1)
def f_ad1 (V : Nat → Nat → Int) (i : Nat) : Nat → Nat → Int := if 8 ≤ V i 2 then f_rmv V i 0 else V
theorem f_ad1_2 (V : Nat → Nat → Int) (i : Nat) (h : 0 ≤ V i 2 ∧ V i 2 ≤ 8) : 0 ≤ f_ad1 V i i 2 ∧ f_ad1 V i i 2 ≤ 7 := by
  unfold f_ad1
  by_cases q : 8 ≤ V i 2
  · rw [if_pos q]
    unfold f_rmv
    rw [mU_eq, f_rmN_i]; omega
  · rw [if_neg q]; omega
def f_ads (V : Nat → Nat → Int) (i : Nat) (sy sp : Int) : Nat → Nat → Int :=
  let W := f_ad1 V i
  let W1 := mU W (i + 3) (Int.toNat (W i 2)) sy
  let W2 := mU W1 (i + 4) (Int.toNat (W1 i 2)) sp
  mU W2 i 2 (W2 i 2 + 1)
def f_sad (V : Nat → Nat → Int) (sy sp wi dm : Int) : Nat → Nat → Int :=
  let W1 := mU V 5 (Int.toNat (V 4 4)) sy
  let W2 := mU W1 6 (Int.toNat (W1 4 4)) sp
  let W3 := mU W2 7 (Int.toNat (W2 4 4)) wi
  let W4 := mU W3 8 (Int.toNat (W3 4 4)) dm
  mU W4 4 4 (W4 4 4 + 1)
