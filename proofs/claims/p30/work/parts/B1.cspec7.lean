/-! What to ask for next, as the class counts it. -/
theorem cI_14 {V W : Nat → Nat → Int} (hI : cI V) (h : ∀ g, g ≠ 14 → W g = V g) : cI W := hI.of (by rw [h 0 (by decide)]) (by rw [h 0 (by decide)]) (by rw [h 0 (by decide)]) (fun g hg => h g (by omega))
theorem c_n14 {V W : Nat → Nat → Int} (hT : isTo (Int.toNat (V 0 3))) (h : ∀ g, g ≠ 14 → W g = V g) (k : Nat) : W (Int.toNat (W 0 3)) k = V (Int.toNat (V 0 3)) k := by
  unfold isTo at hT
  rw [h 0 (by decide), h _ (by omega)]
/-- at how many places a saying of one may land -/
def c_bn (V : Nat → Nat → Int) (pe sy : Int) : Int := zbc (c_lgs V pe sy (c_wind V 0) (V 39 1))
theorem c_bn_14 {V W : Nat → Nat → Int} (hT : isTo (Int.toNat (V 0 3))) (h : ∀ g, g ≠ 14 → W g = V g) (pe sy : Int) : c_bn W pe sy = c_bn V pe sy := by
  unfold isTo at hT
  simp only [c_bn, c_lgs, c_wind]
  rw [h 0 (by decide), h 39 (by decide), h (Int.toNat (V 0 3)) (by omega), h (Int.toNat (V 0 3) + 1) (by omega), h (Int.toNat (V 0 3) + 3) (by omega), h (Int.toNat (V 0 3) + 4) (by omega), h (Int.toNat (V 0 3) + 6) (by omega)]
def f_mlN (V : Nat → Nat → Int) (sy : Int) : Nat → (Nat → Nat → Int)
  | 0 => V
  | n + 1 => mU (f_mlN V sy n) 14 n (c_bn V (n : Int) sy)
theorem f_mlN_succ (V : Nat → Nat → Int) (sy : Int) {k : Int} (h : 0 ≤ k) : f_mlN V sy (Int.toNat (k + 1)) = mU (f_mlN V sy (Int.toNat k)) 14 (Int.toNat k) (c_bn V k sy) := by
  rw [show Int.toNat (k + 1) = Int.toNat k + 1 by omega]
  simp only [f_mlN]
  rw [show ((Int.toNat k : Nat) : Int) = k by omega]
theorem f_mlN_o (V : Nat → Nat → Int) (sy : Int) : ∀ (n : Nat) (g : Nat), g ≠ 14 → f_mlN V sy n g = V g
  | 0, _, _ => rfl
  | n + 1, g, h => by
    show mU (f_mlN V sy n) 14 n _ g = _
    rw [mU_or _ _ _ h]; exact f_mlN_o V sy n g h
def c_i32 (x : Int) : Prop := -2147483648 ≤ x ∧ x < 2147483648
theorem f_mlN_bd (V : Nat → Nat → Int) (sy : Int) : ∀ (n : Nat) (k : Nat), k < n → c_i32 (f_mlN V sy n 14 k)
  | 0, _, h => absurd h (by omega)
  | n + 1, k, h => by
    show c_i32 (mU (f_mlN V sy n) 14 n (c_bn V (n : Int) sy) 14 k)
    by_cases e : k = n
    · rw [e, mU_eq]; exact zbc_bd _
    · rw [mU_ni _ _ _ _ e]; exact f_mlN_bd V sy n k (by omega)
def f_mo (V : Nat → Nat → Int) (sy : Int) : Nat → Nat → Int := f_mlN V sy (Int.toNat (V (Int.toNat (V 0 3)) 7))
abbrev c_14ok (V : Nat → Nat → Int) : Prop := ∀ k : Nat, (k : Int) < V (Int.toNat (V 0 3)) 7 → c_i32 (V 14 k)
def c_hmN (r : Nat → Int) (ps x : Int) : Nat → Int
  | 0 => 0
  | n + 1 => if ps / zp (n : Int) % 2 = 1 ∧ r n = x then c_hmN r ps x n + 1 else c_hmN r ps x n
theorem c_hmN_succ (r : Nat → Int) (ps x : Int) {k : Int} (h : 0 ≤ k) : c_hmN r ps x (Int.toNat (k + 1)) = if ps / zp k % 2 = 1 ∧ r (Int.toNat k) = x then c_hmN r ps x (Int.toNat k) + 1 else c_hmN r ps x (Int.toNat k) := by
  rw [show Int.toNat (k + 1) = Int.toNat k + 1 by omega]
  simp only [c_hmN]
  rw [show ((Int.toNat k : Nat) : Int) = k by omega]
theorem c_hmN_bd (r : Nat → Int) (ps x : Int) : ∀ n : Nat, 0 ≤ c_hmN r ps x n ∧ c_hmN r ps x n ≤ n
  | 0 => by simp [c_hmN]
  | n + 1 => by
    have ih := c_hmN_bd r ps x n
    simp only [c_hmN]
    push_cast
    split <;> omega
def c_moN (r : Nat → Int) (ps : Int) (N : Nat) : Nat → Int
  | 0 => 0
  | n + 1 => if c_moN r ps N n < c_hmN r ps (r n) N then c_hmN r ps (r n) N else c_moN r ps N n
theorem c_moN_succ (r : Nat → Int) (ps : Int) (N : Nat) {k : Int} (h : 0 ≤ k) : c_moN r ps N (Int.toNat (k + 1)) = if c_moN r ps N (Int.toNat k) < c_hmN r ps (r (Int.toNat k)) N then c_hmN r ps (r (Int.toNat k)) N else c_moN r ps N (Int.toNat k) := by
  rw [show Int.toNat (k + 1) = Int.toNat k + 1 by omega]; rfl
theorem c_moN_bd (r : Nat → Int) (ps : Int) {N : Nat} (hN : N ≤ 6) : ∀ n : Nat, 0 ≤ c_moN r ps N n ∧ c_moN r ps N n ≤ 6
  | 0 => by simp [c_moN]
  | n + 1 => by
    have ih := c_moN_bd r ps hN n
    have q := c_hmN_bd r ps (r n) N
    simp only [c_moN]
    split <;> omega
/-- what asking has written, and what it has found -/
def f_as (V : Nat → Nat → Int) : Nat → (Nat → Nat → Int)
  | 0 => V
  | n + 1 => f_mo (f_as V n) (n : Int)
theorem f_as_succ (V : Nat → Nat → Int) {k : Int} (h : 0 ≤ k) : f_as V (Int.toNat (k + 1)) = f_mo (f_as V (Int.toNat k)) k := by
  rw [show Int.toNat (k + 1) = Int.toNat k + 1 by omega]
  simp only [f_as]
  rw [show ((Int.toNat k : Nat) : Int) = k by omega]
theorem f_as_o (V : Nat → Nat → Int) : ∀ (n : Nat) (g : Nat), g ≠ 14 → f_as V n g = V g
  | 0, _, _ => rfl
  | n + 1, g, h => by
    show f_mlN (f_as V n) _ _ g = _
    rw [f_mlN_o _ _ _ g h]; exact f_as_o V n g h
def c_mo (W : Nat → Nat → Int) (ps : Int) : Int := c_moN (W 14) ps (Int.toNat (W (Int.toNat (W 0 3)) 7)) (Int.toNat (W (Int.toNat (W 0 3)) 7))
def c_asN (V : Nat → Nat → Int) (ws : Int) : Nat → Int × Int
  | 0 => (-9, 7)
  | n + 1 => if c_mo (f_as V (n + 1)) ws < (c_asN V ws n).2 then ((n : Int), c_mo (f_as V (n + 1)) ws) else c_asN V ws n
theorem c_asN_succ (V : Nat → Nat → Int) (ws : Int) {k : Int} (h : 0 ≤ k) : c_asN V ws (Int.toNat (k + 1)) = if c_mo (f_as V (Int.toNat (k + 1))) ws < (c_asN V ws (Int.toNat k)).2 then (k, c_mo (f_as V (Int.toNat (k + 1))) ws) else c_asN V ws (Int.toNat k) := by
  rw [show Int.toNat (k + 1) = Int.toNat k + 1 by omega]
  simp only [c_asN]
  rw [show ((Int.toNat k : Nat) : Int) = k by omega]
def c_ask (V : Nat → Nat → Int) : Int := if zbc (c_suN V (Int.toNat (V (Int.toNat (V 0 3)) 7))) < 2 then -9 else (c_asN V (c_suN V (Int.toNat (V (Int.toNat (V 0 3)) 7))) (Int.toNat (V (Int.toNat (V 0 3)) 8))).1
def f_ask (V : Nat → Nat → Int) : Nat → Nat → Int := if zbc (c_suN V (Int.toNat (V (Int.toNat (V 0 3)) 7))) < 2 then V else f_as V (Int.toNat (V (Int.toNat (V 0 3)) 8))
theorem f_ask_o (V : Nat → Nat → Int) (g : Nat) (h : g ≠ 14) : f_ask V g = V g := by
  unfold f_ask
  split
  · rfl
  · exact f_as_o V _ g h
