/-! Relay, as the class counts it. -/
theorem cI_13 {V W : Nat → Nat → Int} (hI : cI V) (h : ∀ g, g ≠ 13 → W g = V g) : cI W := hI.of (by rw [h 0 (by decide)]) (by rw [h 0 (by decide)]) (by rw [h 0 (by decide)]) (fun g hg => h g (by omega))
/-- by whom it can be heard whom one tells it, by the first n shots -/
def c_whN (V : Nat → Nat → Int) (pe sy : Int) : Nat → Int
  | 0 => 0
  | n + 1 => zor (c_whN V pe sy n) (c_heN V pe (c_la V pe sy (cKin n) (c_wind V 0)))
theorem c_whN_succ (V : Nat → Nat → Int) (pe sy : Int) {k : Int} (h : 0 ≤ k) : c_whN V pe sy (Int.toNat (k + 1)) = zor (c_whN V pe sy (Int.toNat k)) (c_heN V pe (c_la V pe sy (cKin (Int.toNat k)) (c_wind V 0))) := by
  rw [show Int.toNat (k + 1) = Int.toNat k + 1 by omega]; rfl
theorem c_whN_bd {V : Nat → Nat → Int} (h : 0 ≤ V (Int.toNat (V 0 3)) 7 ∧ V (Int.toNat (V 0 3)) 7 ≤ 6) (pe sy : Int) : ∀ n : Nat, 0 ≤ c_whN V pe sy n ∧ c_whN V pe sy n < 64
  | 0 => ⟨Int.le_refl _, by show (0 : Int) < 64; decide⟩
  | n + 1 => by
    have ih := c_whN_bd h pe sy n
    have q := c_heN_bd h pe (c_la V pe sy (cKin n) (c_wind V 0))
    exact zor_lt (k := 6) ⟨ih.1, ih.2⟩ ⟨q.1, q.2⟩
def c_who (V : Nat → Nat → Int) (pe sy : Int) : Int := c_whN V pe sy 26
theorem c_who_bd (V : Nat → Nat → Int) (pe sy : Int) (h : 0 ≤ V (Int.toNat (V 0 3)) 7 ∧ V (Int.toNat (V 0 3)) 7 ≤ 6) : 0 ≤ c_who V pe sy ∧ c_who V pe sy < 64 := c_whN_bd h pe sy 26
/-- the fewest in a row among those of a set -/
def c_fnN (r : Nat → Int) (ps : Int) : Nat → Int
  | 0 => 1000
  | n + 1 => if ps / zp (n : Int) % 2 = 1 then (if r n < c_fnN r ps n then r n else c_fnN r ps n) else c_fnN r ps n
theorem c_fnN_succ (r : Nat → Int) (ps : Int) {k : Int} (h : 0 ≤ k) : c_fnN r ps (Int.toNat (k + 1)) = if ps / zp k % 2 = 1 then (if r (Int.toNat k) < c_fnN r ps (Int.toNat k) then r (Int.toNat k) else c_fnN r ps (Int.toNat k)) else c_fnN r ps (Int.toNat k) := by
  rw [show Int.toNat (k + 1) = Int.toNat k + 1 by omega]
  simp only [c_fnN]
  rw [show ((Int.toNat k : Nat) : Int) = k by omega]
theorem c_fnN_bd {r : Nat → Int} (ps : Int) : ∀ n : Nat, (∀ k : Nat, k < n → 0 ≤ r k ∧ r k ≤ 1000) → 0 ≤ c_fnN r ps n ∧ c_fnN r ps n ≤ 1000
  | 0, _ => ⟨by show (0 : Int) ≤ 1000; decide, by show (1000 : Int) ≤ 1000; decide⟩
  | n + 1, h => by
    have ih := c_fnN_bd ps n (fun k hk => h k (by omega))
    have q := h n (by omega)
    simp only [c_fnN]
    split
    · split <;> omega
    · exact ih
abbrev c_13ok (V : Nat → Nat → Int) : Prop := ∀ k : Nat, (k : Int) < V (Int.toNat (V 0 3)) 7 → 0 ≤ V 13 k ∧ V 13 k ≤ 1000
theorem c_fn_bd {V : Nat → Nat → Int} (h : c_13ok V) (ps : Int) : 0 ≤ c_fnN (V 13) ps (Int.toNat (V (Int.toNat (V 0 3)) 7)) ∧ c_fnN (V 13) ps (Int.toNat (V (Int.toNat (V 0 3)) 7)) ≤ 1000 := c_fnN_bd ps _ (fun k hk => h k (by omega))
/-- the row's start -/
def f_c0 (V : Nat → Nat → Int) (to : Int) : Nat → (Nat → Nat → Int)
  | 0 => V
  | n + 1 => mU (f_c0 V to n) 13 n (if (n : Int) = to then 0 else 1000)
theorem f_c0_succ (V : Nat → Nat → Int) (to : Int) {k : Int} (h : 0 ≤ k) : f_c0 V to (Int.toNat (k + 1)) = mU (f_c0 V to (Int.toNat k)) 13 (Int.toNat k) (if k = to then 0 else 1000) := by
  rw [show Int.toNat (k + 1) = Int.toNat k + 1 by omega]
  simp only [f_c0]
  rw [show ((Int.toNat k : Nat) : Int) = k by omega]
theorem f_c0_o (V : Nat → Nat → Int) (to : Int) : ∀ (n : Nat) (g : Nat), g ≠ 13 → f_c0 V to n g = V g
  | 0, _, _ => rfl
  | n + 1, g, h => by
    show mU (f_c0 V to n) 13 n _ g = _
    rw [mU_or _ _ _ h]; exact f_c0_o V to n g h
theorem f_c0_bd (V : Nat → Nat → Int) (to : Int) : ∀ (n : Nat) (k : Nat), k < n → 0 ≤ f_c0 V to n 13 k ∧ f_c0 V to n 13 k ≤ 1000
  | 0, _, h => absurd h (by omega)
  | n + 1, k, h => by
    show 0 ≤ mU (f_c0 V to n) 13 n (if (n : Int) = to then 0 else 1000) 13 k ∧ mU (f_c0 V to n) 13 n (if (n : Int) = to then 0 else 1000) 13 k ≤ 1000
    by_cases e : k = n
    · rw [e, mU_eq]; split <;> omega
    · rw [mU_ni _ _ _ _ e]; exact f_c0_bd V to n k (by omega)
/-- one round over the row -/
def c_up (r : Nat → Int) (n : Nat) (x : Int) : Int := if 1 + x < r n then 1 + x else r n
def f_c1 (V : Nat → Nat → Int) (sy : Int) (W : Nat → Nat → Int) : Nat → (Nat → Nat → Int)
  | 0 => W
  | n + 1 => mU (f_c1 V sy W n) 13 n (c_up (f_c1 V sy W n 13) n (c_fnN (f_c1 V sy W n 13) (c_who V (n : Int) sy) (Int.toNat (V (Int.toNat (V 0 3)) 7))))
theorem f_c1_succ (V : Nat → Nat → Int) (sy : Int) (W : Nat → Nat → Int) {k : Int} (h : 0 ≤ k) : f_c1 V sy W (Int.toNat (k + 1)) = mU (f_c1 V sy W (Int.toNat k)) 13 (Int.toNat k) (c_up (f_c1 V sy W (Int.toNat k) 13) (Int.toNat k) (c_fnN (f_c1 V sy W (Int.toNat k) 13) (c_who V k sy) (Int.toNat (V (Int.toNat (V 0 3)) 7)))) := by
  rw [show Int.toNat (k + 1) = Int.toNat k + 1 by omega]
  simp only [f_c1]
  rw [show ((Int.toNat k : Nat) : Int) = k by omega]
theorem f_c1_o (V : Nat → Nat → Int) (sy : Int) (W : Nat → Nat → Int) : ∀ (n : Nat) (g : Nat), g ≠ 13 → f_c1 V sy W n g = W g
  | 0, _, _ => rfl
  | n + 1, g, h => by
    show mU (f_c1 V sy W n) 13 n _ g = _
    rw [mU_or _ _ _ h]; exact f_c1_o V sy W n g h
theorem c_up_bd {r : Nat → Int} {N : Int} (h : ∀ k : Nat, (k : Int) < N → 0 ≤ r k ∧ r k ≤ 1000) {j : Nat} (hj : (j : Int) < N) {x : Int} (hx : 0 ≤ x) : 0 ≤ c_up r j x ∧ c_up r j x ≤ 1000 := by
  have q := h j hj
  unfold c_up
  split <;> omega
theorem mU13_bd {K : Nat → Nat → Int} {N : Int} (h : ∀ k : Nat, (k : Int) < N → 0 ≤ K 13 k ∧ K 13 k ≤ 1000) (j : Nat) {v : Int} (hv : 0 ≤ v ∧ v ≤ 1000) : ∀ k : Nat, (k : Int) < N → 0 ≤ mU K 13 j v 13 k ∧ mU K 13 j v 13 k ≤ 1000 := fun k hk => by
  by_cases e : k = j
  · rw [e, mU_eq]; exact hv
  · rw [mU_ni _ _ _ _ e]; exact h k hk
theorem f_c1_bd {V : Nat → Nat → Int} (sy : Int) {W : Nat → Nat → Int} (h : ∀ k : Nat, (k : Int) < V (Int.toNat (V 0 3)) 7 → 0 ≤ W 13 k ∧ W 13 k ≤ 1000) : ∀ n : Nat, (n : Int) ≤ V (Int.toNat (V 0 3)) 7 → ∀ k : Nat, (k : Int) < V (Int.toNat (V 0 3)) 7 → 0 ≤ f_c1 V sy W n 13 k ∧ f_c1 V sy W n 13 k ≤ 1000
  | 0, _ => h
  | n + 1, hn => by
    have ih := f_c1_bd sy h n (by omega)
    have q := c_fnN_bd (c_who V (n : Int) sy) (Int.toNat (V (Int.toNat (V 0 3)) 7)) (fun k hk => ih k (by omega))
    exact mU13_bd ih n (c_up_bd ih (by omega) q.1)
def f_c2 (V : Nat → Nat → Int) (sy : Int) (W : Nat → Nat → Int) : Nat → (Nat → Nat → Int)
  | 0 => W
  | n + 1 => f_c1 V sy (f_c2 V sy W n) (Int.toNat (V (Int.toNat (V 0 3)) 7))
theorem f_c2_succ (V : Nat → Nat → Int) (sy : Int) (W : Nat → Nat → Int) {k : Int} (h : 1 ≤ k) : f_c2 V sy W (Int.toNat (k + 1 - 1)) = f_c1 V sy (f_c2 V sy W (Int.toNat (k - 1))) (Int.toNat (V (Int.toNat (V 0 3)) 7)) := by
  rw [show Int.toNat (k + 1 - 1) = Int.toNat (k - 1) + 1 by omega]; rfl
def f_cs (V : Nat → Nat → Int) (sy to : Int) : Nat → Nat → Int := f_c2 V sy (f_c0 V to (Int.toNat (V (Int.toNat (V 0 3)) 7))) (Int.toNat (V (Int.toNat (V 0 3)) 7 - 1))
theorem f_c2_o (V : Nat → Nat → Int) (sy : Int) (W : Nat → Nat → Int) : ∀ (n : Nat) (g : Nat), g ≠ 13 → f_c2 V sy W n g = W g
  | 0, _, _ => rfl
  | n + 1, g, h => by
    show f_c1 V sy (f_c2 V sy W n) _ g = _
    rw [f_c1_o _ _ _ _ g h]; exact f_c2_o V sy W n g h
theorem f_c2_bd {V : Nat → Nat → Int} (hn : 0 ≤ V (Int.toNat (V 0 3)) 7) (sy : Int) {W : Nat → Nat → Int} (h : ∀ k : Nat, (k : Int) < V (Int.toNat (V 0 3)) 7 → 0 ≤ W 13 k ∧ W 13 k ≤ 1000) : ∀ n : Nat, ∀ k : Nat, (k : Int) < V (Int.toNat (V 0 3)) 7 → 0 ≤ f_c2 V sy W n 13 k ∧ f_c2 V sy W n 13 k ≤ 1000
  | 0 => h
  | n + 1 => f_c1_bd sy (f_c2_bd hn sy h n) _ (by omega)
theorem f_cs_o (V : Nat → Nat → Int) (sy to : Int) (g : Nat) (h : g ≠ 13) : f_cs V sy to g = V g := by
  unfold f_cs
  rw [f_c2_o _ _ _ _ g h, f_c0_o _ _ _ g h]
theorem f_cs_n {V W : Nat → Nat → Int} (hT : isTo (Int.toNat (V 0 3))) (h : ∀ g, g ≠ 13 → W g = V g) : W (Int.toNat (W 0 3)) 7 = V (Int.toNat (V 0 3)) 7 := by
  unfold isTo at hT
  rw [h 0 (by decide), h _ (by omega)]
theorem f_cs_bd {V : Nat → Nat → Int} (hI : cI V) (sy to : Int) : c_13ok (f_cs V sy to) := by
  have hT := hI.1
  have hn := hI.2.2.2.2.1.now
  intro k hk
  rw [f_cs_n hT (f_cs_o V sy to)] at hk
  exact f_c2_bd hn.1.1 sy (fun k hk => f_c0_bd V to _ k (by omega)) _ k hk
theorem c_who_13 {V W : Nat → Nat → Int} (hT : isTo (Int.toNat (V 0 3))) (h : ∀ g, g ≠ 13 → W g = V g) (pe sy : Int) : c_who W pe sy = c_who V pe sy := by
  unfold isTo at hT
  have e : ∀ n, c_whN W pe sy n = c_whN V pe sy n := by
    intro n
    induction n with
    | zero => rfl
    | succ n ih =>
      simp only [c_whN]
      rw [ih]
      simp only [c_heN, c_la, c_wind]
      rw [h 0 (by decide), h 39 (by decide), h (Int.toNat (V 0 3)) (by omega), h (Int.toNat (V 0 3) + 1) (by omega), h (Int.toNat (V 0 3) + 2) (by omega), h (Int.toNat (V 0 3) + 3) (by omega), h (Int.toNat (V 0 3) + 4) (by omega), h (Int.toNat (V 0 3) + 6) (by omega)]
  exact e 26
/-- the first shot behind which so few are left, by its place in the row -/
def c_fs (V : Nat → Nat → Int) (sy left pe : Int) : Int := zfind (fun q => decide (c_fnN (V 13) (c_heN V pe (c_la V pe sy (cKin (Int.toNat q)) (c_wind V 0))) (Int.toNat (V (Int.toNat (V 0 3)) 7)) = left)) (Int.toNat (26 - 0)) 0
def c_fp (V : Nat → Nat → Int) (sy left : Int) : Int := zfind (fun q => decide (V 41 (Int.toNat q) / zp sy % 2 = 1 ∧ ¬ c_fs V sy left q = -9)) (Int.toNat (V (Int.toNat (V 0 3)) 7 - 0)) 0
def c_fos (V : Nat → Nat → Int) (sy left wh : Int) : Int := if c_fp V sy left = -9 then -9 else if wh = 1 then c_fp V sy left else cKin (Int.toNat (c_fs V sy left (c_fp V sy left)))
theorem c_fos_at {V : Nat → Nat → Int} {sy left wh kk qq : Int} (h1 : c_fp V sy left = zfind (fun q => decide (V 41 (Int.toNat q) / zp sy % 2 = 1 ∧ ¬ c_fs V sy left q = -9)) (Int.toNat (V (Int.toNat (V 0 3)) 7 - kk)) kk) (hk : 0 ≤ kk ∧ kk < V (Int.toNat (V 0 3)) 7) (hn : V 41 (Int.toNat kk) / zp sy % 2 = 1) (h2 : c_fs V sy left kk = zfind (fun q => decide (c_fnN (V 13) (c_heN V kk (c_la V kk sy (cKin (Int.toNat q)) (c_wind V 0))) (Int.toNat (V (Int.toNat (V 0 3)) 7)) = left)) (Int.toNat (26 - qq)) qq) (hq : 0 ≤ qq ∧ qq < 26) (hr : c_fnN (V 13) (c_heN V kk (c_la V kk sy (cKin (Int.toNat qq)) (c_wind V 0))) (Int.toNat (V (Int.toNat (V 0 3)) 7)) = left) : c_fos V sy left wh = if wh = 1 then kk else cKin (Int.toNat qq) := by
  have e1 : c_fs V sy left kk = qq := by
    rw [h2, zfind_step _ 26 _ hq.2]
    exact if_pos (decide_eq_true hr)
  have e2 : c_fp V sy left = kk := by
    rw [h1, zfind_step _ _ _ hk.2]
    exact if_pos (decide_eq_true ⟨hn, by omega⟩)
  unfold c_fos
  rw [e2, e1, if_neg (by omega)]
theorem c_fs_no {V : Nat → Nat → Int} {sy left kk qq : Int} (h2 : c_fs V sy left kk = zfind (fun q => decide (c_fnN (V 13) (c_heN V kk (c_la V kk sy (cKin (Int.toNat q)) (c_wind V 0))) (Int.toNat (V (Int.toNat (V 0 3)) 7)) = left)) (Int.toNat (26 - qq)) qq) (hq : 26 ≤ qq) : c_fs V sy left kk = -9 := by
  rw [h2, show Int.toNat (26 - qq) = 0 by omega]; rfl
def c_rl (K : Nat → Nat → Int) (sy wh : Int) (x : Int) : Int := if 1000 ≤ x then -9 else if wh = 0 then x else if x = 0 then -9 else c_fos K sy (x - 1) wh
def c_rlx (K : Nat → Nat → Int) (sy : Int) : Int := c_fnN (K 13) (s_wkN (K 41) sy 6) (Int.toNat (K (Int.toNat (K 0 3)) 7))
abbrev c_rok (V : Nat → Nat → Int) (sy to wh : Int) : Prop := (0 ≤ sy ∧ sy < V (Int.toNat (V 0 3)) 8) ∧ (0 ≤ to ∧ to < V (Int.toNat (V 0 3)) 7) ∧ (0 ≤ wh ∧ wh ≤ 2)
def c_relay (V : Nat → Nat → Int) (sy to wh : Int) : Int := if c_rok V sy to wh then c_rl (f_cs V sy to) sy wh (c_rlx (f_cs V sy to) sy) else -1
