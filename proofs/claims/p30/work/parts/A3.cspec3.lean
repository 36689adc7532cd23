/-! The class between calls. -/
def cI (V : Nat → Nat → Int) : Prop := isTo (Int.toNat (V 0 3)) ∧ isTo (Int.toNat (V 0 4)) ∧ ¬ Int.toNat (V 0 3) = Int.toNat (V 0 4) ∧ (0 ≤ V 0 1 ∧ V 0 1 ≤ 120) ∧ toI V (Int.toNat (V 0 3)) ∧ moI V 39 ∧ paI V 31 ∧ (∀ q : Nat, isIm q → paI V (33 + 2 * (q - 37))) ∧ (∀ q : Nat, isIm q → V q 2 = 0 ∨ V q 2 = 1) ∧ (0 ≤ V 4 4 ∧ V 4 4 ≤ 4) ∧ (∀ k : Nat, (k : Int) < V 4 4 → (0 ≤ V 5 k ∧ V 5 k < V (Int.toNat (V 0 3)) 8) ∧ (0 ≤ V 6 k ∧ V 6 k ≤ 30) ∧ (-4 ≤ V 7 k ∧ V 7 k ≤ 4) ∧ (0 ≤ V 8 k ∧ V 8 k ≤ 5)) ∧ (∀ k : Nat, k < 120 → 0 ≤ V 1 k ∧ V 1 k ≤ 255)
theorem c_wind_bd {V : Nat → Nat → Int} (hI : cI V) (nn : Int) : -4 ≤ c_wind V nn ∧ c_wind V nn ≤ 4 := by
  have hT := hI.2.2.2.2.1
  have hn := hT.now
  have := z_mod (x := V 39 0 + nn) (y := if 1 < V (Int.toNat (V 0 3)) 9 then V (Int.toNat (V 0 3)) 9 else 1) (by omega)
  exact hT.wi this
/-- where a saying lands by a shot and a wind -/
def c_la (V : Nat → Nat → Int) (pe sy sh bw : Int) : Int := s_land (V (Int.toNat (V 0 3) + 1) (Int.toNat pe)) (V (Int.toNat (V 0 3) + 4) (Int.toNat sy)) (V (Int.toNat (V 0 3) + 3) (Int.toNat sy)) (V 39 1) (sh / 100) (sh / 10 % 10) (sh % 10) bw
theorem c_la_bd (V : Nat → Nat → Int) (pe sy sh bw : Int) : -9 ≤ c_la V pe sy sh bw ∧ c_la V pe sy sh bw ≤ 30 := s_land_bd _ _ _ _ _ _ _ _
theorem c_la_or (V : Nat → Nat → Int) (pe sy sh bw : Int) : c_la V pe sy sh bw = -9 ∨ 0 ≤ c_la V pe sy sh bw := s_land_or _ _ _ _ _ _ _ _
abbrev c_hrd (V : Nat → Nat → Int) (pe ot sy sh bw : Int) : Prop := s_hear (V (Int.toNat (V 0 3) + 1) (Int.toNat ot)) (V (Int.toNat (V 0 3) + 2) (Int.toNat ot)) (c_la V pe sy sh bw)
def c_ok2 (V : Nat → Nat → Int) (pe ot : Int) : Prop := (0 ≤ pe ∧ pe < V (Int.toNat (V 0 3)) 7) ∧ (0 ≤ ot ∧ ot < V (Int.toNat (V 0 3)) 7) ∧ ¬ (pe = ot)
def c_heN (V : Nat → Nat → Int) (but sp : Int) : Int := s_heN (V (Int.toNat (V 0 3) + 1)) (V (Int.toNat (V 0 3) + 2)) sp but (Int.toNat (V (Int.toNat (V 0 3)) 7))
theorem c_heN_bd {V : Nat → Nat → Int} (h : 0 ≤ V (Int.toNat (V 0 3)) 7 ∧ V (Int.toNat (V 0 3)) 7 ≤ 6) (but sp : Int) : 0 ≤ c_heN V but sp ∧ c_heN V but sp < 64 := s_heN_bd _ _ _ _ _ 6 (by omega)
def c_one (V : Nat → Nat → Int) (pe wh : Int) : Int := if 0 ≤ pe ∧ pe < V (Int.toNat (V 0 3)) 7 then (if wh = 0 then V (Int.toNat (V 0 3) + 1) (Int.toNat pe) else if wh = 1 then V (Int.toNat (V 0 3) + 2) (Int.toNat pe) else if wh = 2 then V 41 (Int.toNat pe) else -1) else -1
def c_say (V : Nat → Nat → Int) (sy wh : Int) : Int := if 0 ≤ sy ∧ sy < V (Int.toNat (V 0 3)) 8 then (if wh = 0 then V (Int.toNat (V 0 3) + 3) (Int.toNat sy) else if wh = 1 then V (Int.toNat (V 0 3) + 4) (Int.toNat sy) else if wh = 2 then V (Int.toNat (V 0 3) + 5) (Int.toNat sy) else if wh = 3 then s_wkN (V 41) sy 6 else -1) else -1
theorem shN_at {k : Nat} (h : k < 26) : shN[k]? = some (cMan k) := by
  have q : ∀ k : Fin 26, shN[k.1]? = some (cMan k.1) := by decide +kernel
  exact q ⟨k, h⟩
theorem zfindL_step (b : Int → Bool) {k : Int} (h : 0 ≤ k ∧ k < 26) : zfindL b (shN.drop (Int.toNat k)) = if b (cMan (Int.toNat k)) then cMan (Int.toNat k) else zfindL b (shN.drop (Int.toNat (k + 1))) := by
  have hk : Int.toNat k < 26 := by omega
  have hl : shN.length = 26 := rfl
  have e := List.drop_eq_getElem_cons (l := shN) (i := Int.toNat k) (by rw [hl]; exact hk)
  have e2 : shN[Int.toNat k]'(by rw [hl]; exact hk) = cMan (Int.toNat k) := by
    have := shN_at hk
    rw [List.getElem?_eq_getElem (by rw [hl]; exact hk)] at this
    exact Option.some.inj this
  rw [e, e2, show Int.toNat (k + 1) = Int.toNat k + 1 by omega]
  rfl
def c_call (V : Nat → Nat → Int) (pe ot sy : Int) : Int := if ((0 ≤ pe ∧ pe < V (Int.toNat (V 0 3)) 7) ∧ (0 ≤ ot ∧ ot < V (Int.toNat (V 0 3)) 7) ∧ ¬ (pe = ot)) ∧ (0 ≤ sy ∧ sy < V (Int.toNat (V 0 3)) 8) then zfindL (fun q => decide (c_hrd V pe ot sy q (c_wind V 0))) shN else -1
def c_waits (V : Nat → Nat → Int) (pe ot sy sh : Int) : Int := if ((0 ≤ pe ∧ pe < V (Int.toNat (V 0 3)) 7) ∧ (0 ≤ ot ∧ ot < V (Int.toNat (V 0 3)) 7) ∧ ¬ (pe = ot)) ∧ (0 ≤ sy ∧ sy < V (Int.toNat (V 0 3)) 8) ∧ (0 ≤ sh ∧ sh / 100 ≤ 3 ∧ sh / 10 % 10 ≤ 3 ∧ sh % 10 ≤ 1) then zfind (fun q => decide (c_hrd V pe ot sy sh (c_wind V q))) (Int.toNat 13) 0 else -1
/-- the greatest that divides both, not above n -/
def c_cdN (x y : Int) : Nat → Int
  | 0 => 1
  | n + 1 => if 1 < (n + 1 : Int) then (if x % (n + 1 : Int) = 0 ∧ y % (n + 1 : Int) = 0 then (n + 1 : Int) else c_cdN x y n) else 1
theorem c_cdN_le (x y : Int) {d : Int} (h : d ≤ 1) : c_cdN x y (Int.toNat d) = 1 := by
  rcases (show Int.toNat d = 0 ∨ Int.toNat d = 1 by omega) with e | e
  · rw [e]; rfl
  · rw [e]; simp [c_cdN]
theorem c_cdN_gt (x y : Int) {d : Int} (h : 1 < d) : c_cdN x y (Int.toNat d) = if x % d = 0 ∧ y % d = 0 then d else c_cdN x y (Int.toNat (d - 1)) := by
  obtain ⟨n, hn⟩ : ∃ n : Nat, Int.toNat d = n + 1 := ⟨Int.toNat d - 1, by omega⟩
  have e1 : (n + 1 : Int) = d := by omega
  have e2 : Int.toNat (d - 1) = n := by omega
  rw [hn, e2]
  show (if 1 < (n + 1 : Int) then _ else _) = _
  rw [e1, if_pos h]
theorem c_cdN_bd (x y : Int) : ∀ n : Nat, 1 ≤ c_cdN x y n ∧ c_cdN x y n ≤ (if 1 < (n : Int) then (n : Int) else 1)
  | 0 => by simp [c_cdN]
  | n + 1 => by
    have ih := c_cdN_bd x y n
    simp only [c_cdN]
    push_cast
    by_cases q : 1 < (n : Int) + 1
    · rw [if_pos q, if_pos q]
      split
      · omega
      · revert ih; split <;> intro ih <;> omega
    · rw [if_neg q, if_neg q]; omega
def c_gcd (x y : Int) : Int := c_cdN x y (Int.toNat (if x < y then y else x))
theorem c_gcd_bd (x y : Int) : 1 ≤ c_gcd x y := (c_cdN_bd x y _).1
/-- in how many of the winds one is heard -/
def c_odN (V : Nat → Nat → Int) (pe ot sy sh : Int) : Nat → Int
  | 0 => 0
  | n + 1 => if c_hrd V pe ot sy sh (V (Int.toNat (V 0 3) + 6) n) then c_odN V pe ot sy sh n + 1 else c_odN V pe ot sy sh n
theorem c_odN_succ (V : Nat → Nat → Int) (pe ot sy sh : Int) {k : Int} (h : 0 ≤ k) : c_odN V pe ot sy sh (Int.toNat (k + 1)) = if c_hrd V pe ot sy sh (V (Int.toNat (V 0 3) + 6) (Int.toNat k)) then c_odN V pe ot sy sh (Int.toNat k) + 1 else c_odN V pe ot sy sh (Int.toNat k) := by
  rw [show Int.toNat (k + 1) = Int.toNat k + 1 by omega]; rfl
theorem c_odN_bd (V : Nat → Nat → Int) (pe ot sy sh : Int) : ∀ n : Nat, 0 ≤ c_odN V pe ot sy sh n ∧ c_odN V pe ot sy sh n ≤ n
  | 0 => by simp [c_odN]
  | n + 1 => by
    have ih := c_odN_bd V pe ot sy sh n
    simp only [c_odN]
    push_cast
    split <;> omega
def c_wct (V : Nat → Nat → Int) : Int := if 1 < V (Int.toNat (V 0 3)) 9 then V (Int.toNat (V 0 3)) 9 else 1
def c_od (V : Nat → Nat → Int) (pe ot sy sh : Int) : Int := c_odN V pe ot sy sh (Int.toNat (c_wct V))
def c_odds (V : Nat → Nat → Int) (pe ot sy sh wh : Int) : Int := if ((0 ≤ pe ∧ pe < V (Int.toNat (V 0 3)) 7) ∧ (0 ≤ ot ∧ ot < V (Int.toNat (V 0 3)) 7) ∧ ¬ (pe = ot)) ∧ (0 ≤ sy ∧ sy < V (Int.toNat (V 0 3)) 8) ∧ (0 ≤ sh ∧ sh / 100 ≤ 3 ∧ sh / 10 % 10 ≤ 3 ∧ sh % 10 ≤ 1) ∧ (0 ≤ wh ∧ wh ≤ 1) then (if wh = 0 then c_od V pe ot sy sh else c_wct V) / (if 1 < c_gcd (c_od V pe ot sy sh) (c_wct V) then c_gcd (c_od V pe ot sy sh) (c_wct V) else 1) else -1
/-- by whom all that was seen can be -/
def c_lgs (V : Nat → Nat → Int) (pe sy wi dm : Int) : Int := s_lgN (fun sh => s_land (V (Int.toNat (V 0 3) + 1) (Int.toNat pe)) (V (Int.toNat (V 0 3) + 4) (Int.toNat sy)) (V (Int.toNat (V 0 3) + 3) (Int.toNat sy)) dm (sh / 100) (sh / 10 % 10) (sh % 10) wi) 26
def c_cbN (V : Nat → Nat → Int) (pe : Int) : Nat → Bool
  | 0 => true
  | n + 1 => c_cbN V pe n && decide (c_lgs V pe (V 5 n) (V 7 n) (V 8 n) / zp (V 6 n) % 2 = 1)
theorem c_cbN_succ (V : Nat → Nat → Int) (pe : Int) {k : Int} (h : 0 ≤ k) : c_cbN V pe (Int.toNat (k + 1)) = (c_cbN V pe (Int.toNat k) && decide (c_lgs V pe (V 5 (Int.toNat k)) (V 7 (Int.toNat k)) (V 8 (Int.toNat k)) / zp (V 6 (Int.toNat k)) % 2 = 1)) := by
  rw [show Int.toNat (k + 1) = Int.toNat k + 1 by omega]; rfl
theorem c_cbN_mono (V : Nat → Nat → Int) (pe : Int) {n : Nat} (h : c_cbN V pe n = false) : ∀ k : Nat, c_cbN V pe (n + k) = false
  | 0 => h
  | k + 1 => by
    show (c_cbN V pe (n + k) && _) = false
    rw [c_cbN_mono V pe h k, Bool.false_and]
theorem c_cbN_no (V : Nat → Nat → Int) (pe : Int) {k : Int} (h : 0 ≤ k) (h2 : k < V 4 4) (h3 : ¬ c_lgs V pe (V 5 (Int.toNat k)) (V 7 (Int.toNat k)) (V 8 (Int.toNat k)) / zp (V 6 (Int.toNat k)) % 2 = 1) : c_cbN V pe (Int.toNat (V 4 4)) = false := by
  have e : c_cbN V pe (Int.toNat (k + 1)) = false := by
    rw [c_cbN_succ V pe h, decide_eq_false h3, Bool.and_false]
  have := c_cbN_mono V pe e (Int.toNat (V 4 4 - (k + 1)))
  rwa [show Int.toNat (k + 1) + Int.toNat (V 4 4 - (k + 1)) = Int.toNat (V 4 4) by omega] at this
def c_suN (V : Nat → Nat → Int) : Nat → Int
  | 0 => 0
  | n + 1 => if c_cbN V (n : Int) (Int.toNat (V 4 4)) then zor (c_suN V n) (zp (n : Int)) else c_suN V n
theorem c_suN_succ (V : Nat → Nat → Int) {k : Int} (h : 0 ≤ k) : c_suN V (Int.toNat (k + 1)) = if c_cbN V k (Int.toNat (V 4 4)) then zor (c_suN V (Int.toNat k)) (zp k) else c_suN V (Int.toNat k) := by
  rw [show Int.toNat (k + 1) = Int.toNat k + 1 by omega]
  simp only [c_suN]
  rw [show ((Int.toNat k : Nat) : Int) = k by omega]
theorem c_suN_nn (V : Nat → Nat → Int) : ∀ n : Nat, 0 ≤ c_suN V n
  | 0 => Int.le_refl _
  | n + 1 => by
    simp only [c_suN]
    split
    · exact zor_nn _ _
    · exact c_suN_nn V n
theorem c_suN_bd (V : Nat → Nat → Int) : ∀ n : Nat, n ≤ 6 → 0 ≤ c_suN V n ∧ c_suN V n < 64
  | 0, _ => ⟨Int.le_refl _, by show (0 : Int) < 64; decide⟩
  | n + 1, h => by
    have ih := c_suN_bd V n (by omega)
    simp only [c_suN]
    split
    · have q : zp (n : Int) < 64 := by
        rcases (show n = 0 ∨ n = 1 ∨ n = 2 ∨ n = 3 ∨ n = 4 ∨ n = 5 by omega) with rfl | rfl | rfl | rfl | rfl | rfl <;> decide
      exact zor_lt (k := 6) ⟨ih.1, by omega⟩ ⟨zp_nn _, by omega⟩
    · exact ih
theorem s_lgN_lt (f : Int → Int) (hf : ∀ x, f x = -9 ∨ (0 ≤ f x ∧ f x ≤ 30)) : ∀ k : Nat, 0 ≤ s_lgN f k ∧ s_lgN f k < 2147483648
  | 0 => ⟨Int.le_refl _, by show (0 : Int) < 2147483648; decide⟩
  | k + 1 => by
    have ih := s_lgN_lt f hf k
    simp only [s_lgN]
    split
    · exact ih
    · have hb := zp_bd (k := f (cKin k)) (by have := hf (cKin k); omega)
      exact zor_lt (k := 31) ⟨ih.1, by omega⟩ ⟨by omega, by omega⟩
theorem c_gcd_bd6 (x y : Int) (hx : 0 ≤ x ∧ x ≤ 6) (hy : 0 ≤ y ∧ y ≤ 6) : 1 ≤ c_gcd x y ∧ c_gcd x y ≤ 6 := by
  have h := c_cdN_bd x y (Int.toNat (if x < y then y else x))
  unfold c_gcd
  refine ⟨h.1, ?_⟩
  have h2 := h.2
  have e : ((Int.toNat (if x < y then y else x) : Nat) : Int) = if x < y then y else x := by omega
  rw [e] at h2
  omega
