/-! More answers of the reference. -/
def s_kn (M : Nat → Nat → Int) (pe : Int) : Int := s_knN (M 19) pe (M 5 0).toNat
def s_one (M : Nat → Nat → Int) (pe wh : Int) : Int := if ¬ (0 ≤ pe ∧ pe < M 2 0) then -1 else if wh = 0 then M 3 (Int.toNat pe) else if wh = 1 then M 4 (Int.toNat pe) else if wh = 2 then s_kn M pe else -1
def s_saying (M : Nat → Nat → Int) (sy wh : Int) : Int := if ¬ (0 ≤ sy ∧ sy < M 5 0) then -1 else if wh = 0 then M 6 (Int.toNat sy) else if wh = 1 then M 7 (Int.toNat sy) else if wh = 2 then M 8 (Int.toNat sy) else if wh = 3 then M 19 (Int.toNat (6 + sy)) else -1
def s_stray (M : Nat → Nat → Int) (ii wh : Int) : Int := if ¬ (0 ≤ ii ∧ ii ≤ 7) ∨ ¬ (0 ≤ wh ∧ wh ≤ 1) then -1 else if M 19 12 ≤ ii then -9 else if wh = 0 then M 19 (Int.toNat (13 + ii)) else M 19 (Int.toNat (21 + ii))
def s_now (M : Nat → Nat → Int) (wh : Int) : Int := if 0 ≤ wh ∧ wh ≤ 5 then M 19 (Int.toNat wh) else if wh = 6 then M 19 12 else -1
def s_ln (M : Nat → Nat → Int) (pe sy fe nn sd : Int) : Int := s_land (M 3 (Int.toNat pe)) (M 7 (Int.toNat sy)) (M 6 (Int.toNat sy)) (M 19 1) fe nn sd (s_wind M 0)
def s_lands (M : Nat → Nat → Int) (pe sy fe nn sd : Int) : Int := if (0 ≤ pe ∧ pe < M 2 0) ∧ (0 ≤ sy ∧ sy < M 5 0) ∧ (0 ≤ fe ∧ fe ≤ 3) ∧ (0 ≤ nn ∧ nn ≤ 3) ∧ (0 ≤ sd ∧ sd ≤ 1) then s_ln M pe sy fe nn sd else -1
abbrev s_hrd (M : Nat → Nat → Int) (pe ot sy sh bw : Int) : Prop := s_hear (M 3 (Int.toNat ot)) (M 4 (Int.toNat ot)) (s_land (M 3 (Int.toNat pe)) (M 7 (Int.toNat sy)) (M 6 (Int.toNat sy)) (M 19 1) (sh / 100) (sh / 10 % 10) (sh % 10) bw)
/-- the first from i on, so many tried -/
def zfind (b : Int → Bool) : Nat → Int → Int
  | 0, _ => -9
  | f + 1, i => if b i then i else zfind b f (i + 1)
theorem zfind_step (b : Int → Bool) (N i : Int) (h : i < N) : zfind b (N - i).toNat i = if b i then i else zfind b (N - (i + 1)).toNat (i + 1) := by
  obtain ⟨k, hk⟩ : ∃ k : Nat, (N - i).toNat = k + 1 := ⟨(N - i - 1).toNat, by omega⟩
  have e : (N - (i + 1)).toNat = k := by omega
  rw [hk, e]
  rfl
def zfindL (b : Int → Bool) : List Int → Int
  | [] => -9
  | x :: xs => if b x then x else zfindL b xs
/-- the shots, fewest feathers first -/
def shN : List Int := [0, 1, 10, 11, 110, 111, 210, 211, 310, 311, 20, 21, 120, 121, 220, 221, 320, 321, 30, 31, 130, 131, 230, 231, 330, 331]
def s_pos (nn kd sd : Int) : Nat := ((if nn = 0 then 0 else 2 + 8 * (nn - 1)) + 2 * kd + sd).toNat
theorem s_call_step (b : Int → Bool) {nn kd sd : Int} (h1 : 0 ≤ nn ∧ nn ≤ 3) (h2 : 0 ≤ kd ∧ kd ≤ 3 ∧ (nn = 0 → kd ≤ 0)) (h3 : 0 ≤ sd ∧ sd ≤ 1) : zfindL b (shN.drop (s_pos nn kd sd)) = if b (100 * kd + 10 * nn + sd) then 100 * kd + 10 * nn + sd else zfindL b (shN.drop (s_pos nn kd (sd + 1))) := by
  rcases (show nn = 0 ∨ nn = 1 ∨ nn = 2 ∨ nn = 3 by omega) with rfl | rfl | rfl | rfl
  · obtain rfl : kd = 0 := by omega
    rcases (show sd = 0 ∨ sd = 1 by omega) with rfl | rfl <;> rfl
  all_goals
    rcases (show kd = 0 ∨ kd = 1 ∨ kd = 2 ∨ kd = 3 by omega) with rfl | rfl | rfl | rfl <;> rcases (show sd = 0 ∨ sd = 1 by omega) with rfl | rfl <;> rfl
def s_waits (M : Nat → Nat → Int) (pe ot sy sh : Int) : Int := if ((0 ≤ pe ∧ pe < M 2 0) ∧ (0 ≤ ot ∧ ot < M 2 0) ∧ ¬ (pe = ot)) ∧ (0 ≤ sy ∧ sy < M 5 0) ∧ (0 ≤ sh ∧ sh / 100 ≤ 3 ∧ sh / 10 % 10 ≤ 3 ∧ sh % 10 ≤ 1) then zfind (fun q => decide (s_hrd M pe ot sy sh (s_wind M q))) 13 0 else -1
def s_call (M : Nat → Nat → Int) (pe ot sy : Int) : Int := if ((0 ≤ pe ∧ pe < M 2 0) ∧ (0 ≤ ot ∧ ot < M 2 0) ∧ ¬ (pe = ot)) ∧ (0 ≤ sy ∧ sy < M 5 0) then zfindL (fun q => decide (s_hrd M pe ot sy q (s_wind M 0))) shN else -1
theorem s_hearers_bd (M : Nat → Nat → Int) (sp but : Int) (hP : M 2 0 ≤ 6) : 0 ≤ s_hearers M sp but ∧ s_hearers M sp but < 64 := s_heN_bd (M 3) (M 4) sp but (M 2 0).toNat 6 (by omega)
theorem s_beh_bd (M : Nat → Nat → Int) (sp but st : Int) (h : 0 ≤ st ∧ st < 64) (hP : M 2 0 ≤ 6) : 0 ≤ zor st (s_hearers M sp but) ∧ zor st (s_hearers M sp but) < 64 := by
  have h1 := s_heN_bd (M 3) (M 4) sp but (M 2 0).toNat 6 (by omega)
  exact zor_lt (k := 6) (by omega) h1
def s_bodies (kd : Int) : Int := if kd = 0 then 1 else if kd = 1 then 3 else if kd = 2 then 5 else if kd = 3 then 11 else if kd = 4 then 21 else 33
def s_count (M : Nat → Nat → Int) (wh : Int) : Int := if wh = 0 then M 2 0 else if wh = 1 then M 5 0 else if wh = 2 then M 9 0 else if wh = 3 then M 28 0 else if wh = 4 then M 20 0 else if wh = 5 then M 1 0 else -1
