/-! What the reference's calls make of its state. -/
def f_type (M : Nat → Nat → Int) (cc : Int) : Nat → Nat → Int := if ¬ (0 ≤ cc ∧ cc ≤ 255) then M else if M 1 0 = 120 then M else mU (mU M 0 (M 1 0).toNat (zsb cc)) 1 0 (M 1 0 + 1)
def s_type (M : Nat → Nat → Int) (cc : Int) : Int := if ¬ (0 ≤ cc ∧ cc ≤ 255) then -1 else if M 1 0 = 120 then -3 else M 1 0 + 1
/-- a row copied: places d, d + 1 .. of field F get what stood in field G from s on -/
def f_blk (M : Nat → Nat → Int) (F G d s k : Nat) : Nat → Nat → Int := fun f j => if f = F ∧ d ≤ j ∧ j < d + k then M G (s + (j - d)) else M f j
theorem f_blk_0 (M : Nat → Nat → Int) (F G d s : Nat) : f_blk M F G d s 0 = M := by
  funext f j
  exact if_neg (by omega)
theorem f_blk_o (M : Nat → Nat → Int) {F f : Nat} (G d s k : Nat) (h : f ≠ F) : f_blk M F G d s k f = M f := by
  funext j
  exact if_neg (fun q => h q.1)
theorem f_blk_rd (M : Nat → Nat → Int) {F G d s k i : Nat} (h : G ≠ F ∨ s + i < d ∨ d + k ≤ s + i) : f_blk M F G d s k G (s + i) = M G (s + i) := if_neg (by omega)
theorem f_blk_step (M : Nat → Nat → Int) (F G d s : Nat) {kk : Int} (h : 0 ≤ kk) : f_blk M F G d s (Int.toNat (kk + 1)) = mU (f_blk M F G d s (Int.toNat kk)) F (d + Int.toNat kk) (M G (s + Int.toNat kk)) := by
  obtain ⟨n, rfl⟩ := Int.eq_ofNat_of_zero_le h
  have e1 : Int.toNat ((n : Int) + 1) = n + 1 := by omega
  rw [e1, Int.toNat_natCast]
  funext f j
  by_cases hf : f = F
  · subst hf
    by_cases hj : j = d + n
    · subst hj
      simp only [f_blk, mU, true_and]
      rw [if_pos (by omega), if_pos trivial]
      congr 1; omega
    · simp only [f_blk, mU, true_and]
      rw [if_neg hj]
      by_cases h2 : d ≤ j ∧ j < d + n
      · rw [if_pos h2, if_pos (by omega)]
      · rw [if_neg h2, if_neg (by omega)]
  · simp [f_blk, mU, hf]
def f_kn1 (M : Nat → Nat → Int) : Nat → Nat → Int := if M 20 0 = 10 then mU (f_blk M 21 21 0 29 261) 20 0 (f_blk M 21 21 0 29 261 20 0 - 1) else M
def f_kn2 (M : Nat → Nat → Int) : Nat → Nat → Int := mU (f_blk M 21 19 (29 * (M 20 0).toNat) 0 29) 20 0 (f_blk M 21 19 (29 * (M 20 0).toNat) 0 29 20 0 + 1)
def f_know (M : Nat → Nat → Int) : Nat → Nat → Int := f_kn2 (f_kn1 M)
theorem f_know_o (M : Nat → Nat → Int) {f : Nat} (h1 : f ≠ 20) (h2 : f ≠ 21) : f_know M f = M f := by
  have q1 : f_kn1 M f = M f := by
    unfold f_kn1
    split
    · funext j; simp [mU, f_blk, h1, h2]
    · rfl
  rw [← q1]
  funext j
  simp [f_know, f_kn2, mU, f_blk, h1, h2]
def f_tk (M : Nat → Nat → Int) (i k : Nat) : Nat → Nat → Int := fun f j => if f = 19 ∧ 13 + i ≤ j ∧ j < 13 + k then M 19 (j + 1) else if f = 19 ∧ 21 + i ≤ j ∧ j < 21 + k then M 19 (j + 1) else M f j
theorem f_tk_step (M : Nat → Nat → Int) (i : Nat) {kk : Int} (h : 0 ≤ kk) (h7 : kk < 7) (hi : i ≤ Int.toNat kk) : mU (mU (f_tk M i (Int.toNat kk)) 19 (Int.toNat (13 + kk)) (f_tk M i (Int.toNat kk) 19 (Int.toNat ((13 + kk) + 1)))) 19 (Int.toNat (21 + kk)) (mU (f_tk M i (Int.toNat kk)) 19 (Int.toNat (13 + kk)) (f_tk M i (Int.toNat kk) 19 (Int.toNat ((13 + kk) + 1))) 19 (Int.toNat ((21 + kk) + 1))) = f_tk M i (Int.toNat (kk + 1)) := by
  obtain ⟨n, rfl⟩ := Int.eq_ofNat_of_zero_le h
  have e1 : Int.toNat ((n : Int) + 1) = n + 1 := by omega
  have e2 : Int.toNat (13 + (n : Int)) = 13 + n := by omega
  have e3 : Int.toNat (13 + (n : Int) + 1) = 13 + n + 1 := by omega
  have e4 : Int.toNat (21 + (n : Int)) = 21 + n := by omega
  have e5 : Int.toNat (21 + (n : Int) + 1) = 21 + n + 1 := by omega
  rw [Int.toNat_natCast] at hi
  rw [e1, e2, e3, e4, e5, Int.toNat_natCast]
  have v1 : f_tk M i n 19 (13 + n + 1) = M 19 (13 + n + 1) := by
    simp only [f_tk]; rw [if_neg (by omega), if_neg (by omega)]
  have v2 : mU (f_tk M i n) 19 (13 + n) (M 19 (13 + n + 1)) 19 (21 + n + 1) = M 19 (21 + n + 1) := by
    simp only [mU, f_tk]; rw [if_neg (by omega), if_neg (by omega), if_neg (by omega)]
  rw [v1, v2]
  funext f j
  by_cases hf : f = 19
  · subst hf
    by_cases hj : j = 13 + n
    · subst hj
      simp only [f_tk, mU, true_and]
      rw [if_neg (by omega), if_pos trivial, if_pos (by omega)]
    · by_cases hj2 : j = 21 + n
      · subst hj2
        simp only [f_tk, mU, true_and]
        rw [if_pos trivial, if_neg (by omega), if_pos (by omega)]
      · simp only [f_tk, mU, true_and]
        rw [if_neg hj2, if_neg hj]
        have c1 : (13 + i ≤ j ∧ j < 13 + (n + 1)) ↔ (13 + i ≤ j ∧ j < 13 + n) := by omega
        have c2 : (21 + i ≤ j ∧ j < 21 + (n + 1)) ↔ (21 + i ≤ j ∧ j < 21 + n) := by omega
        simp only [c1, c2]
  · simp [f_tk, mU, hf]
def f_take1 (M : Nat → Nat → Int) (ii : Int) : Nat → Nat → Int := mU (mU (f_tk M (Int.toNat ii) 7) 19 20 0) 19 28 0
def f_take (M : Nat → Nat → Int) (ii : Int) : Nat → Nat → Int := mU (f_take1 M ii) 19 12 (f_take1 M ii 19 12 - 1)
/-- the invariant, where now alone has changed -/
theorem mI_now19 {M M2 : Nat → Nat → Int} (hI : mI M) (h : ∀ f, f ≠ 19 → M2 f = M f) (hv : vI (M 2 0) (M 5 0) (M2 19)) : mI M2 := by
  obtain ⟨h1, h2, h3, h4, h5, h6, h7, h8, h9, h10, h11, h12, h13, h14⟩ := hI
  unfold mI
  rw [h 0 (by decide), h 1 (by decide), h 2 (by decide), h 3 (by decide), h 4 (by decide), h 5 (by decide), h 6 (by decide), h 7 (by decide), h 8 (by decide), h 9 (by decide), h 10 (by decide), h 20 (by decide), h 21 (by decide), h 22 (by decide), h 23 (by decide), h 26 (by decide), h 27 (by decide), h 28 (by decide)]
  exact ⟨h1, h2, h3, h4, h5, h6, h7, h8, hv, h10, h11, h12, h13, h14⟩
theorem mU_f19 (M : Nat → Nat → Int) (i : Nat) (v : Int) : ∀ f, f ≠ 19 → mU M 19 i v f = M f := fun f hf => by
  funext j; simp [mU, hf]
theorem mI_v {M : Nat → Nat → Int} (hI : mI M) : vI (M 2 0) (M 5 0) (M 19) := hI.2.2.2.2.2.2.2.2.1
theorem vI_hour {P S : Int} {v : Nat → Int} (h : vI P S v) {M : Nat → Nat → Int} (e : M 19 = v) {x : Int} (hx : 0 ≤ x ∧ x ≤ 999) : vI P S (mU M 19 0 x 19) := by
  subst e
  obtain ⟨v1, v2, v3, v4, v5, v6, v7⟩ := h
  have q : ∀ j, mU M 19 0 x 19 j = if j = 0 then x else M 19 j := fun j => by simp [mU]
  refine ⟨by rw [q]; exact hx, by rw [q]; exact v2, fun k hk => ?_, fun k hk => ?_, by rw [q]; exact v5, fun k hk => ?_, fun k hk => ?_⟩
  · rw [q, if_neg (by omega)]; exact v3 k hk
  · rw [q, if_neg (by omega)]; exact v4 k hk
  · rw [q, if_neg (by omega)] at hk; rw [q, q, if_neg (by omega), if_neg (by omega)]; exact v6 k hk
  · rw [q, if_neg (by omega)]; exact v7 k hk
theorem vI_damp {P S : Int} {v : Nat → Int} (h : vI P S v) {M : Nat → Nat → Int} (e : M 19 = v) {x : Int} (hx : 0 ≤ x ∧ x ≤ 5) : vI P S (mU M 19 1 x 19) := by
  subst e
  obtain ⟨v1, v2, v3, v4, v5, v6, v7⟩ := h
  have q : ∀ j, mU M 19 1 x 19 j = if j = 1 then x else M 19 j := fun j => by simp [mU]
  refine ⟨by rw [q]; exact v1, by rw [q]; exact hx, fun k hk => ?_, fun k hk => ?_, by rw [q]; exact v5, fun k hk => ?_, fun k hk => ?_⟩
  · rw [q, if_neg (by omega)]; exact v3 k hk
  · rw [q, if_neg (by omega)]; exact v4 k hk
  · rw [q, if_neg (by omega)] at hk; rw [q, q, if_neg (by omega), if_neg (by omega)]; exact v6 k hk
  · rw [q, if_neg (by omega)]; exact v7 k hk
theorem vI_fea {P S : Int} {v : Nat → Int} (h : vI P S v) {M : Nat → Nat → Int} (e : M 19 = v) {x fe : Int} (hf : 0 ≤ fe ∧ fe < 4) (hx : 0 ≤ x ∧ x ≤ 20) : vI P S (mU M 19 (Int.toNat (2 + fe)) x 19) := by
  subst e
  obtain ⟨v1, v2, v3, v4, v5, v6, v7⟩ := h
  have q : ∀ j, mU M 19 (Int.toNat (2 + fe)) x 19 j = if j = Int.toNat (2 + fe) then x else M 19 j := fun j => by simp [mU]
  refine ⟨by rw [q, if_neg (by omega)]; exact v1, by rw [q, if_neg (by omega)]; exact v2, fun k hk => ?_, fun k hk => ?_, by rw [q, if_neg (by omega)]; exact v5, fun k hk => ?_, fun k hk => ?_⟩
  · rw [q]; split
    · exact hx
    · exact v3 k hk
  · rw [q, if_neg (by omega)]; exact v4 k hk
  · rw [q, if_neg (by omega)] at hk; rw [q, q, if_neg (by omega), if_neg (by omega)]; exact v6 k hk
  · rw [q, if_neg (by omega)]
    exact v7 k hk

def f_hours (M : Nat → Nat → Int) (nn : Int) : Nat → Nat → Int := if ¬ (1 ≤ nn ∧ nn ≤ 9) then M else if 999 < M 19 0 + nn then M else mU (f_know M) 19 0 (f_know M 19 0 + nn)
def s_hours (M : Nat → Nat → Int) (nn : Int) : Int := if ¬ (1 ≤ nn ∧ nn ≤ 9) then -1 else if 999 < M 19 0 + nn then -2 else M 19 0 + nn
def f_damps (M : Nat → Nat → Int) (nn : Int) : Nat → Nat → Int := if ¬ (0 ≤ nn ∧ nn ≤ 5) then M else if M 19 1 = nn then M else mU (f_know M) 19 1 nn
def s_damps (M : Nat → Nat → Int) (nn : Int) : Int := if ¬ (0 ≤ nn ∧ nn ≤ 5) then -1 else if M 19 1 = nn then -2 else M 19 1
def s_plv (M : Nat → Nat → Int) (fe nn : Int) : Int := if 20 < M 19 (Int.toNat (2 + fe)) + nn then 20 else M 19 (Int.toNat (2 + fe)) + nn
def f_plucks (M : Nat → Nat → Int) (fe nn : Int) : Nat → Nat → Int := if ¬ ((0 ≤ fe ∧ fe ≤ 3) ∧ (1 ≤ nn ∧ nn ≤ 9)) then M else if M 19 (Int.toNat (2 + fe)) = 20 then M else mU (f_know M) 19 (Int.toNat (2 + fe)) (s_plv M fe nn)
def s_plucks (M : Nat → Nat → Int) (fe nn : Int) : Int := if ¬ ((0 ≤ fe ∧ fe ≤ 3) ∧ (1 ≤ nn ∧ nn ≤ 9)) then -1 else if M 19 (Int.toNat (2 + fe)) = 20 then -2 else s_plv M fe nn
def f_undo1 (M : Nat → Nat → Int) : Nat → Nat → Int := mU M 20 0 (M 20 0 - 1)
def f_undo (M : Nat → Nat → Int) : Nat → Nat → Int := if M 20 0 = 0 then M else f_blk (f_undo1 M) 19 21 0 (29 * (M 20 0 - 1).toNat) 29
def s_undo (M : Nat → Nat → Int) : Int := if M 20 0 = 0 then -2 else M 20 0 - 1
def f_saw (M : Nat → Nat → Int) (sy sp : Int) : Nat → Nat → Int := if ¬ ((0 ≤ sy ∧ sy < M 5 0) ∧ (0 ≤ sp ∧ sp ≤ 30)) then M else if M 28 0 = 4 then M else mU (mU (mU M 26 (M 28 0).toNat sy) 27 (M 28 0).toNat sp) 28 0 (M 28 0 + 1)
def s_saw (M : Nat → Nat → Int) (sy sp : Int) : Int := if ¬ ((0 ≤ sy ∧ sy < M 5 0) ∧ (0 ≤ sp ∧ sp ≤ 30)) then -1 else if M 28 0 = 4 then -3 else M 28 0 + 1
def f_kp1 (M : Nat → Nat → Int) (im : Int) : Nat → Nat → Int := f_blk M 22 19 (Int.toNat (29 * im)) 0 29
def f_kp2 (M : Nat → Nat → Int) (im : Int) : Nat → Nat → Int := f_blk (f_kp1 M im) 21 21 (Int.toNat (290 * (1 + im))) 0 290
def f_keep (M : Nat → Nat → Int) (im : Int) : Nat → Nat → Int := if ¬ (0 ≤ im ∧ im ≤ 1) then M else mU (mU (f_kp2 M im) 20 (Int.toNat (1 + im)) (M 20 0)) 23 (Int.toNat im) 1
def s_keep (M : Nat → Nat → Int) (im : Int) : Int := if ¬ (0 ≤ im ∧ im ≤ 1) then -1 else M 19 0
def f_bk1 (M : Nat → Nat → Int) (im : Int) : Nat → Nat → Int := f_blk M 19 22 0 (Int.toNat (29 * im)) 29
def f_bk2 (M : Nat → Nat → Int) (im : Int) : Nat → Nat → Int := f_blk (f_bk1 M im) 21 21 0 (Int.toNat (290 * (1 + im))) 290
def f_back (M : Nat → Nat → Int) (im : Int) : Nat → Nat → Int := if ¬ (0 ≤ im ∧ im ≤ 1) then M else if M 23 (Int.toNat im) = 0 then M else mU (f_bk2 M im) 20 0 (M 20 (Int.toNat (1 + im)))
def s_back (M : Nat → Nat → Int) (im : Int) : Int := if ¬ (0 ≤ im ∧ im ≤ 1) then -1 else if M 23 (Int.toNat im) = 0 then -2 else M 22 (Int.toNat (29 * im))
theorem mI_kp {M : Nat → Nat → Int} (hI : mI M) {k : Int} (h : 0 ≤ k ∧ k ≤ 1) : M 23 (Int.toNat k) = 0 ∨ M 23 (Int.toNat k) = 1 := by
  obtain ⟨n, rfl⟩ := Int.eq_ofNat_of_zero_le h.1
  exact (hI.2.2.2.2.2.2.2.2.2.2.2.1 n (by omega)).1
theorem mI_ly {M : Nat → Nat → Int} (hI : mI M) {k : Int} (h : 0 ≤ k ∧ k < M 19 12) : (0 ≤ M 19 (Int.toNat (13 + k)) ∧ M 19 (Int.toNat (13 + k)) < M 5 0) ∧ (0 ≤ M 19 (Int.toNat (21 + k)) ∧ M 19 (Int.toNat (21 + k)) ≤ 30) := by
  obtain ⟨n, rfl⟩ := Int.eq_ofNat_of_zero_le h.1
  exact hI.2.2.2.2.2.2.2.2.1.2.2.2.2.2.1 n h.2
theorem zfind_bd (b : Int → Bool) : ∀ (n : Nat) (i : Int), zfind b n i = -9 ∨ (i ≤ zfind b n i ∧ zfind b n i < i + n)
  | 0, i => Or.inl rfl
  | n + 1, i => by
    show (if b i then i else zfind b n (i + 1)) = -9 ∨ (i ≤ (if b i then i else zfind b n (i + 1)) ∧ (if b i then i else zfind b n (i + 1)) < i + ((n + 1 : Nat) : Int))
    have h := zfind_bd b n (i + 1)
    split <;> omega
def s_fnd (M : Nat → Nat → Int) (pe : Int) : Int := zfind (fun q => decide (M 19 (Int.toNat (21 + q)) = M 3 (Int.toNat pe))) (M 19 12 - 0).toNat 0
def s_picks (M : Nat → Nat → Int) (pe : Int) : Int := if ¬ (0 ≤ pe ∧ pe < M 2 0) then -1 else if s_fnd M pe = -9 then -2 else M 19 (Int.toNat (13 + s_fnd M pe))
def f_pk (K : Nat → Nat → Int) (sy pe fd : Int) : Nat → Nat → Int := f_take (mU K 19 (Int.toNat (6 + sy)) (zor (K 19 (Int.toNat (6 + sy))) (zp pe))) fd
def f_picks (M : Nat → Nat → Int) (pe : Int) : Nat → Nat → Int := if ¬ (0 ≤ pe ∧ pe < M 2 0) then M else if s_fnd M pe = -9 then M else f_pk (f_know M) (f_know M 19 (Int.toNat (13 + s_fnd M pe))) pe (s_fnd M pe)
