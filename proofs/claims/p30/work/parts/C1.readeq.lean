/-! The class reads as the reference does: tokens. -/
/-- ahead of a token -/
def hdR (K M : Nat → Nat → Int) : Prop := K 2 1 = M 1 0 ∧ K 2 2 = M 12 0 ∧ (0 ≤ M 1 0 ∧ M 1 0 ≤ 120) ∧ (0 ≤ M 12 0 ∧ M 12 0 ≤ M 1 0) ∧ (∀ k : Nat, k < 120 → K 1 k = M 0 k % 256)
/-- a token at hand -/
def tkR (K M : Nat → Nat → Int) : Prop := hdR K M ∧ K 2 4 = M 13 0 ∧ M 14 0 = (if K 2 3 = 0 then 4 else if K 2 3 = 4 then 5 else K 2 3) ∧ (0 ≤ K 2 3 ∧ K 2 3 ≤ 4) ∧ (K 2 3 = 1 ∨ K 2 3 = 2 → K 2 5 = M 15 0)
theorem hdR_ch {K M : Nat → Nat → Int} (h : hdR K M) (i : Int) (hi : i < M 1 0) : K 1 (Int.toNat i) = s_ch M i := by
  obtain ⟨h1, h2, h3, h4, h5⟩ := h
  unfold s_ch
  rw [if_pos hi]
  exact h5 _ (by omega)
def zso (c : Int) : Int := if c = -9 then 0 else if 97 ≤ c ∧ c ≤ 122 then 1 else if 48 ≤ c ∧ c ≤ 57 then 2 else if c = 59 then 3 else 4
theorem hdR_so {K M : Nat → Nat → Int} (h : hdR K M) (i : Int) : k_sort K i = zso (s_ch M i) := by
  have hc := hdR_ch h i
  have b := s_ch_bd M i
  have h1 : K 2 1 = M 1 0 := h.1
  unfold k_sort zso
  rw [h1]
  by_cases q : M 1 0 ≤ i
  · have e : s_ch M i = -9 := by unfold s_ch; rw [if_neg (by omega)]
    rw [if_pos q, if_pos e]
  · have e := hc (by omega)
    have n : ¬ s_ch M i = -9 := by
      unfold s_ch
      rw [if_pos (by omega)]
      omega
    rw [if_neg q, if_neg n, e]
theorem kv_eq {K M : Nat → Nat → Int} (hs : ∀ i, k_sort K i = zso (s_ch M i)) (hc : ∀ i, i < M 1 0 → K 1 (Int.toNat i) = s_ch M i) : ∀ (n : Nat) (i v w : Int), 0 ≤ v → w = (if v < 100 then v else 100) → k_val K n i w = (if z_val M n i v < 100 then z_val M n i v else 100)
  | 0, _, _, _, _, hw => hw
  | n + 1, i, v, w, hv, hw => by
    have e := hs i
    have l := s_ch_lt M i
    unfold zso at e
    have e1 : k_val K (n + 1) i w = if k_sort K i = 2 then k_val K n (i + 1) (if w * 10 + K 1 (Int.toNat i) - 48 < 100 then w * 10 + K 1 (Int.toNat i) - 48 else 100) else w := rfl
    have e2 : z_val M (n + 1) i v = if 48 ≤ s_ch M i ∧ s_ch M i ≤ 57 then z_val M n (i + 1) (if v ≤ 99 then 10 * v + s_ch M i - 48 else v) else v := rfl
    rw [e1, e2]
    by_cases q : 48 ≤ s_ch M i ∧ s_ch M i ≤ 57
    · rw [if_pos (show k_sort K i = 2 by omega), if_pos q, hc i (l (by omega))]
      exact kv_eq hs hc n (i + 1) _ _ (by omega) (by omega)
    · rw [if_neg (show ¬ k_sort K i = 2 by omega), if_neg q]
      exact hw
theorem tkR_mk {K L M : Nat → Nat → Int} (h : hdR K M) {a st v so : Int} (e1 : L 1 = K 1) (e21 : L 2 1 = K 2 1) (e22 : L 2 2 = a) (e24 : L 2 4 = st) (e3 : so = if L 2 3 = 0 then 4 else if L 2 3 = 4 then 5 else L 2 3) (e3b : 0 ≤ L 2 3 ∧ L 2 3 ≤ 4) (e5 : L 2 3 = 1 ∨ L 2 3 = 2 → L 2 5 = v) (ha : 0 ≤ a ∧ a ≤ M 1 0) : tkR L (m4 M a st v so) :=
  ⟨⟨e21.trans h.1, e22, h.2.2.1, ha, fun k hk => (congrFun e1 k).trans (h.2.2.2.2 k hk)⟩, e24, e3, e3b, e5⟩
theorem tkR_kst {K M : Nat → Nat → Int} (h : hdR K M) : tkR (f_kst K) (f_step M) := by
  have hc := hdR_ch h
  have hs := hdR_so h
  obtain ⟨h1, h2, h3, h4, h5⟩ := id h
  have ea : k_a1 K = s_a1 M := by
    have eb : (fun q => decide (q < K 2 1 ∧ K 1 (Int.toNat q) = 32)) = (fun q => decide (s_ch M q = 32)) := by
      funext q
      refine decide_eq_decide.mpr ⟨fun z => ?_, fun z => ?_⟩
      · rw [← hc q (by omega)]; exact z.2
      · have l := s_ch_lt M q (by omega)
        exact ⟨by omega, (hc q l).trans z⟩
    unfold k_a1 s_a1
    rw [eb, h2]
  have b1 := s_a1_bd h4.2
  have b2 := s_a2d_bd h4.2
  have b3 := s_a2l_bd h4.2
  have s2 : ∀ i, k_sort (k_at K) i = zso (s_ch M i) := fun i => by
    unfold k_at
    rw [k_2s _ _ _ (by decide), k_2s _ _ _ (by decide), k_2s _ _ _ (by decide)]
    exact hs i
  have g1 : k_at K 1 = K 1 := rfl
  have g22 : k_at K 2 2 = s_a1 M := ea
  have g24 : k_at K 2 4 = s_a1 M := ea
  have g21 : k_at K 2 1 = K 2 1 := rfl
  have g23 : k_at K 2 3 = zso (s_c1 M) := by show k_sort K (k_a1 K) = _; rw [hs, ea]; rfl
  have el : k_le (k_at K) = s_a2l M := by
    have eb : (fun q => decide (k_sort (k_at K) q = 1)) = (fun q => decide (97 ≤ s_ch M q ∧ s_ch M q ≤ 122)) := by
      funext q
      refine decide_eq_decide.mpr ?_
      rw [s2]
      unfold zso
      omega
    unfold k_le s_a2l
    rw [eb, g22]
  have ed : k_de (k_at K) = s_a2d M := by
    have eb : (fun q => decide (k_sort (k_at K) q = 2)) = (fun q => decide (48 ≤ s_ch M q ∧ s_ch M q ≤ 57)) := by
      funext q
      refine decide_eq_decide.mpr ?_
      rw [s2]
      unfold zso
      omega
    unfold k_de s_a2d
    rw [eb, g22]
  have ev : k_dv (k_at K) = (if s_vd M < 100 then s_vd M else 100) := by
    unfold k_dv s_vd
    rw [g22]
    exact kv_eq s2 hc _ _ _ _ (by omega) (by decide)
  have bv := z_val_bd M (Int.toNat (121 - s_a1 M)) (s_a1 M) 0 (by omega)
  have bv2 : 0 ≤ s_vd M ∧ s_vd M ≤ 999 := bv
  have hz : k_sort K (k_a1 K) = zso (s_c1 M) := g23
  have bc := s_ch_bd M (s_a1 M)
  have hcc : s_c1 M = s_ch M (s_a1 M) := rfl
  have lc := s_ch_lt M (s_a1 M)
  unfold f_kst f_step
  by_cases q1 : s_c1 M = -9
  · have z : zso (s_c1 M) = 0 := by unfold zso; rw [if_pos q1]
    rw [hz, z, if_neg (by decide), if_neg (by decide), if_pos rfl, if_pos q1]
    exact tkR_mk h g1 g21 g22 g24 (by rw [g23, z]; rfl) (by rw [g23, z]; decide) (fun y => by rw [g23, z] at y; omega) (by omega)
  · rw [if_neg q1]
    by_cases q2 : 48 ≤ s_c1 M ∧ s_c1 M ≤ 57
    · have z : zso (s_c1 M) = 2 := by unfold zso; rw [if_neg q1, if_neg (by omega), if_pos q2]
      have ec : k_at K 1 (Int.toNat (k_at K 2 4)) = s_c1 M := by rw [g24, g1]; exact hc _ (lc (by omega))
      rw [hz, z, if_neg (by decide), if_pos rfl, if_pos q2]
      unfold f_sod
      rw [ec, ed, ev, g24]
      by_cases q3 : 99 < s_vd M ∨ s_c1 M = 48 ∧ 1 < s_a2d M - s_a1 M
      · rw [if_pos q3, if_pos (by omega)]
        exact tkR_mk h rfl rfl rfl g24 rfl (by show (0 : Int) ≤ 4 ∧ (4 : Int) ≤ 4; decide) (fun y => absurd (show (4 : Int) = 1 ∨ (4 : Int) = 2 from y) (by decide)) (by omega)
      · rw [if_neg q3, if_neg (by omega)]
        have g3 : mU (mU (k_at K) 2 5 (if s_vd M < 100 then s_vd M else 100)) 2 2 (s_a2d M) 2 3 = 2 := g23.trans z
        exact tkR_mk h rfl rfl rfl g24 (by rw [g3]; rfl) (by rw [g3]; decide) (fun y => by show (if s_vd M < 100 then s_vd M else 100) = s_vd M; omega) (by omega)
    · rw [if_neg q2]
      by_cases q3 : 97 ≤ s_c1 M ∧ s_c1 M ≤ 122
      · have z : zso (s_c1 M) = 1 := by unfold zso; rw [if_neg q1, if_pos q3]
        have ec : k_at K 1 (Int.toNat (k_at K 2 4)) = s_c1 M := by rw [g24, g1]; exact hc _ (lc (by omega))
        rw [hz, z, if_pos rfl, if_pos q3]
        unfold f_sol
        rw [ec, el, g24]
        have g3 : mU (mU (k_at K) 2 2 (s_a2l M)) 2 5 (if s_a2l M - s_a1 M = 1 then s_c1 M else 0) 2 3 = 1 := g23.trans z
        exact tkR_mk h rfl rfl rfl g24 (by rw [g3]; rfl) (by rw [g3]; decide) (fun _ => rfl) (by omega)
      · have z : zso (s_c1 M) = (if s_c1 M = 59 then 3 else 4) := by unfold zso; rw [if_neg q1, if_neg q3, if_neg q2]
        have z3 : zso (s_c1 M) = 3 ∨ zso (s_c1 M) = 4 := by rw [z]; omega
        rw [hz, if_neg (by omega), if_neg (by omega), if_neg (by omega), if_neg q3]
        have g3 : mU (k_at K) 2 2 (k_a1 K + 1) 2 3 = zso (s_c1 M) := g23
        exact tkR_mk h rfl rfl (by show k_a1 K + 1 = _; rw [ea]) g24 (by rw [g3, z]; omega) (by rw [g3]; omega) (fun y => by rw [g3] at y; omega) (by have := lc (by omega); omega)
