/-! Allot: class and reference. -/
def cb (st : Int) : Nat → Nat
  | 0 => 0
  | n + 1 => cb st n + (if zb st n then 1 else 0)
theorem cb_s1 {st : Int} {n : Nat} (h : zb st n) : cb st (n + 1) = cb st n + 1 := by
  show cb st n + (if zb st n then 1 else 0) = _
  rw [if_pos h]
theorem cb_s0 {st : Int} {n : Nat} (h : ¬ zb st n) : cb st (n + 1) = cb st n := by
  show cb st n + (if zb st n then 1 else 0) = _
  rw [if_neg h]
  rfl
theorem cb_add (st : Int) (m : Nat) : ∀ d : Nat, cb st m ≤ cb st (m + d)
  | 0 => Nat.le_refl _
  | d + 1 => Nat.le_trans (cb_add st m d) (Nat.le_add_right _ _)
theorem cb_mono {st : Int} {m n : Nat} (h : m ≤ n) : cb st m ≤ cb st n := by
  have := cb_add st m (n - m)
  rwa [show m + (n - m) = n by omega] at this
theorem cb_le (st : Int) : ∀ n : Nat, cb st n ≤ n
  | 0 => Nat.le_refl _
  | n + 1 => by
    have := cb_le st n
    by_cases y : zb st n
    · rw [cb_s1 y]; omega
    · rw [cb_s0 y]; omega
theorem cb_at {st : Int} {k : Nat} : ∀ n : Nat, k < cb st n → ∃ s, s < n ∧ zb st s ∧ cb st s = k
  | 0, h => absurd h (Nat.not_lt_zero _)
  | n + 1, h => by
    by_cases y : zb st n
    · rw [cb_s1 y] at h
      by_cases z : k = cb st n
      · exact ⟨n, by omega, y, z.symm⟩
      · obtain ⟨s, a, b, c⟩ := cb_at n (show k < cb st n by omega)
        exact ⟨s, by omega, b, c⟩
    · rw [cb_s0 y] at h
      obtain ⟨s, a, b, c⟩ := cb_at n h
      exact ⟨s, by omega, b, c⟩
theorem cb_lt {st : Int} {s n : Nat} (h : s < n) (hb : zb st s) : cb st s < cb st n := by
  have a := cb_s1 hb
  have b := cb_mono (st := st) (show s + 1 ≤ n by omega)
  omega
theorem cb_inj {st : Int} {s t : Nat} (hs : zb st s) (ht : zb st t) (h : cb st s = cb st t) : s = t := by
  rcases Nat.lt_trichotomy s t with y | y | y
  · have := cb_lt y hs; omega
  · exact y
  · have := cb_lt y ht; omega
theorem bits_cb (st : Int) : ∀ n : Nat, s_bitsN st n = (cb st n : Int)
  | 0 => rfl
  | n + 1 => by
    have ih := bits_cb st n
    have e : s_bitsN st (n + 1) = s_bitsN st n + st / zp (n : Int) % 2 := rfl
    rw [e, ih]
    by_cases y : zb st n
    · have y2 : st / zp (n : Int) % 2 = 1 := y
      rw [cb_s1 y, y2]; rfl
    · have y2 : ¬ st / zp (n : Int) % 2 = 1 := y
      rw [cb_s0 y]
      omega
theorem zp_le {a b : Nat} (h : a ≤ b) : zp (a : Int) ≤ zp (b : Int) := by
  unfold zp
  rw [Int.toNat_natCast, Int.toNat_natCast]
  exact Int.ofNat_le.mpr (Nat.pow_le_pow_right (by decide) h)
theorem cb_top {st : Int} {S : Nat} (h : 0 ≤ st ∧ st < zp (S : Int)) : ∀ d : Nat, cb st (S + d) = cb st S
  | 0 => rfl
  | d + 1 => by
    have ih := cb_top h d
    have y : ¬ zb st (S + d) := fun z => by
      have z2 : st / zp ((S + d : Nat) : Int) % 2 = 1 := z
      have l := zp_le (show S ≤ S + d by omega)
      rw [Int.ediv_eq_zero_of_lt h.1 (by omega)] at z2
      omega
    rw [show S + (d + 1) = S + d + 1 by omega, cb_s0 y, ih]
theorem zp2_s (k : Nat) : zp (2 * ((k : Int) + 1)) = zp (2 * (k : Int)) * 4 := by
  unfold zp
  rw [show Int.toNat (2 * ((k : Int) + 1)) = 2 * k + 2 by omega, show Int.toNat (2 * (k : Int)) = 2 * k by omega, Nat.pow_add]
  push_cast
  rfl
theorem zq_zp (k : Nat) : zq (k : Int) = zp (2 * (k : Int)) := by
  unfold zq zp
  rw [Int.toNat_natCast, show Int.toNat (2 * (k : Int)) = 2 * k by omega, Nat.pow_mul]
/-- a sum over the sayings of a set -/
def gSum (st : Int) (f : Nat → Int) : Nat → Int
  | 0 => 0
  | n + 1 => gSum st f n + (if zb st n then f n else 0)
theorem gSum_1 {st : Int} {f : Nat → Int} {n : Nat} (h : zb st n) : gSum st f (n + 1) = gSum st f n + f n := by
  show gSum st f n + (if zb st n then f n else 0) = _
  rw [if_pos h]
theorem gSum_0 {st : Int} {f : Nat → Int} {n : Nat} (h : ¬ zb st n) : gSum st f (n + 1) = gSum st f n := by
  show gSum st f n + (if zb st n then f n else 0) = _
  rw [if_neg h, Int.add_zero]
theorem gSum_cong {st : Int} {f g : Nat → Int} : ∀ n : Nat, (∀ s, s < n → zb st s → f s = g s) → gSum st f n = gSum st g n
  | 0, _ => rfl
  | n + 1, h => by
    have ih := gSum_cong n (fun s hs => h s (by omega))
    by_cases y : zb st n
    · rw [gSum_1 y, gSum_1 y, ih, h n (by omega) y]
    · rw [gSum_0 y, gSum_0 y, ih]
theorem gSum_mono {st : Int} {f : Nat → Int} {m : Nat} : ∀ d : Nat, (∀ s, s < m + d → zb st s → 0 ≤ f s) → gSum st f m ≤ gSum st f (m + d)
  | 0, _ => Int.le_refl _
  | d + 1, h => by
    have ih := gSum_mono d (fun s hs => h s (by omega)) (m := m)
    rw [show m + (d + 1) = m + d + 1 by omega]
    by_cases y : zb st (m + d)
    · have := h (m + d) (by omega) y
      rw [gSum_1 y]; omega
    · rw [gSum_0 y]; exact ih
theorem gSum_le {st : Int} {f : Nat → Int} {m n : Nat} (h : m ≤ n) (hf : ∀ s, s < n → zb st s → 0 ≤ f s) : gSum st f m ≤ gSum st f n := by
  have := gSum_mono (st := st) (f := f) (m := m) (n - m) (by rw [show m + (n - m) = n by omega]; exact hf)
  rwa [show m + (n - m) = n by omega] at this
theorem gSum_bd {st : Int} {f : Nat → Int} {B : Int} : ∀ n : Nat, (∀ s, s < n → zb st s → 0 ≤ f s ∧ f s ≤ B) → 0 ≤ gSum st f n ∧ (0 ≤ B → gSum st f n ≤ B * n)
  | 0, _ => ⟨Int.le_refl _, fun _ => by simp [gSum]⟩
  | n + 1, h => by
    have ih := gSum_bd n (fun s hs => h s (by omega))
    have e : B * ((n + 1 : Nat) : Int) = B * (n : Int) + B := by push_cast; rw [Int.mul_add, Int.mul_one]
    by_cases y : zb st n
    · have := h n (by omega) y
      rw [gSum_1 y, e]
      exact ⟨by omega, fun z => by have := ih.2 z; omega⟩
    · rw [gSum_0 y, e]
      exact ⟨ih.1, fun z => by have := ih.2 z; omega⟩
/-! What the class lays down. -/
theorem apk_row (V K : Nat → Nat → Int) (mb : Nat) (sy : Int) : ∀ n j : Nat, f_apk V K (mb : Int) sy n 11 j = if mb * 4 ≤ j ∧ j < mb * 4 + n then c_few V sy ((j - mb * 4 : Nat) : Int) else K 11 j
  | 0, j => by
    rw [if_neg (by omega)]
    rfl
  | n + 1, j => by
    have ih := apk_row V K mb sy n j
    have e : f_apk V K (mb : Int) sy (n + 1) = mU (f_apk V K (mb : Int) sy n) 11 (Int.toNat ((mb : Int) * 4 + (n : Int))) (c_few V sy (n : Int)) := rfl
    rw [e, show Int.toNat ((mb : Int) * 4 + (n : Int)) = mb * 4 + n by omega]
    by_cases y : j = mb * 4 + n
    · rw [y, mU_eq, if_pos (by omega), show mb * 4 + n - mb * 4 = n by omega]
    · rw [mU_ni _ _ _ _ y, ih]
      by_cases z : mb * 4 ≤ j ∧ j < mb * 4 + n
      · rw [if_pos z, if_pos (by omega)]
      · rw [if_neg z, if_neg (by omega)]
theorem pa_row (V : Nat → Nat → Int) (st : Int) : ∀ n : Nat, f_pa V st n 9 3 = (cb st n : Int) ∧ (∀ s, s < n → zb st s → f_pa V st n 10 (cb st s) = (s : Int) ∧ ∀ kd, kd < 4 → f_pa V st n 11 (cb st s * 4 + kd) = c_few V (s : Int) (kd : Int))
  | 0 => ⟨mU_eq _ _ _ _, fun s hs => by omega⟩
  | n + 1 => by
    obtain ⟨a, b⟩ := pa_row V st n
    have e : f_pa V st (n + 1) = if st / zp (n : Int) % 2 = 1 then f_apk V (f_adm (f_pa V st n) (n : Int)) (f_pa V st n 9 3) (n : Int) 4 else f_pa V st n := rfl
    by_cases y : zb st n
    · rw [e, if_pos y, a]
      have o9 : f_apk V (f_adm (f_pa V st n) (n : Int)) (cb st n : Int) (n : Int) 4 9 3 = (cb st (n + 1) : Int) := by
        rw [f_apk_o _ _ _ _ _ 9 (by decide)]
        unfold f_adm
        rw [mU_eq, a, cb_s1 y]; rfl
      have r10 : ∀ j, f_apk V (f_adm (f_pa V st n) (n : Int)) (cb st n : Int) (n : Int) 4 10 j = if j = cb st n then (n : Int) else f_pa V st n 10 j := fun j => by
        rw [f_apk_o _ _ _ _ _ 10 (by decide)]
        unfold f_adm
        rw [mU_nf _ _ _ _ (by decide), a, Int.toNat_natCast]
        by_cases z : j = cb st n
        · rw [z, mU_eq, if_pos rfl]
        · rw [mU_ni _ _ _ _ z, if_neg z]
      have r11 : ∀ j, f_adm (f_pa V st n) (n : Int) 11 j = f_pa V st n 11 j := fun j => by
        unfold f_adm
        rw [mU_nf _ _ _ _ (by decide), mU_nf _ _ _ _ (by decide)]
      refine ⟨o9, fun s hs hb => ?_⟩
      by_cases z : s = n
      · subst z
        refine ⟨by rw [r10, if_pos rfl], fun kd hk => ?_⟩
        rw [apk_row, if_pos (by omega), show cb st s * 4 + kd - cb st s * 4 = kd by omega]
      · have lt := cb_lt (st := st) (show s < n by omega) hb
        obtain ⟨c, d⟩ := b s (by omega) hb
        refine ⟨by rw [r10, if_neg (by omega)]; exact c, fun kd hk => ?_⟩
        rw [apk_row, if_neg (by omega), r11]
        exact d kd hk
    · rw [e, if_neg y, cb_s0 y]
      refine ⟨a, fun s hs hb => ?_⟩
      by_cases z : s = n
      · subst z; exact absurd hb y
      · exact b s (by omega) hb
theorem few_eq {V M : Nat → Nat → Int} (hI : mI M) (h : cR V M) {s kd : Int} (hs : 0 ≤ s ∧ s < M 5 0) (hk : 0 ≤ kd ∧ kd < 4) : (0 ≤ c_few V s kd ∧ c_few V s kd ≤ 3 ∧ s_lk M s kd = c_few V s kd) ∨ (c_few V s kd = -9 ∧ s_lk M s kd = 1000000) := by
  have p := mI_sy hI hs
  have e8 := (h.sy hs).2.2
  have hw : ∀ q : Int, 0 ≤ q → q ≤ 3 → c_hw V s kd q = s_lkh M s kd q := fun q q0 q1 => by
    have z := z_sh (fe := kd) (nn := q) (sd := 1) (by omega) (by omega) (by omega)
    unfold c_hw s_lkh s_ln
    rw [e8, h.he, h.la (by omega) hs, z.1, z.2.1, z.2.2, h.wind hI (by omega)]
  have key : ∀ i : Nat, i ≤ 4 → (0 ≤ zfind (fun q => decide (¬ c_hw V s kd q = 0)) i (4 - (i : Int)) ∧ zfind (fun q => decide (¬ c_hw V s kd q = 0)) i (4 - (i : Int)) ≤ 3 ∧ s_lkN M s kd i = zfind (fun q => decide (¬ c_hw V s kd q = 0)) i (4 - (i : Int))) ∨ (zfind (fun q => decide (¬ c_hw V s kd q = 0)) i (4 - (i : Int)) = -9 ∧ s_lkN M s kd i = 1000000) := by
    intro i
    induction i with
    | zero => intro _; exact Or.inr ⟨rfl, rfl⟩
    | succ i ih =>
      intro hi
      have e1 : zfind (fun q => decide (¬ c_hw V s kd q = 0)) (i + 1) (4 - ((i + 1 : Nat) : Int)) = if decide (¬ c_hw V s kd (4 - ((i + 1 : Nat) : Int)) = 0) then (4 - ((i + 1 : Nat) : Int)) else zfind (fun q => decide (¬ c_hw V s kd q = 0)) i (4 - ((i + 1 : Nat) : Int) + 1) := rfl
      have e2 : s_lkN M s kd (i + 1) = if ¬ (s_lkh M s kd (3 - (i : Int)) = 0) then 3 - (i : Int) else s_lkN M s kd i := rfl
      rw [e1, e2, show 4 - ((i + 1 : Nat) : Int) + 1 = 4 - (i : Int) by omega, show 4 - ((i + 1 : Nat) : Int) = 3 - (i : Int) by omega, hw (3 - (i : Int)) (by omega) (by omega)]
      by_cases y : s_lkh M s kd (3 - (i : Int)) = 0
      · have y2 : ¬ ¬ s_lkh M s kd (3 - (i : Int)) = 0 := fun z => z y
        rw [if_neg (show ¬ (decide (¬ s_lkh M s kd (3 - (i : Int)) = 0) = true) by rw [decide_eq_true_iff]; exact y2), if_neg y2]
        exact ih (by omega)
      · rw [if_pos (show (decide (¬ s_lkh M s kd (3 - (i : Int)) = 0) = true) from decide_eq_true y), if_pos y]
        exact Or.inl ⟨by omega, by omega, rfl⟩
  unfold c_few s_lk
  by_cases y : kd = 0
  · rw [if_pos y, if_pos y]
    exact key 4 (by omega)
  · rw [if_neg y, if_neg y]
    exact key 3 (by omega)
