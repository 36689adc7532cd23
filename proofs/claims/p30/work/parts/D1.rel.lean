/-! The class's state, and the reference's: what they have in common between calls. -/
def moR (V : Nat → Nat → Int) (i : Nat) (v : Nat → Int) (S : Int) : Prop :=
  V i 0 = v 0 ∧ V i 1 = v 1 ∧ V i 2 = v 12 ∧ (∀ k : Nat, k < 4 → V (i + 1) k = v (2 + k)) ∧
  (∀ p : Nat, p < 6 → (0 ≤ V (i + 2) p ∧ V (i + 2) p < 64) ∧ ∀ s : Nat, s < 6 → V (i + 2) p / zp (s : Int) % 2 = if (s : Int) < S then v (6 + s) / zp (p : Int) % 2 else 0) ∧
  (∀ k : Nat, (k : Int) < v 12 → V (i + 3) k = v (13 + k) ∧ V (i + 4) k = v (21 + k))
def paS (V : Nat → Nat → Int) (i : Nat) : Prop := paI V i ∧ ∀ j k : Nat, j < k → k < 10 → ¬ Int.toNat (V (i + 1) j) = Int.toNat (V (i + 1) k)
def paR (V : Nat → Nat → Int) (i : Nat) (v : Nat → Int) (off : Nat) (n S : Int) : Prop := V i 1 = n ∧ ∀ j : Nat, (j : Int) < n → moR V (Int.toNat (V (i + 1) j)) (fun k => v (off + 29 * j + k)) S
/-- the text -/
def xR (V M : Nat → Nat → Int) : Prop := V 0 1 = M 1 0 ∧ ∀ k : Nat, k < 120 → V 1 k = M 0 k % 256
/-- what was told -/
def tdT (V M : Nat → Nat → Int) (i : Nat) : Prop := V i 7 = M 2 0 ∧ V i 8 = M 5 0 ∧ (0 ≤ V i 9 ∧ V i 9 ≤ 6) ∧ (if 1 < V i 9 then V i 9 else 1) = M 9 0 ∧ (∀ k : Nat, (k : Int) < M 2 0 → V (i + 1) k = M 3 k ∧ V (i + 2) k = M 4 k) ∧ (∀ k : Nat, (k : Int) < M 5 0 → V (i + 3) k = M 6 k ∧ V (i + 4) k = M 7 k ∧ V (i + 5) k = M 8 k) ∧ (∀ k : Nat, (k : Int) < M 9 0 → V (i + 6) k = M 10 k)
def tR (V M : Nat → Nat → Int) : Prop := isTo (Int.toNat (V 0 3)) ∧ isTo (Int.toNat (V 0 4)) ∧ ¬ Int.toNat (V 0 3) = Int.toNat (V 0 4) ∧ tdT V M (Int.toNat (V 0 3))
/-- what was seen -/
def sR (V M : Nat → Nat → Int) : Prop := V 4 4 = M 28 0 ∧ ∀ k : Nat, (k : Int) < M 28 0 → (V 5 k = M 26 k ∧ V 6 k = M 27 k) ∧ (-4 ≤ V 7 k ∧ V 7 k ≤ 4) ∧ (0 ≤ V 8 k ∧ V 8 k ≤ 5)
/-- the images -/
def iR (V M : Nat → Nat → Int) : Prop := ∀ q : Nat, q < 2 → V (37 + q) 2 = M 23 q ∧ paS V (33 + 2 * q) ∧ (M 23 q = 1 → moR V (44 + 5 * q) (fun k => M 22 (29 * q + k)) (M 5 0) ∧ paR V (33 + 2 * q) (M 21) (290 * (1 + q)) (M 20 (1 + q)) (M 5 0))
/-- now, and what may be undone -/
def nR (V M : Nat → Nat → Int) : Prop := moR V 39 (M 19) (M 5 0) ∧ paS V 31 ∧ paR V 31 (M 21) 0 (M 20 0) (M 5 0)
def cR (V M : Nat → Nat → Int) : Prop := tR V M ∧ xR V M ∧ sR V M ∧ iR V M ∧ nR V M ∧ V 0 12 = M 29 0
-- congruences
theorem moR.of {V W : Nat → Nat → Int} {i j : Nat} {v : Nat → Int} {S : Int} (h : moR V i v S) (e : ∀ k, k < 5 → W (j + k) = V (i + k)) : moR W j v S := by
  have e0 := e 0 (by omega)
  rw [Nat.add_zero, Nat.add_zero] at e0
  unfold moR
  rw [e0, e 1 (by omega), e 2 (by omega), e 3 (by omega), e 4 (by omega)]
  exact h
theorem moR.v {V : Nat → Nat → Int} {i : Nat} {v w : Nat → Int} {S : Int} (h : moR V i v S) (h12 : v 12 ≤ 8) (e : ∀ k, k < 29 → w k = v k) : moR V i w S := by
  obtain ⟨h1, h2, h3, h4, h5, h6⟩ := h
  refine ⟨by rw [e 0 (by omega)]; exact h1, by rw [e 1 (by omega)]; exact h2, by rw [e 12 (by omega)]; exact h3, fun k hk => by rw [e (2 + k) (by omega)]; exact h4 k hk, fun p hp => ⟨(h5 p hp).1, fun s hs => by rw [e (6 + s) (by omega)]; exact (h5 p hp).2 s hs⟩, fun k hk => ?_⟩
  rw [e 12 (by omega)] at hk
  rw [e (13 + k) (by omega), e (21 + k) (by omega)]
  exact h6 k hk
theorem paS.of {V W : Nat → Nat → Int} {i : Nat} (h : paS V i) (e1 : W i = V i) (e2 : W (i + 1) = V (i + 1)) : paS W i := by
  refine ⟨h.1.of e1 e2, ?_⟩
  rw [e2]
  exact h.2
theorem paS.mo {V : Nat → Nat → Int} {i j : Nat} (h : paS V i) (hj : j < 10) : isMo (Int.toNat (V (i + 1) j)) ∧ 54 + 25 * (i - 31) ≤ Int.toNat (V (i + 1) j) ∧ Int.toNat (V (i + 1) j) < 104 + 25 * (i - 31) := h.1.2 j hj
theorem paS.ne {V : Nat → Nat → Int} {i j k : Nat} (h : paS V i) (hj : j < 10) (hk : k < 10) (hjk : j ≠ k) : ¬ Int.toNat (V (i + 1) j) = Int.toNat (V (i + 1) k) := by
  rcases Nat.lt_or_gt_of_ne hjk with q | q
  · exact h.2 j k q hk
  · exact fun z => h.2 k j q hj z.symm
theorem paS.mo31 {V : Nat → Nat → Int} {j : Nat} (h : paS V 31) (hj : j < 10) : isMo (Int.toNat (V 32 j)) ∧ 54 ≤ Int.toNat (V 32 j) ∧ Int.toNat (V 32 j) < 104 := by
  have a := h.mo hj
  rw [show (31 + 1 : Nat) = 32 from rfl] at a
  exact ⟨a.1, by omega, by omega⟩
theorem paS.ne31 {V : Nat → Nat → Int} {j k : Nat} (h : paS V 31) (hj : j < 10) (hk : k < 10) (hjk : j ≠ k) : ¬ Int.toNat (V 32 j) = Int.toNat (V 32 k) := h.ne hj hk hjk
/-- a past whose cells are let alone -/
theorem paR.of {V W : Nat → Nat → Int} {i : Nat} {v w : Nat → Int} {off : Nat} {n S : Int} (hs : paS V i) (hn : n ≤ 10) (h : paR V i v off n S) (e1 : W i = V i) (e2 : W (i + 1) = V (i + 1)) (e : ∀ g, 54 + 25 * (i - 31) ≤ g → g < 104 + 25 * (i - 31) → W g = V g) (ew : ∀ k, k < 290 → w (off + k) = v (off + k)) (h12 : ∀ j : Nat, (j : Int) < n → v (off + 29 * j + 12) ≤ 8) : paR W i w off n S := by
  refine ⟨by rw [e1]; exact h.1, fun j hj => ?_⟩
  rw [e2]
  have m := hs.mo (j := j) (by omega)
  have hm := m.1
  unfold isMo at hm
  have a := h.2 j hj
  refine (a.v (h12 j hj) (w := fun k => w (off + 29 * j + k)) (fun k hk => ?_)).of (fun k hk => e _ (by omega) (by unfold isMo at m; omega))
  show w (off + 29 * j + k) = v (off + 29 * j + k)
  rw [Nat.add_assoc, ew _ (by omega)]
theorem mI_12 {M : Nat → Nat → Int} (hI : mI M) : M 19 12 ≤ 8 := (mI_v hI).2.2.2.2.1.2
theorem mI_12p {M : Nat → Nat → Int} (hI : mI M) {j : Nat} (hj : (j : Int) < M 20 0) : M 21 (0 + 29 * j + 12) ≤ 8 := by
  have a := (hI.2.2.2.2.2.2.2.2.2.2.1 j hj).2.2.2.2.1.2
  rw [Nat.zero_add]
  exact a
theorem mI_im {M : Nat → Nat → Int} (hI : mI M) {q : Nat} (hq : q < 2) (hk : M 23 q = 1) : M 22 (29 * q + 12) ≤ 8 ∧ (0 ≤ M 20 (1 + q) ∧ M 20 (1 + q) ≤ 10) ∧ (∀ j : Nat, (j : Int) < M 20 (1 + q) → M 21 (290 * (1 + q) + 29 * j + 12) ≤ 8) := by
  obtain ⟨a, b⟩ := hI.2.2.2.2.2.2.2.2.2.2.2.1 q hq
  obtain ⟨c1, c2, c3⟩ := b hk
  exact ⟨c1.2.2.2.2.1.2, c2, fun j hj => (c3 j hj).2.2.2.2.1.2⟩
-- parts that a call lets alone
theorem tR.of {V W M N : Nat → Nat → Int} (h : tR V M) (e3 : W 0 3 = V 0 3) (e4 : W 0 4 = V 0 4) (e : ∀ k, k < 8 → W (Int.toNat (V 0 3) + k) = V (Int.toNat (V 0 3) + k)) (m2 : N 2 0 = M 2 0) (m5 : N 5 0 = M 5 0) (m9 : N 9 0 = M 9 0) (m : ∀ f, f = 3 ∨ f = 4 ∨ f = 6 ∨ f = 7 ∨ f = 8 ∨ f = 10 → ∀ k, k < 6 → N f k = M f k) (b2 : M 2 0 ≤ 6) (b5 : M 5 0 ≤ 6) (b9 : M 9 0 ≤ 6) : tR W N := by
  obtain ⟨h1, h2, h3, t1, t2, t3, t4, t5, t6, t7⟩ := h
  have e0 := e 0 (by omega)
  rw [Nat.add_zero] at e0
  unfold tR tdT
  rw [e3, e4, e0, e 1 (by omega), e 2 (by omega), e 3 (by omega), e 4 (by omega), e 5 (by omega), e 6 (by omega), m2, m5, m9]
  refine ⟨h1, h2, h3, t1, t2, t3, t4, fun k hk => ?_, fun k hk => ?_, fun k hk => ?_⟩
  · rw [m 3 (by decide) k (by omega), m 4 (by decide) k (by omega)]; exact t5 k hk
  · rw [m 6 (by decide) k (by omega), m 7 (by decide) k (by omega), m 8 (by decide) k (by omega)]; exact t6 k hk
  · rw [m 10 (by decide) k (by omega)]; exact t7 k hk
theorem xR.of {V W M N : Nat → Nat → Int} (h : xR V M) (e0 : W 0 1 = V 0 1) (e1 : W 1 = V 1) (m0 : N 0 = M 0) (m1 : N 1 0 = M 1 0) : xR W N := by
  unfold xR
  rw [e0, e1, m0, m1]
  exact h
theorem sR.of {V W M N : Nat → Nat → Int} (h : sR V M) (e4 : W 4 4 = V 4 4) (e5 : W 5 = V 5) (e6 : W 6 = V 6) (e7 : W 7 = V 7) (e8 : W 8 = V 8) (m6 : N 26 = M 26) (m7 : N 27 = M 27) (m8 : N 28 0 = M 28 0) : sR W N := by
  unfold sR
  rw [e4, e5, e6, e7, e8, m6, m7, m8]
  exact h
theorem iR.of {V W M N : Nat → Nat → Int} (hI : mI M) (h : iR V M) (e : ∀ g, (33 ≤ g ∧ g < 39) ∨ (44 ≤ g ∧ g < 54) ∨ 104 ≤ g → W g = V g) (m5 : N 5 0 = M 5 0) (m23 : N 23 = M 23) (m22 : N 22 = M 22) (m20 : ∀ k, 0 < k → N 20 k = M 20 k) (m21 : ∀ k, 290 ≤ k → N 21 k = M 21 k) : iR W N := fun q hq => by
  obtain ⟨a, b, c⟩ := h q hq
  rw [e (37 + q) (by omega), m23, m22, m5, m20 (1 + q) (by omega)]
  refine ⟨a, b.of (e _ (by omega)) (e _ (by omega)), fun z => ?_⟩
  obtain ⟨c1, c2⟩ := c z
  obtain ⟨i1, i2, i3⟩ := mI_im hI hq z
  refine ⟨c1.of (fun k hk => e _ (by omega)), ?_⟩
  exact c2.of b i2.2 (e _ (by omega)) (e _ (by omega)) (fun g g1 g2 => e g (by omega)) (fun k hk => m21 _ (by omega)) i3
theorem nR.of {V W M N : Nat → Nat → Int} (hI : mI M) (h : nR V M) (e : ∀ g, g = 31 ∨ g = 32 ∨ (39 ≤ g ∧ g < 44) ∨ (54 ≤ g ∧ g < 104) → W g = V g) (m5 : N 5 0 = M 5 0) (m19 : N 19 = M 19) (m20 : N 20 0 = M 20 0) (m21 : ∀ k, k < 290 → N 21 k = M 21 k) : nR W N := by
  obtain ⟨a, b, c⟩ := h
  unfold nR
  rw [m5, m19, m20]
  have h20 := (mI_now hI).2.2.2.2.2.2.2.1
  refine ⟨a.of (fun k hk => e _ (by omega)), b.of (e _ (by omega)) (e _ (by omega)), ?_⟩
  exact c.of b h20.2 (e _ (by omega)) (e _ (by omega)) (fun g g1 g2 => e g (by omega)) (fun k hk => m21 _ (by omega)) (fun j hj => mI_12p hI hj)
-- what the class's bounds rest on
theorem cR.tob {V M : Nat → Nat → Int} (hI : mI M) (h : cR V M) : toI V (Int.toNat (V 0 3)) := by
  obtain ⟨-, -, -, t1, t2, t3, t4, t5, t6, t7⟩ := h.1
  obtain ⟨h1, h2, h3, h4, h5, h6, h7, h8, h9, h10, h11, h12, h13, h14⟩ := hI
  unfold toI
  rw [t1, t2, t4]
  refine ⟨h3, h4, t3, fun k hk => ?_, fun k hk => ?_, fun k hk => ?_⟩
  · obtain ⟨a, b⟩ := t5 k hk
    rw [a, b]; exact h6 k hk
  · obtain ⟨a, b, c⟩ := t6 k hk
    rw [a, b, c]; exact h7 k hk
  · rw [t7 k hk]; exact h8 k hk
theorem moR.mob {V : Nat → Nat → Int} {i : Nat} {v : Nat → Int} {P S : Int} (h : moR V i v S) (hv : vI P S v) (hS : S ≤ 6) : moI V i := by
  obtain ⟨h1, h2, h3, h4, h5, h6⟩ := h
  obtain ⟨v1, v2, v3, v4, v5, v6, v7⟩ := hv
  unfold moI
  rw [h1, h2, h3]
  refine ⟨v1, v2, v5, fun k hk => ?_, fun k hk => (h5 k hk).1, fun k hk => ?_⟩
  · rw [h4 k hk]; exact v3 k hk
  · obtain ⟨a, b⟩ := h6 k hk
    have c := v6 k hk
    rw [a, b]; omega
theorem cR.cIb {V M : Nat → Nat → Int} (hI : mI M) (h : cR V M) : cI V := by
  obtain ⟨ht, hx, hs, hi, hn, htr⟩ := id h
  have h5 := (mI_now hI).2.2.1
  have h23 : ∀ q : Nat, q < 2 → M 23 q = 0 ∨ M 23 q = 1 := fun q hq => (hI.2.2.2.2.2.2.2.2.2.2.2.1 q hq).1
  have im : ∀ q : Nat, isIm q → ∃ w, w < 2 ∧ q = 37 + w ∧ 33 + 2 * (q - 37) = 33 + 2 * w := fun q hq => ⟨q - 37, by unfold isIm at hq; omega, by unfold isIm at hq; omega, rfl⟩
  refine ⟨ht.1, ht.2.1, ht.2.2.1, by rw [hx.1]; exact hI.1, h.tob hI, hn.1.mob (mI_v hI) h5.2, hn.2.1.1, fun q hq => ?_, fun q hq => ?_, ?_, fun k hk => ?_, fun k hk => ?_⟩
  · obtain ⟨w, w1, w2, w3⟩ := im q hq
    rw [w3]; exact (hi w w1).2.1.1
  · obtain ⟨w, w1, w2, w3⟩ := im q hq
    rw [w2, (hi w w1).1]; exact h23 w w1
  · rw [hs.1]; exact (mI_now hI).2.2.2.2.2.2.2.2
  · rw [hs.1] at hk
    obtain ⟨⟨a, b⟩, c, d⟩ := hs.2 k hk
    have e := hI.2.2.2.2.2.2.2.2.2.2.2.2.2 k hk
    have t8 := ht.2.2.2.2.1
    rw [a, b, t8]
    exact ⟨e.1, e.2, c, d⟩
  · rw [hx.2 k hk]; omega
