/-! What the class's methods answer and make of the state V. -/
/-- moment i becomes as moment j -/
def f_bec (V : Nat → Nat → Int) (i j : Nat) : Nat → Nat → Int :=
  let V1 := mU V i 0 (V j 0)
  let V2 := mU V1 i 1 (V1 j 1)
  let V3 := mU V2 i 2 (V2 j 2)
  cB (cB (cB (cB V3 (j + 1) (i + 1) 4) (j + 2) (i + 2) 6) (j + 3) (i + 3) 8) (j + 4) (i + 4) 8
theorem f_bec_o (V : Nat → Nat → Int) {i j g : Nat} (h : g < i ∨ i + 4 < g) : f_bec V i j g = V g := by
  unfold f_bec
  rw [cB_or _ _ _ (by omega), cB_or _ _ _ (by omega), cB_or _ _ _ (by omega), cB_or _ _ _ (by omega), mU_or _ _ _ (by omega), mU_or _ _ _ (by omega), mU_or _ _ _ (by omega)]
theorem f_bec_0 (V : Nat → Nat → Int) {i j : Nat} (h : j ≠ i) : f_bec V i j i = fun k => if k < 3 then V j k else V i k := by
  unfold f_bec
  rw [cB_or _ _ _ (by omega), cB_or _ _ _ (by omega), cB_or _ _ _ (by omega), cB_or _ _ _ (by omega)]
  funext k
  rcases k with _ | _ | _ | k <;> simp [mU, h]
  intro z; omega
theorem f_bec_1 (V : Nat → Nat → Int) {i j : Nat} (h : j ≠ i) (hi : isMo i) (hj : isMo j) : f_bec V i j (i + 1) = fun k => if k < 4 then V (j + 1) k else V (i + 1) k := by
  unfold isMo at hi hj
  unfold f_bec
  rw [cB_or _ _ _ (by omega), cB_or _ _ _ (by omega), cB_or _ _ _ (by omega)]
  funext k
  have e1 : j + 1 ≠ i := by omega
  simp [cB, mU, e1]
theorem f_bec_2 (V : Nat → Nat → Int) {i j : Nat} (h : j ≠ i) (hi : isMo i) (hj : isMo j) : f_bec V i j (i + 2) = fun k => if k < 6 then V (j + 2) k else V (i + 2) k := by
  unfold isMo at hi hj
  unfold f_bec
  rw [cB_or _ _ _ (by omega), cB_or _ _ _ (by omega)]
  funext k
  have e1 : j + 2 ≠ i := by omega
  have e2 : j + 2 ≠ i + 1 := by omega
  simp [cB, mU, e1, e2]
theorem f_bec_3 (V : Nat → Nat → Int) {i j : Nat} (h : j ≠ i) (hi : isMo i) (hj : isMo j) : f_bec V i j (i + 3) = fun k => if k < 8 then V (j + 3) k else V (i + 3) k := by
  unfold isMo at hi hj
  unfold f_bec
  rw [cB_or _ _ _ (by omega)]
  funext k
  have e1 : j + 3 ≠ i := by omega
  have e2 : j + 3 ≠ i + 1 := by omega
  have e3 : j + 3 ≠ i + 2 := by omega
  simp [cB, mU, e1, e2, e3]
theorem f_bec_4 (V : Nat → Nat → Int) {i j : Nat} (h : j ≠ i) (hi : isMo i) (hj : isMo j) : f_bec V i j (i + 4) = fun k => if k < 8 then V (j + 4) k else V (i + 4) k := by
  unfold isMo at hi hj
  unfold f_bec
  funext k
  have e1 : j + 4 ≠ i := by omega
  have e2 : j + 4 ≠ i + 1 := by omega
  have e3 : j + 4 ≠ i + 2 := by omega
  have e4 : j + 4 ≠ i + 3 := by omega
  simp [cB, mU, e1, e2, e3, e4]
/-- a past: how many, its moments, each in its own block -/
def paI (V : Nat → Nat → Int) (i : Nat) : Prop := (0 ≤ V i 1 ∧ V i 1 ≤ 10) ∧ ∀ k : Nat, k < 10 → isMo (Int.toNat (V (i + 1) k)) ∧ 54 + 25 * (i - 31) ≤ Int.toNat (V (i + 1) k) ∧ Int.toNat (V (i + 1) k) < 104 + 25 * (i - 31)
theorem paI.mo {V : Nat → Nat → Int} {i : Nat} (h : paI V i) {k : Int} (hk : 0 ≤ k ∧ k < 10) : isMo (Int.toNat (V (i + 1) (Int.toNat k))) := (h.2 _ (by omega)).1
theorem paI.of {V W : Nat → Nat → Int} {i : Nat} (h : paI V i) (e1 : W i = V i) (e2 : W (i + 1) = V (i + 1)) : paI W i := by
  unfold paI
  rw [e1, e2]
  exact h
/-- the oldest moment is lost -/
def f_los (V : Nat → Nat → Int) (i : Nat) : Nat → Nat → Int := fun g k => if g = i + 1 ∧ k < 9 then V (i + 1) (k + 1) else if g = i + 1 ∧ k = 9 then V (i + 1) 0 else if g = i ∧ k = 1 then V i 1 - 1 else V g k
def f_loN (V : Nat → Nat → Int) (i n : Nat) : Nat → Nat → Int := fun g k => if g = i + 1 ∧ k + 1 < n then V (i + 1) (k + 1) else V g k
theorem f_loN_1 (V : Nat → Nat → Int) (i : Nat) : f_loN V i 1 = V := by
  funext g k
  unfold f_loN
  rw [if_neg (by omega)]
theorem f_loN_succ (V : Nat → Nat → Int) (i : Nat) {n : Int} (h : 1 ≤ n) (x : Int) (hx : x = V (i + 1) (Int.toNat n)) : mU (f_loN V i (Int.toNat n)) (i + 1) (Int.toNat (n - 1)) x = f_loN V i (Int.toNat (n + 1)) := by
  funext g k
  have e : Int.toNat (n + 1) = Int.toNat n + 1 := by omega
  simp only [mU, f_loN]
  by_cases q : g = i + 1 ∧ k = Int.toNat (n - 1)
  · rw [if_pos q, if_pos (by omega), hx]
    congr 1; omega
  · rw [if_neg q]
    by_cases q2 : g = i + 1 ∧ k + 1 < Int.toNat n
    · rw [if_pos q2, if_pos (by omega)]
    · rw [if_neg q2, if_neg (by omega)]
theorem f_loN_rd (V : Nat → Nat → Int) (i : Nat) {n : Nat} : f_loN V i n (i + 1) n = V (i + 1) n := by
  simp only [f_loN]
  rw [if_neg (by omega)]
theorem f_los_e (V : Nat → Nat → Int) {i : Nat} (hp : (0 ≤ V i 1 ∧ V i 1 ≤ 10) ∧ 0 ≤ V (i + 1) 0) : mU (mU (f_loN V i 10) (i + 1) 9 ((Int.toNat (V (i + 1) 0) : Nat) : Int)) i 1 (V i 1 - 1) = f_los V i := by
  funext g k
  simp only [mU, f_loN, f_los]
  by_cases q1 : g = i + 1
  · subst q1
    by_cases q2 : k < 9
    · simp [q2, show ¬ k = 9 by omega]; intro z; omega
    · by_cases q3 : k = 9
      · simp [q3]; omega
      · simp [q2, q3]; intro z; omega
  · simp [q1]
theorem f_los_pa {V : Nat → Nat → Int} {i : Nat} (h : paI V i) (h1 : 1 ≤ V i 1) : paI (f_los V i) i ∧ f_los V i i 1 = V i 1 - 1 := by
  obtain ⟨h2, h3⟩ := h
  have e : f_los V i i 1 = V i 1 - 1 := by
    simp only [f_los]
    rw [if_neg (by omega), if_neg (by omega), if_pos ⟨trivial, trivial⟩]
  refine ⟨⟨by rw [e]; omega, fun k hk => ?_⟩, e⟩
  by_cases q : k < 9
  · have e2 : f_los V i (i + 1) k = V (i + 1) (k + 1) := by simp only [f_los]; rw [if_pos ⟨trivial, q⟩]
    rw [e2]
    exact h3 _ (by omega)
  · have e2 : f_los V i (i + 1) k = V (i + 1) 0 := by simp only [f_los]; rw [if_neg (by omega), if_pos ⟨trivial, by omega⟩]
    rw [e2]
    exact h3 _ (by omega)
theorem f_los_o (V : Nat → Nat → Int) {i g : Nat} (h1 : g ≠ i) (h2 : g ≠ i + 1) : f_los V i g = V g := by
  funext k
  simp [f_los, h1, h2]
/-- past i remembers moment j -/
def f_re1 (V : Nat → Nat → Int) (i : Nat) : Nat → Nat → Int := if 10 ≤ V i 1 then f_los V i else V
def f_reS (V : Nat → Nat → Int) (i : Nat) : Nat := Int.toNat (f_re1 V i (i + 1) (Int.toNat (f_re1 V i i 1)))
def f_rem (V : Nat → Nat → Int) (i j : Nat) : Nat → Nat → Int := mU (f_bec (f_re1 V i) (f_reS V i) j) i 1 (f_bec (f_re1 V i) (f_reS V i) j i 1 + 1)
theorem f_re1_pa {V : Nat → Nat → Int} {i : Nat} (h : paI V i) : paI (f_re1 V i) i ∧ f_re1 V i i 1 ≤ 9 := by
  unfold f_re1
  by_cases q : 10 ≤ V i 1
  · rw [if_pos q]
    obtain ⟨h1, h2⟩ := f_los_pa h (by omega)
    have h3 := h.1
    exact ⟨h1, by omega⟩
  · rw [if_neg q]
    exact ⟨h, by omega⟩
theorem f_re1_o (V : Nat → Nat → Int) {i g : Nat} (h1 : g ≠ i) (h2 : g ≠ i + 1) : f_re1 V i g = V g := by
  unfold f_re1
  by_cases q : 10 ≤ V i 1
  · rw [if_pos q, f_los_o V h1 h2]
  · rw [if_neg q]
theorem f_reS_mo {V : Nat → Nat → Int} {i : Nat} (h : paI V i) : isMo (f_reS V i) ∧ 54 + 25 * (i - 31) ≤ f_reS V i ∧ f_reS V i < 104 + 25 * (i - 31) := by
  obtain ⟨h1, h2⟩ := f_re1_pa h
  have h3 := h1.1
  exact h1.2 _ (by omega)
/-- what is no part of the past stays -/
theorem f_rem_o {V : Nat → Nat → Int} {i j g : Nat} (h : paI V i) (h1 : g ≠ i) (h2 : g ≠ i + 1) (h3 : g < 54 + 25 * (i - 31) ∨ 104 + 25 * (i - 31) ≤ g) : f_rem V i j g = V g := by
  obtain ⟨q1, q2, q3⟩ := f_reS_mo h
  unfold isMo at q1
  unfold f_rem
  rw [mU_or _ _ _ h1, f_bec_o _ (by omega), f_re1_o V h1 h2]
theorem f_rem_lo {V : Nat → Nat → Int} {j g : Nat} (h : paI V 31) (h1 : g < 31 ∨ (33 ≤ g ∧ g < 54)) : f_rem V 31 j g = V g := f_rem_o h (by omega) (by omega) (by omega)
/-- moment j becomes as past i's latest -/
def f_brg (V : Nat → Nat → Int) (i j : Nat) : Nat → Nat → Int := if 0 < V i 1 then f_bec (mU V i 1 (V i 1 - 1)) j (Int.toNat (mU V i 1 (V i 1 - 1) (i + 1) (Int.toNat (mU V i 1 (V i 1 - 1) i 1)))) else V
/-- past i becomes as past j -/
def f_pbN (V : Nat → Nat → Int) (i j : Nat) : Nat → (Nat → Nat → Int)
  | 0 => mU V i 1 (V j 1)
  | n + 1 => f_bec (f_pbN V i j n) (Int.toNat (f_pbN V i j n (i + 1) n)) (Int.toNat (f_pbN V i j n (j + 1) n))
theorem f_pbN_succ (V : Nat → Nat → Int) (i j : Nat) {n : Int} (h : 0 ≤ n) : f_pbN V i j (Int.toNat (n + 1)) = f_bec (f_pbN V i j (Int.toNat n)) (Int.toNat (f_pbN V i j (Int.toNat n) (i + 1) (Int.toNat n))) (Int.toNat (f_pbN V i j (Int.toNat n) (j + 1) (Int.toNat n))) := by
  rw [show Int.toNat (n + 1) = Int.toNat n + 1 by omega]
  rfl
/-- rows of pasts stay but for the count of past i -/
theorem f_pbN_pa {V : Nat → Nat → Int} {i j : Nat} (hi : isPa i) (hj : isPa j) (h : paI V i) (h2 : paI V j) : ∀ n : Nat, n ≤ 10 → paI (f_pbN V i j n) i ∧ paI (f_pbN V i j n) j ∧ (f_pbN V i j n i 1 = V j 1) := by
  unfold isPa at hi hj
  intro n
  induction n with
  | zero =>
    intro _
    have e1 : f_pbN V i j 0 (i + 1) = V (i + 1) := mU_or _ _ _ (by omega)
    have e2 : f_pbN V i j 0 (j + 1) = V (j + 1) := mU_or _ _ _ (by omega)
    have e3 : f_pbN V i j 0 i 1 = V j 1 := mU_eq _ _ _ _
    have e4 : f_pbN V i j 0 j 1 = V j 1 := by
      by_cases q : j = i
      · rw [q]; rw [q] at e3; exact e3
      · exact congrFun (mU_or _ _ _ q) 1
    refine ⟨⟨by rw [e3]; exact h2.1, ?_⟩, ⟨by rw [e4]; exact h2.1, ?_⟩, e3⟩
    · rw [e1]; exact h.2
    · rw [e2]; exact h2.2
  | succ n ih =>
    intro hn
    obtain ⟨a1, a2, a3⟩ := ih (by omega)
    have b1 := a1.2 n (by omega)
    have hm := b1.1
    unfold isMo at hm
    have e : ∀ g, g < 39 → f_pbN V i j (n + 1) g = f_pbN V i j n g := fun g hg => f_bec_o _ (by omega)
    exact ⟨a1.of (e _ (by omega)) (e _ (by omega)), a2.of (e _ (by omega)) (e _ (by omega)), by rw [e _ (by omega)]; exact a3⟩
/-- an image i takes moment j, past k; gives -/
def f_tak (V : Nat → Nat → Int) (i j k : Nat) : Nat → Nat → Int := mU (f_pbN (f_bec V (44 + 5 * (i - 37)) j) (33 + 2 * (i - 37)) k (Int.toNat (f_bec V (44 + 5 * (i - 37)) j k 1))) i 2 1
def f_giv (V : Nat → Nat → Int) (i j k : Nat) : Nat → Nat → Int := f_pbN (f_bec V j (44 + 5 * (i - 37))) k (33 + 2 * (i - 37)) (Int.toNat (f_bec V j (44 + 5 * (i - 37)) (33 + 2 * (i - 37)) 1))
/-- all of a number of people are told a saying -/
def f_tlN (V : Nat → Nat → Int) (i : Nat) (pe sy : Int) (n : Nat) : Nat → Nat → Int := fun g k => if g = i + 2 ∧ k < n ∧ pe / zp (k : Int) % 2 = 1 then zor (V (i + 2) k) (zp sy) else V g k
def f_tel (V : Nat → Nat → Int) (i : Nat) (pe sy : Int) : Nat → Nat → Int := f_tlN V i pe sy 6
theorem f_tlN_0 (V : Nat → Nat → Int) (i : Nat) (pe sy : Int) : f_tlN V i pe sy 0 = V := by
  funext g k
  unfold f_tlN
  rw [if_neg (by omega)]
theorem f_tlN_yes (V : Nat → Nat → Int) (i : Nat) (pe sy : Int) {n : Int} (hn : 0 ≤ n) (h : pe / zp n % 2 = 1) (x : Int) (hx : x = zor (V (i + 2) (Int.toNat n)) (zp sy)) : mU (f_tlN V i pe sy (Int.toNat n)) (i + 2) (Int.toNat n) x = f_tlN V i pe sy (Int.toNat (n + 1)) := by
  funext g k
  have e : Int.toNat (n + 1) = Int.toNat n + 1 := by omega
  have e2 : ((Int.toNat n : Nat) : Int) = n := by omega
  simp only [mU, f_tlN]
  by_cases q : g = i + 2 ∧ k = Int.toNat n
  · obtain ⟨rfl, rfl⟩ := q
    rw [if_pos ⟨rfl, rfl⟩, if_pos ⟨rfl, by omega, by rw [e2]; exact h⟩, hx]
  · rw [if_neg q]
    by_cases q2 : g = i + 2 ∧ k < Int.toNat n ∧ pe / zp (k : Int) % 2 = 1
    · rw [if_pos q2, if_pos ⟨q2.1, by omega, q2.2.2⟩]
    · rw [if_neg q2, if_neg (fun z => q2 ⟨z.1, by have := z.2.1; have := z.1; omega, z.2.2⟩)]
theorem f_tlN_no (V : Nat → Nat → Int) (i : Nat) (pe sy : Int) {n : Int} (hn : 0 ≤ n) (h : ¬ pe / zp n % 2 = 1) : f_tlN V i pe sy (Int.toNat n) = f_tlN V i pe sy (Int.toNat (n + 1)) := by
  funext g k
  have e : Int.toNat (n + 1) = Int.toNat n + 1 := by omega
  have e2 : ((Int.toNat n : Nat) : Int) = n := by omega
  simp only [f_tlN]
  by_cases q2 : g = i + 2 ∧ k < Int.toNat n ∧ pe / zp (k : Int) % 2 = 1
  · rw [if_pos q2, if_pos ⟨q2.1, by omega, q2.2.2⟩]
  · rw [if_neg q2, if_neg (fun z => q2 ⟨z.1, by
      rcases Nat.lt_or_ge k (Int.toNat n) with q | q
      · exact q
      · have h1 := z.2.1
        have : k = Int.toNat n := by omega
        subst this
        exact absurd (by have := z.2.2; rw [e2] at this; exact this) h, z.2.2⟩)]
theorem f_tlN_rd (V : Nat → Nat → Int) (i : Nat) (pe sy : Int) (n : Nat) : f_tlN V i pe sy n (i + 2) n = V (i + 2) n := by
  simp only [f_tlN]
  rw [if_neg (by omega)]
theorem f_pbN_o {V : Nat → Nat → Int} {i j g : Nat} (hi : isPa i) (hj : isPa j) (h : paI V i) (h2 : paI V j) (hg : g ≠ i) (hb : g < 54 + 25 * (i - 31) ∨ 104 + 25 * (i - 31) ≤ g) : ∀ n : Nat, n ≤ 10 → f_pbN V i j n g = V g := by
  have hi2 := hi
  unfold isPa at hi2
  intro n
  induction n with
  | zero => intro _; exact mU_or _ _ _ hg
  | succ n ih =>
    intro hn
    have b1 := (f_pbN_pa hi hj h h2 n (by omega)).1.2 n (by omega)
    have hm := b1.1
    unfold isMo at hm
    rw [← ih (by omega)]
    exact f_bec_o _ (by omega)
theorem f_tak_o {V : Nat → Nat → Int} {i g : Nat} (hi : isIm i) (h : paI V 31) (h2 : paI V (33 + 2 * (i - 37))) (hg : g < 31 ∨ g = 39 ∨ g = 40 ∨ g = 41 ∨ g = 42 ∨ g = 43) : f_tak V i 39 31 g = V g := by
  have hi2 := hi
  unfold isIm at hi2
  have e : ∀ q, q < 44 → f_bec V (44 + 5 * (i - 37)) 39 q = V q := fun q hq => f_bec_o _ (by omega)
  have p1 : paI (f_bec V (44 + 5 * (i - 37)) 39) 31 := h.of (e _ (by omega)) (e _ (by omega))
  have p2 : paI (f_bec V (44 + 5 * (i - 37)) 39) (33 + 2 * (i - 37)) := h2.of (e _ (by omega)) (e _ (by omega))
  have hn := p1.1
  unfold f_tak
  rw [mU_or _ _ _ (by omega), f_pbN_o hi.pa isPa_31 p2 p1 (by omega) (by omega) _ (by omega)]
  exact e g (by omega)
theorem f_tak_39 {V : Nat → Nat → Int} {i : Nat} (hi : isIm i) (h : paI V 31) (h2 : paI V (33 + 2 * (i - 37))) : f_tak V i 39 31 39 = V 39 := f_tak_o hi h h2 (by omega)
/-- a moment begins as told -/
def f_bg1 (V : Nat → Nat → Int) (i : Nat) : Nat → Nat → Int := mU (mU (mU V i 0 0) i 1 0) i 2 0
def f_bg2 (V : Nat → Nat → Int) (i j n : Nat) : Nat → Nat → Int := fun g k => if g = i + 1 ∧ k < n then V (j + 7) k else V g k
def f_bg3 (V : Nat → Nat → Int) (i n : Nat) : Nat → Nat → Int := fun g k => if g = i + 2 ∧ k < n then 0 else V g k
def f_bg4 (V : Nat → Nat → Int) (i j : Nat) : Nat → (Nat → Nat → Int)
  | 0 => V
  | n + 1 => f_tel (f_bg4 V i j n) i (zp (V (j + 5) n)) (n : Int)
def f_beg (V : Nat → Nat → Int) (i j : Nat) : Nat → Nat → Int := f_bg4 (f_bg3 (f_bg2 (f_bg1 V i) i j 4) i 6) i j (Int.toNat (V j 8))
theorem f_bg2_0 (V : Nat → Nat → Int) (i j : Nat) : f_bg2 V i j 0 = V := by funext g k; simp [f_bg2]
theorem f_bg3_0 (V : Nat → Nat → Int) (i : Nat) : f_bg3 V i 0 = V := by funext g k; simp [f_bg3]
theorem f_bg2_succ (V : Nat → Nat → Int) (i j : Nat) {n : Int} (h : 0 ≤ n) (x : Int) (hx : x = V (j + 7) (Int.toNat n)) : mU (f_bg2 V i j (Int.toNat n)) (i + 1) (Int.toNat n) x = f_bg2 V i j (Int.toNat (n + 1)) := by
  funext g k
  have e : Int.toNat (n + 1) = Int.toNat n + 1 := by omega
  simp only [mU, f_bg2]
  by_cases q : g = i + 1 ∧ k = Int.toNat n
  · rw [if_pos q, if_pos (by omega), hx, q.2]
  · rw [if_neg q]
    by_cases q2 : g = i + 1 ∧ k < Int.toNat n
    · rw [if_pos q2, if_pos (by omega)]
    · rw [if_neg q2, if_neg (by omega)]
theorem f_bg3_succ (V : Nat → Nat → Int) (i : Nat) {n : Int} (h : 0 ≤ n) : mU (f_bg3 V i (Int.toNat n)) (i + 2) (Int.toNat n) 0 = f_bg3 V i (Int.toNat (n + 1)) := by
  funext g k
  have e : Int.toNat (n + 1) = Int.toNat n + 1 := by omega
  simp only [mU, f_bg3]
  by_cases q : g = i + 2 ∧ k = Int.toNat n
  · rw [if_pos q, if_pos (by omega)]
  · rw [if_neg q]
    by_cases q2 : g = i + 2 ∧ k < Int.toNat n
    · rw [if_pos q2, if_pos (by omega)]
    · rw [if_neg q2, if_neg (by omega)]
theorem f_tel_o (V : Nat → Nat → Int) {i g : Nat} (pe sy : Int) (h : g ≠ i + 2) : f_tel V i pe sy g = V g := by
  funext k
  simp [f_tel, f_tlN, h]
theorem f_tel_nn {V : Nat → Nat → Int} {i : Nat} (pe sy : Int) (h : ∀ k : Nat, k < 6 → 0 ≤ V (i + 2) k) : ∀ k : Nat, k < 6 → 0 ≤ f_tel V i pe sy (i + 2) k := by
  intro k hk
  simp only [f_tel, f_tlN]
  split
  · exact zor_nn _ _
  · exact h k hk
theorem f_bg4_o (V : Nat → Nat → Int) {i j g : Nat} (h : g ≠ i + 2) : ∀ n : Nat, f_bg4 V i j n g = V g := by
  intro n
  induction n with
  | zero => rfl
  | succ n ih => rw [← ih]; exact f_tel_o _ _ _ h
theorem f_bg4_nn {V : Nat → Nat → Int} {i j : Nat} (h : ∀ k : Nat, k < 6 → 0 ≤ V (i + 2) k) : ∀ n k : Nat, k < 6 → 0 ≤ f_bg4 V i j n (i + 2) k := by
  intro n
  induction n with
  | zero => exact h
  | succ n ih => exact f_tel_nn _ _ ih
theorem f_bg4_succ (V : Nat → Nat → Int) (i j : Nat) {n : Int} (h : 0 ≤ n) : f_bg4 V i j (Int.toNat (n + 1)) = f_tel (f_bg4 V i j (Int.toNat n)) i (zp (V (j + 5) (Int.toNat n))) n := by
  rw [show Int.toNat (n + 1) = Int.toNat n + 1 by omega]
  show f_tel _ _ _ ((Int.toNat n : Nat) : Int) = _
  rw [show ((Int.toNat n : Nat) : Int) = n by omega]
theorem f_beg_o (V : Nat → Nat → Int) {i j g : Nat} (h : g < i ∨ i + 2 < g) : f_beg V i j g = V g := by
  unfold f_beg
  rw [f_bg4_o _ (by omega)]
  funext k
  simp [f_bg3, f_bg2, f_bg1, mU, show g ≠ i by omega, show g ≠ i + 1 by omega, show g ≠ i + 2 by omega]
/-- a Told tells nothing -/
def f_noN (V : Nat → Nat → Int) (i n : Nat) : Nat → Nat → Int := fun g k => if g = i + 7 ∧ k < n then 9 else V g k
def f_no (V : Nat → Nat → Int) (i : Nat) : Nat → Nat → Int := f_noN (mU (mU (mU (mU V i 7 0) i 8 0) i 9 0) (i + 6) 0 0) i 4
theorem f_noN_0 (V : Nat → Nat → Int) (i : Nat) : f_noN V i 0 = V := by funext g k; simp [f_noN]
theorem f_noN_succ (V : Nat → Nat → Int) (i : Nat) {n : Int} (h : 0 ≤ n) : mU (f_noN V i (Int.toNat n)) (i + 7) (Int.toNat n) 9 = f_noN V i (Int.toNat (n + 1)) := by
  funext g k
  have e : Int.toNat (n + 1) = Int.toNat n + 1 := by omega
  simp only [mU, f_noN]
  by_cases q : g = i + 7 ∧ k = Int.toNat n
  · rw [if_pos q, if_pos (by omega)]
  · rw [if_neg q]
    by_cases q2 : g = i + 7 ∧ k < Int.toNat n
    · rw [if_pos q2, if_pos (by omega)]
    · rw [if_neg q2, if_neg (by omega)]
theorem f_no_o (V : Nat → Nat → Int) {i g : Nat} (h : g < i ∨ i + 7 < g) : f_no V i g = V g := by
  funext k
  simp [f_no, f_noN, mU, show g ≠ i by omega, show g ≠ i + 6 by omega, show g ≠ i + 7 by omega]
theorem f_no_7 (V : Nat → Nat → Int) (i : Nat) : f_no V i i 7 = 0 ∧ f_no V i i 8 = 0 ∧ f_no V i i 9 = 0 := by
  refine ⟨?_, ?_, ?_⟩ <;> simp [f_no, f_noN, mU]
theorem f_bg2_o (V : Nat → Nat → Int) {i j g : Nat} (n : Nat) (h : g ≠ i + 1) : f_bg2 V i j n g = V g := by
  funext k
  simp [f_bg2, h]
theorem f_bg_all (V : Nat → Nat → Int) {i j g : Nat} (a b n : Nat) (h : g < i ∨ i + 2 < g) : f_bg4 (f_bg3 (f_bg2 (f_bg1 V i) i j a) i b) i j n g = V g := by
  rw [f_bg4_o _ (by omega)]
  funext k
  simp [f_bg3, f_bg2, f_bg1, mU, show g ≠ i by omega, show g ≠ i + 1 by omega, show g ≠ i + 2 by omega]
theorem f_bg3_nn (V : Nat → Nat → Int) (i k : Nat) (hk : k < 6) : 0 ≤ f_bg3 V i 6 (i + 2) k := by
  simp [f_bg3, hk]
theorem zp_bd {k : Int} (h : 0 ≤ k ∧ k ≤ 30) : 0 < zp k ∧ zp k ≤ 1073741824 := by
  refine ⟨zp_pos k, ?_⟩
  have q : 2 ^ k.toNat ≤ 2 ^ 30 := Nat.pow_le_pow_right (by decide) (by omega)
  have e : (2 : Nat) ^ 30 = 1073741824 := by decide
  show ((2 ^ k.toNat : Nat) : Int) ≤ 1073741824
  omega
/-- reading an empty text -/
def f_rd0 (V : Nat → Nat → Int) (j : Nat) : Nat → Nat → Int :=
  let V3 := f_no (mU (mU V 2 1 0) 2 2 0) j
  mU (mU V3 2 4 (V3 2 2)) 2 3 0
theorem f_rd0_o (V : Nat → Nat → Int) {j g : Nat} (h : g ≠ 2) (h2 : g < j ∨ j + 7 < g) : f_rd0 V j g = V g := by
  unfold f_rd0
  rw [mU_or _ _ _ h, mU_or _ _ _ h, f_no_o _ h2, mU_or _ _ _ h, mU_or _ _ _ h]
theorem f_rd0_8 (V : Nat → Nat → Int) {j : Nat} (hj : isTo j) : f_rd0 V j j 8 = 0 := by
  unfold isTo at hj
  unfold f_rd0
  rw [mU_or _ _ _ (by omega), mU_or _ _ _ (by omega)]
  exact (f_no_7 _ j).2.1
/-- all begins anew -/
def f_ikN (V : Nat → Nat → Int) (n : Nat) : Nat → Nat → Int := fun g k => if (37 ≤ g ∧ g < 37 + n) ∧ k = 2 then 0 else V g k
def f_anew (V : Nat → Nat → Int) : Nat → Nat → Int := f_ikN (mU (mU (f_beg V 39 (Int.toNat (V 0 3))) 31 1 0) 4 4 0) 2
theorem f_ikN_0 (V : Nat → Nat → Int) : f_ikN V 0 = V := by
  funext g k
  unfold f_ikN
  rw [if_neg (by omega)]
theorem f_ikN_succ (V : Nat → Nat → Int) {n : Int} (h : 0 ≤ n) : mU (f_ikN V (Int.toNat n)) (37 + Int.toNat n) 2 0 = f_ikN V (Int.toNat (n + 1)) := by
  funext g k
  have e : Int.toNat (n + 1) = Int.toNat n + 1 := by omega
  simp only [mU, f_ikN]
  by_cases q : g = 37 + Int.toNat n ∧ k = 2
  · rw [if_pos q, if_pos (by omega)]
  · rw [if_neg q]
    by_cases q2 : (37 ≤ g ∧ g < 37 + Int.toNat n) ∧ k = 2
    · rw [if_pos q2, if_pos (by omega)]
    · rw [if_neg q2, if_neg (by omega)]
/-- the wind in so many hours -/
def c_wind (V : Nat → Nat → Int) (nn : Int) : Int := V (Int.toNat (V 0 3) + 6) (Int.toNat ((V 39 0 + nn) % (if 1 < V (Int.toNat (V 0 3)) 9 then V (Int.toNat (V 0 3)) 9 else 1)))
