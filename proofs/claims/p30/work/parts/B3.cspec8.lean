/-! Feathers shared among sayings, as the class does it. -/
theorem zp_le12 {k : Int} (h : k ≤ 12) : zp k ≤ 4096 := by
  have h1 : 2 ^ k.toNat ≤ 2 ^ 12 := Nat.pow_le_pow_right (by omega) (by omega)
  unfold zp
  exact Int.le_trans (Int.ofNat_le.mpr h1) (by decide)
def alP (V : Nat → Nat → Int) (n f : Int) : Prop := (∀ k : Nat, (k : Int) < n → 0 ≤ V 10 k ∧ V 10 k ≤ 5) ∧ (∀ k : Nat, (k : Int) < f → -9 ≤ V 11 k ∧ V 11 k ≤ 3)
def alI (V : Nat → Nat → Int) : Prop := (0 ≤ V 9 3 ∧ V 9 3 ≤ 6) ∧ alP V (V 9 3) (4 * V 9 3)
theorem alP.of {V W : Nat → Nat → Int} {n f : Int} (h : alP V n f) (e0 : W 10 = V 10) (e1 : W 11 = V 11) : alP W n f := by
  unfold alP
  rw [e0, e1]; exact h
theorem alI.of {V W : Nat → Nat → Int} (h : alI V) (e : W 9 3 = V 9 3) (e0 : W 10 = V 10) (e1 : W 11 = V 11) : alI W := by
  unfold alI
  rw [e]; exact ⟨h.1, h.2.of e0 e1⟩
theorem alI.sa {V : Nat → Nat → Int} (h : alI V) {k : Int} (hk : 0 ≤ k ∧ k < V 9 3) : 0 ≤ V 10 (Int.toNat k) ∧ V 10 (Int.toNat k) ≤ 5 := h.2.1 _ (by omega)
theorem alI.fw {V : Nat → Nat → Int} (h : alI V) {k : Int} (hk : 0 ≤ k ∧ k < 4 * V 9 3) : -9 ≤ V 11 (Int.toNat k) ∧ V 11 (Int.toNat k) ≤ 3 := h.2.2 _ (by omega)
theorem alP.adm {V : Nat → Nat → Int} {n f x : Int} (h : alP V n f) (hn : 0 ≤ n) (hx : 0 ≤ x ∧ x ≤ 5) (y : Int) : alP (mU (mU V 10 (Int.toNat n) x) 9 3 y) (n + 1) f := by
  refine ⟨fun k hk => ?_, h.2⟩
  show 0 ≤ mU V 10 (Int.toNat n) x 10 k ∧ mU V 10 (Int.toNat n) x 10 k ≤ 5
  by_cases e : k = Int.toNat n
  · rw [e, mU_eq]; exact hx
  · rw [mU_ni _ _ _ _ e]; exact h.1 k (by omega)
theorem alP.set {V : Nat → Nat → Int} {n f x : Int} (h : alP V n f) (hf : 0 ≤ f) (hx : -9 ≤ x ∧ x ≤ 3) : alP (mU V 11 (Int.toNat f) x) n (f + 1) := by
  refine ⟨h.1, fun k hk => ?_⟩
  by_cases e : k = Int.toNat f
  · rw [e, mU_eq]; exact hx
  · rw [mU_ni _ _ _ _ e]; exact h.2 k (by omega)
/-- the kind of a member in a way -/
def c_kd (V : Nat → Nat → Int) (tr mm : Int) : Int := tr / zp (2 * (V 9 3 - 1 - mm)) % 4
theorem c_kd_bd (V : Nat → Nat → Int) (tr mm : Int) : 0 ≤ c_kd V tr mm ∧ c_kd V tr mm < 4 := z_mod (by omega)
def c_fw (V : Nat → Nat → Int) (tr mm : Int) : Int := V 11 (Int.toNat (mm * 4 + c_kd V tr mm))
def f_u0 (V : Nat → Nat → Int) : Nat → (Nat → Nat → Int)
  | 0 => V
  | n + 1 => mU (f_u0 V n) 12 n 0
theorem f_u0_succ (V : Nat → Nat → Int) {k : Int} (h : 0 ≤ k) : f_u0 V (Int.toNat (k + 1)) = mU (f_u0 V (Int.toNat k)) 12 (Int.toNat k) 0 := by
  rw [show Int.toNat (k + 1) = Int.toNat k + 1 by omega]; rfl
theorem f_u0_o (V : Nat → Nat → Int) : ∀ (n : Nat) (g : Nat), g ≠ 12 → f_u0 V n g = V g
  | 0, _, _ => rfl
  | n + 1, g, h => by
    show mU (f_u0 V n) 12 n 0 g = _
    rw [mU_or _ _ _ h]; exact f_u0_o V n g h
theorem f_u0_0 (V : Nat → Nat → Int) : ∀ (n k : Nat), k < n → f_u0 V n 12 k = 0
  | 0, _, h => absurd h (by omega)
  | n + 1, k, h => by
    show mU (f_u0 V n) 12 n 0 12 k = 0
    by_cases e : k = n
    · rw [e, mU_eq]
    · rw [mU_ni _ _ _ _ e]; exact f_u0_0 V n k (by omega)
def f_us (V : Nat → Nat → Int) (tr : Int) : Nat → (Nat → Nat → Int)
  | 0 => f_u0 V 4
  | m + 1 => mU (f_us V tr m) 12 (Int.toNat (c_kd V tr (m : Int))) (f_us V tr m 12 (Int.toNat (c_kd V tr (m : Int))) + c_fw V tr (m : Int))
theorem f_us_succ (V : Nat → Nat → Int) (tr : Int) {k : Int} (h : 0 ≤ k) : f_us V tr (Int.toNat (k + 1)) = mU (f_us V tr (Int.toNat k)) 12 (Int.toNat (c_kd V tr k)) (f_us V tr (Int.toNat k) 12 (Int.toNat (c_kd V tr k)) + c_fw V tr k) := by
  rw [show Int.toNat (k + 1) = Int.toNat k + 1 by omega]
  simp only [f_us]
  rw [show ((Int.toNat k : Nat) : Int) = k by omega]
theorem f_us_o (V : Nat → Nat → Int) (tr : Int) : ∀ (n : Nat) (g : Nat), g ≠ 12 → f_us V tr n g = V g
  | 0, g, h => f_u0_o V 4 g h
  | n + 1, g, h => by
    show mU (f_us V tr n) 12 _ _ g = _
    rw [mU_or _ _ _ h]; exact f_us_o V tr n g h
def c_coN (V : Nat → Nat → Int) (tr : Int) : Nat → Int
  | 0 => 0
  | m + 1 => c_coN V tr m + c_fw V tr (m : Int)
theorem c_coN_succ (V : Nat → Nat → Int) (tr : Int) {k : Int} (h : 0 ≤ k) : c_coN V tr (Int.toNat (k + 1)) = c_coN V tr (Int.toNat k) + c_fw V tr k := by
  rw [show Int.toNat (k + 1) = Int.toNat k + 1 by omega]
  simp only [c_coN]
  rw [show ((Int.toNat k : Nat) : Int) = k by omega]
abbrev c_bad (V : Nat → Nat → Int) (tr q : Int) : Prop := c_fw V tr q < 0 ∨ V 40 (Int.toNat (c_kd V tr q)) < f_us V tr (Int.toNat q) 12 (Int.toNat (c_kd V tr q)) + c_fw V tr q
def c_stp (V : Nat → Nat → Int) (tr : Int) : Int := zfind (fun q => decide (c_bad V tr q)) (Int.toNat (V 9 3 - 0)) 0
def c_cst (V : Nat → Nat → Int) (tr : Int) : Int := if c_stp V tr = -9 then c_coN V tr (Int.toNat (V 9 3)) else -9
def f_cst (V : Nat → Nat → Int) (tr : Int) : Nat → Nat → Int := f_us V tr (Int.toNat (if c_stp V tr = -9 then V 9 3 else c_stp V tr))
theorem c_stp_at {V : Nat → Nat → Int} {tr mm : Int} (h : c_stp V tr = zfind (fun q => decide (c_bad V tr q)) (Int.toNat (V 9 3 - mm)) mm) (h0 : 0 ≤ mm ∧ mm < V 9 3) (hb : c_bad V tr mm) : c_stp V tr = mm := by
  rw [h, zfind_step _ _ _ h0.2]
  exact if_pos (decide_eq_true hb)
theorem c_stp_end {V : Nat → Nat → Int} {tr mm : Int} (h : c_stp V tr = zfind (fun q => decide (c_bad V tr q)) (Int.toNat (V 9 3 - mm)) mm) (h0 : V 9 3 ≤ mm) : c_stp V tr = -9 := by
  rw [h, show Int.toNat (V 9 3 - mm) = 0 by omega]; rfl
theorem c_coN_bd {V : Nat → Nat → Int} (hA : alI V) (tr : Int) : ∀ n : Nat, (n : Int) ≤ V 9 3 → -9 * (n : Int) ≤ c_coN V tr n ∧ c_coN V tr n ≤ 3 * n
  | 0, _ => by simp [c_coN]
  | n + 1, h => by
    push_cast at h
    have ih := c_coN_bd hA tr n (by omega)
    have k1 := c_kd_bd V tr (n : Int)
    have k2 := hA.fw (k := (n : Int) * 4 + c_kd V tr (n : Int)) (by omega)
    simp only [c_coN, c_fw]
    push_cast
    omega
theorem f_cst_o (V : Nat → Nat → Int) (tr : Int) (g : Nat) (h : g ≠ 12) : f_cst V tr g = V g := f_us_o V tr _ g h
theorem c_cst_bd {V : Nat → Nat → Int} (hA : alI V) (tr : Int) : -54 ≤ c_cst V tr ∧ c_cst V tr ≤ 18 := by
  have h := c_coN_bd hA tr (Int.toNat (V 9 3)) (by have := hA.1; omega)
  have h6 := hA.1
  unfold c_cst
  split <;> omega
/-- all ways tried -/
def c_sst (K : Nat → Nat → Int) (x : Int) : Nat → Nat → Int := if 0 ≤ c_cst K x ∧ (f_cst K x 9 5 < 0 ∨ c_cst K x < f_cst K x 9 5) then mU (mU (f_cst K x) 9 5 (c_cst K x)) 9 4 x else f_cst K x
def f_se (V : Nat → Nat → Int) : Nat → (Nat → Nat → Int)
  | 0 => mU V 9 5 (-9)
  | n + 1 => c_sst (f_se V n) (n : Int)
theorem f_se_succ (V : Nat → Nat → Int) {k : Int} (h : 0 ≤ k) : f_se V (Int.toNat (k + 1)) = c_sst (f_se V (Int.toNat k)) k := by
  rw [show Int.toNat (k + 1) = Int.toNat k + 1 by omega]
  simp only [f_se]
  rw [show ((Int.toNat k : Nat) : Int) = k by omega]
def c_seo (V K : Nat → Nat → Int) : Prop := (∀ g, g ≠ 9 → g ≠ 12 → K g = V g) ∧ K 9 3 = V 9 3
theorem c_sst_o (K : Nat → Nat → Int) (x : Int) : c_seo K (c_sst K x) := by
  unfold c_sst
  split
  · refine ⟨fun g h1 h2 => ?_, ?_⟩
    · rw [mU_or _ _ _ h1, mU_or _ _ _ h1]; exact f_cst_o K x g h2
    · rw [mU_ni _ _ _ _ (by decide), mU_ni _ _ _ _ (by decide), f_cst_o K x 9 (by decide)]
  · exact ⟨fun g _ h2 => f_cst_o K x g h2, by rw [f_cst_o K x 9 (by decide)]⟩
theorem f_se_o (V : Nat → Nat → Int) : ∀ n : Nat, c_seo V (f_se V n)
  | 0 => ⟨fun g h1 _ => mU_or _ _ _ h1, mU_ni _ _ _ _ (by decide)⟩
  | n + 1 => by
    have ih := f_se_o V n
    have q := c_sst_o (f_se V n) (n : Int)
    exact ⟨fun g h1 h2 => (q.1 g h1 h2).trans (ih.1 g h1 h2), q.2.trans ih.2⟩
theorem alI.se {V K : Nat → Nat → Int} (h : alI V) (o : c_seo V K) : alI K := h.of o.2 (o.1 10 (by decide) (by decide)) (o.1 11 (by decide) (by decide))
def c_tot (K : Nat → Nat → Int) (n : Int) : Prop := (-9 ≤ K 9 5 ∧ K 9 5 ≤ 18) ∧ (0 ≤ K 9 5 → 0 ≤ K 9 4 ∧ K 9 4 < n)
theorem f_se_tot {V : Nat → Nat → Int} (hA : alI V) : ∀ n : Nat, c_tot (f_se V n) n
  | 0 => by
    have e : f_se V 0 9 5 = -9 := mU_eq _ _ _ _
    unfold c_tot
    rw [e]; exact ⟨by omega, fun h => absurd h (by omega)⟩
  | n + 1 => by
    have ih := f_se_tot hA n
    have b := c_cst_bd (hA.se (f_se_o V n)) (n : Int)
    show c_tot (c_sst (f_se V n) (n : Int)) ((n + 1 : Nat) : Int)
    unfold c_tot c_sst
    split
    · rw [mU_ni _ _ _ _ (show 5 ≠ 4 by decide), mU_eq, mU_eq]
      exact ⟨by omega, fun _ => by omega⟩
    · rw [f_cst_o _ _ 9 (by decide)]
      exact ⟨ih.1, fun h => by have := ih.2 h; omega⟩
def f_sea (V : Nat → Nat → Int) : Nat → Nat → Int := f_se V (Int.toNat (zp (2 * V 9 3)))
theorem f_sea_tot {V : Nat → Nat → Int} (hA : alI V) : c_tot (f_sea V) 4096 := by
  have h := f_se_tot hA (Int.toNat (zp (2 * V 9 3)))
  have z := zp_le12 (k := 2 * V 9 3) (by have := hA.1; omega)
  exact ⟨h.1, fun q => by have := h.2 q; unfold f_sea; omega⟩
/-- the share of a saying in the way that was found -/
def c_shi (V : Nat → Nat → Int) (sy : Int) : Int := zfind (fun q => decide (V 10 (Int.toNat q) = sy)) (Int.toNat (V 9 3 - 0)) 0
def c_sha (V : Nat → Nat → Int) (sy : Int) : Int := if c_shi V sy = -9 then -9 else 10 * c_kd V (V 9 4) (c_shi V sy) + c_fw V (V 9 4) (c_shi V sy)
/-- the fewest feathers of a kind by which a saying is heard -/
def c_hw (V : Nat → Nat → Int) (sy kd q : Int) : Int := c_heN V (V (Int.toNat (V 0 3) + 5) (Int.toNat sy)) (c_la V (V (Int.toNat (V 0 3) + 5) (Int.toNat sy)) sy (100 * kd + 10 * q + 1) (c_wind V 0))
def c_few (V : Nat → Nat → Int) (sy kd : Int) : Int := zfind (fun q => decide (¬ c_hw V sy kd q = 0)) (Int.toNat (4 - (if kd = 0 then 0 else 1))) (if kd = 0 then 0 else 1)
theorem c_few_bd (V : Nat → Nat → Int) (sy kd : Int) : -9 ≤ c_few V sy kd ∧ c_few V sy kd ≤ 3 := by
  have h := zfind_bd2 (fun q => decide (¬ c_hw V sy kd q = 0)) (Int.toNat (4 - (if kd = 0 then 0 else 1))) (if kd = 0 then 0 else 1) (by split <;> omega)
  unfold c_few
  revert h
  split <;> intro h <;> omega
def c_alo (V K : Nat → Nat → Int) : Prop := ∀ g, g ≠ 9 → g ≠ 10 → g ≠ 11 → g ≠ 12 → K g = V g
theorem cI_al {V W : Nat → Nat → Int} (hI : cI V) (h : c_alo V W) : cI W := hI.of (by rw [h 0 (by decide) (by decide) (by decide) (by decide)]) (by rw [h 0 (by decide) (by decide) (by decide) (by decide)]) (by rw [h 0 (by decide) (by decide) (by decide) (by decide)]) (fun g hg => h g (by omega) (by omega) (by omega) (by omega))
theorem c_hw_al {V W : Nat → Nat → Int} (hT : isTo (Int.toNat (V 0 3))) (h : c_alo V W) (sy kd x : Int) : c_hw W sy kd x = c_hw V sy kd x := by
  unfold isTo at hT
  have q : ∀ g, (g < 9 ∨ 12 < g) → W g = V g := fun g hg => h g (by omega) (by omega) (by omega) (by omega)
  simp only [c_hw, c_heN, c_la, c_wind]
  rw [q 0 (by omega), q 39 (by omega), q (Int.toNat (V 0 3)) (by omega), q (Int.toNat (V 0 3) + 1) (by omega), q (Int.toNat (V 0 3) + 2) (by omega), q (Int.toNat (V 0 3) + 3) (by omega), q (Int.toNat (V 0 3) + 4) (by omega), q (Int.toNat (V 0 3) + 5) (by omega), q (Int.toNat (V 0 3) + 6) (by omega)]
theorem c_few_al {V W : Nat → Nat → Int} (hT : isTo (Int.toNat (V 0 3))) (h : c_alo V W) (sy kd : Int) : c_few W sy kd = c_few V sy kd := by
  unfold c_few
  simp only [c_hw_al hT h]
def f_adm (K : Nat → Nat → Int) (sy : Int) : Nat → Nat → Int := mU (mU K 10 (Int.toNat (K 9 3)) sy) 9 3 (K 9 3 + 1)
def f_apk (V K : Nat → Nat → Int) (mb sy : Int) : Nat → (Nat → Nat → Int)
  | 0 => K
  | k + 1 => mU (f_apk V K mb sy k) 11 (Int.toNat (mb * 4 + (k : Int))) (c_few V sy (k : Int))
theorem f_apk_succ (V K : Nat → Nat → Int) (mb sy : Int) {k : Int} (h : 0 ≤ k) : f_apk V K mb sy (Int.toNat (k + 1)) = mU (f_apk V K mb sy (Int.toNat k)) 11 (Int.toNat (mb * 4 + k)) (c_few V sy k) := by
  rw [show Int.toNat (k + 1) = Int.toNat k + 1 by omega]
  simp only [f_apk]
  rw [show ((Int.toNat k : Nat) : Int) = k by omega]
theorem f_apk_o (V K : Nat → Nat → Int) (mb sy : Int) : ∀ (n : Nat) (g : Nat), g ≠ 11 → f_apk V K mb sy n g = K g
  | 0, _, _ => rfl
  | n + 1, g, h => by
    show mU (f_apk V K mb sy n) 11 _ _ g = _
    rw [mU_or _ _ _ h]; exact f_apk_o V K mb sy n g h
def f_pa (V : Nat → Nat → Int) (st : Int) : Nat → (Nat → Nat → Int)
  | 0 => mU V 9 3 0
  | s + 1 => if st / zp (s : Int) % 2 = 1 then f_apk V (f_adm (f_pa V st s) (s : Int)) (f_pa V st s 9 3) (s : Int) 4 else f_pa V st s
theorem f_pa_succ (V : Nat → Nat → Int) (st : Int) {k : Int} (h : 0 ≤ k) : f_pa V st (Int.toNat (k + 1)) = if st / zp k % 2 = 1 then f_apk V (f_adm (f_pa V st (Int.toNat k)) k) (f_pa V st (Int.toNat k) 9 3) k 4 else f_pa V st (Int.toNat k) := by
  rw [show Int.toNat (k + 1) = Int.toNat k + 1 by omega]
  simp only [f_pa]
  rw [show ((Int.toNat k : Nat) : Int) = k by omega]
theorem f_apk_i {V K : Nat → Nat → Int} {mb : Int} (hm : 0 ≤ mb) (sy : Int) (h : alP K (mb + 1) (mb * 4)) : ∀ n : Nat, alP (f_apk V K mb sy n) (mb + 1) (mb * 4 + n)
  | 0 => by simpa [f_apk] using h
  | n + 1 => by
    have ih := f_apk_i hm sy h n (V := V)
    have q := ih.set (x := c_few V sy (n : Int)) (by omega) (c_few_bd V sy _)
    show alP (mU (f_apk V K mb sy n) 11 (Int.toNat (mb * 4 + (n : Int))) (c_few V sy (n : Int))) (mb + 1) (mb * 4 + ((n + 1 : Nat) : Int))
    rw [show mb * 4 + ((n + 1 : Nat) : Int) = mb * 4 + (n : Int) + 1 by omega]
    exact q
theorem f_pa_i (V : Nat → Nat → Int) (st : Int) : ∀ n : Nat, n ≤ 6 → alI (f_pa V st n) ∧ f_pa V st n 9 3 ≤ n ∧ c_alo V (f_pa V st n)
  | 0, _ => by
    have e : f_pa V st 0 9 3 = 0 := mU_eq _ _ _ _
    refine ⟨⟨by omega, ?_⟩, by omega, fun g h1 _ _ _ => mU_or _ _ _ h1⟩
    rw [e]
    exact ⟨fun k hk => absurd hk (by omega), fun k hk => absurd hk (by omega)⟩
  | n + 1, hn => by
    obtain ⟨h1, h2, h3⟩ := f_pa_i V st n (by omega)
    simp only [f_pa]
    split
    · have a1 := h1.2.adm (x := (n : Int)) h1.1.1 (by omega) (f_pa V st n 9 3 + 1)
      rw [show 4 * f_pa V st n 9 3 = f_pa V st n 9 3 * 4 by omega] at a1
      have a2 := f_apk_i (V := V) h1.1.1 (n : Int) a1 4
      have e : f_apk V (f_adm (f_pa V st n) (n : Int)) (f_pa V st n 9 3) (n : Int) 4 9 3 = f_pa V st n 9 3 + 1 := by
        rw [f_apk_o _ _ _ _ _ 9 (by decide)]; exact mU_eq _ _ _ _
      have g6 := h1.1
      refine ⟨⟨by omega, ?_⟩, by omega, fun g g1 g2 g3 g4 => ?_⟩
      · rw [e, show 4 * (f_pa V st n 9 3 + 1) = f_pa V st n 9 3 * 4 + ((4 : Nat) : Int) by omega]
        exact a2
      · rw [f_apk_o _ _ _ _ _ g g3]
        unfold f_adm
        rw [mU_or _ _ _ g1, mU_or _ _ _ g2]; exact h3 g g1 g2 g3 g4
    · exact ⟨h1, by omega, h3⟩
def f_pre (V : Nat → Nat → Int) (st : Int) : Nat → Nat → Int := f_pa V st (Int.toNat (V (Int.toNat (V 0 3)) 8))
abbrev c_aok (V : Nat → Nat → Int) (st sy : Int) : Prop := (0 < st ∧ st < zp (V (Int.toNat (V 0 3)) 8)) ∧ (-1 ≤ sy ∧ sy < V (Int.toNat (V 0 3)) 8) ∧ (0 ≤ sy → st / zp sy % 2 = 1)
def c_all (K : Nat → Nat → Int) (sy : Int) : Int := if K 9 5 < 0 then -9 else if sy < 0 then K 9 5 else c_sha K sy
def c_allot (V : Nat → Nat → Int) (st sy : Int) : Int := if c_aok V st sy then c_all (f_sea (f_pre V st)) sy else -1
def f_alt (V : Nat → Nat → Int) (st sy : Int) : Nat → Nat → Int := if c_aok V st sy then f_sea (f_pre V st) else V
theorem us_bd {K : Nat → Nat → Int} {kd nn mm : Int} (h : ∀ k : Nat, k < 4 → 0 ≤ K 12 k ∧ K 12 k ≤ 3 * mm) (hk : 0 ≤ kd ∧ kd < 4) (hn : 0 ≤ nn ∧ nn ≤ 3) : ∀ k : Nat, k < 4 → 0 ≤ mU K 12 (Int.toNat kd) (K 12 (Int.toNat kd) + nn) 12 k ∧ mU K 12 (Int.toNat kd) (K 12 (Int.toNat kd) + nn) 12 k ≤ 3 * (mm + 1) := fun k hk2 => by
  have q1 := h (Int.toNat kd) (by omega)
  have q2 := h k hk2
  by_cases e : k = Int.toNat kd
  · rw [e, mU_eq]; omega
  · rw [mU_ni _ _ _ _ e]; omega
