/-! What the class's calls make of its state. -/
theorem moI.of {V W : Nat → Nat → Int} {i : Nat} (h : moI V i) (e0 : W i = V i) (e1 : W (i + 1) = V (i + 1)) (e2 : W (i + 2) = V (i + 2)) (e3 : W (i + 3) = V (i + 3)) (e4 : W (i + 4) = V (i + 4)) : moI W i := by
  unfold moI
  rw [e0, e1, e2, e3, e4]
  exact h
theorem toI.of {V W : Nat → Nat → Int} {i j : Nat} (h : toI V i) (e : ∀ k, k < 8 → W (j + k) = V (i + k)) : toI W j := by
  have e0 := e 0 (by omega)
  rw [Nat.add_zero, Nat.add_zero] at e0
  unfold toI
  rw [e0, e 1 (by omega), e 2 (by omega), e 3 (by omega), e 4 (by omega), e 5 (by omega), e 6 (by omega)]
  exact h
theorem isPa.cell {i : Nat} (h : isIm i) : isPa (33 + 2 * (i - 37)) := h.pa
/-- what the state's bounds rest on -/
theorem cI.of {V W : Nat → Nat → Int} (hI : cI V) (h03 : W 0 3 = V 0 3) (h04 : W 0 4 = V 0 4) (h01 : W 0 1 = V 0 1) (h : ∀ g, (1 ≤ g ∧ g < 9) ∨ (15 ≤ g ∧ g < 44) → W g = V g) : cI W := by
  obtain ⟨hto, hto4, hne, htx, hT, hM, hpa, hpi, hki, hsz, hsg, hby⟩ := hI
  have hto2 := hto
  unfold isTo at hto2
  refine ⟨by rw [h03]; exact hto, by rw [h04]; exact hto4, by rw [h03, h04]; exact hne, by rw [h01]; exact htx, ?_, hM.of (h _ (by omega)) (h _ (by omega)) (h _ (by omega)) (h _ (by omega)) (h _ (by omega)), hpa.of (h _ (by omega)) (h _ (by omega)), fun q hq => ?_, fun q hq => ?_, by rw [h 4 (by omega)]; exact hsz, fun k hk => ?_, fun k hk => ?_⟩
  · rw [h03]; exact hT.of (fun k hk => h _ (by omega))
  · have hq2 := hq
    unfold isIm at hq2
    exact (hpi q hq).of (h _ (by omega)) (h _ (by omega))
  · have hq2 := hq
    unfold isIm at hq2
    rw [h q (by omega)]; exact hki q hq
  · rw [h 4 (by omega)] at hk
    rw [h 5 (by omega), h 6 (by omega), h 7 (by omega), h 8 (by omega), h03, h _ (by omega)]
    exact hsg k hk
  · rw [h 1 (by omega)]; exact hby k hk
theorem cI_tr {V : Nat → Nat → Int} (hI : cI V) (x : Int) : cI (mU V 0 12 x) := hI.of rfl rfl rfl (fun g hg => mU_or _ _ _ (by omega))
theorem moI_rem {V : Nat → Nat → Int} (hM : moI V 39) (hpa : paI V 31) : moI (f_rem V 31 39) 39 := hM.of (f_rem_lo hpa (by omega)) (f_rem_lo hpa (by omega)) (f_rem_lo hpa (by omega)) (f_rem_lo hpa (by omega)) (f_rem_lo hpa (by omega))
theorem moI_fe {V : Nat → Nat → Int} (hM : moI V 39) {k : Nat} {x : Int} (h : 0 ≤ x ∧ x ≤ 20) : moI (mU V 40 k x) 39 := by
  obtain ⟨h1, h2, h3, h4, h5, h6⟩ := hM
  have e39 : mU V 40 k x 39 = V 39 := mU_or _ _ _ (by decide)
  have e41 : mU V 40 k x (39 + 2) = V (39 + 2) := mU_or _ _ _ (by decide)
  have e42 : mU V 40 k x (39 + 3) = V (39 + 3) := mU_or _ _ _ (by decide)
  have e43 : mU V 40 k x (39 + 4) = V (39 + 4) := mU_or _ _ _ (by decide)
  unfold moI
  rw [e39, e41, e42, e43]
  refine ⟨h1, h2, h3, fun q hq => ?_, h5, h6⟩
  by_cases z : q = k
  · subst z
    rw [show mU V 40 q x (39 + 1) q = x from mU_eq _ _ _ _]; exact h
  · rw [show mU V 40 k x (39 + 1) q = V 40 q from mU_ni _ _ _ _ z]; exact h4 q hq
theorem moI_tel {V : Nat → Nat → Int} {i : Nat} (hM : moI V i) {pe sy : Int} (h : 0 ≤ sy ∧ sy < 6) : moI (f_tel V i pe sy) i := by
  obtain ⟨h1, h2, h3, h4, h5, h6⟩ := hM
  unfold moI
  rw [f_tel_o V pe sy (show i ≠ i + 2 by omega), f_tel_o V pe sy (show i + 1 ≠ i + 2 by omega), f_tel_o V pe sy (show i + 3 ≠ i + 2 by omega), f_tel_o V pe sy (show i + 4 ≠ i + 2 by omega)]
  refine ⟨h1, h2, h3, h4, fun q hq => ?_, h6⟩
  have hv := h5 q hq
  have hz : 0 ≤ zp sy ∧ zp sy < 64 := by
    rcases (show sy = 0 ∨ sy = 1 ∨ sy = 2 ∨ sy = 3 ∨ sy = 4 ∨ sy = 5 by omega) with rfl | rfl | rfl | rfl | rfl | rfl <;> decide
  simp only [f_tel, f_tlN]
  split
  · exact zor_lt (k := 6) ⟨hv.1, by omega⟩ ⟨hz.1, by omega⟩
  · exact hv
def c_lt1 (V : Nat → Nat → Int) (fe nn : Int) : Nat → Nat → Int := mU (f_rem V 31 39) 40 (Int.toNat fe) (f_rem V 31 39 40 (Int.toNat fe) - nn)
def c_lts (V : Nat → Nat → Int) (sy fe nn he la : Int) : Nat → Nat → Int := if he = 0 ∧ ¬ la = -9 then f_ads (f_tel (c_lt1 V fe nn) 39 he sy) 39 sy la else f_tel (c_lt1 V fe nn) 39 he sy
abbrev c_lok (V : Nat → Nat → Int) (pe sy fe nn sd : Int) : Prop := (0 ≤ pe ∧ pe < V (Int.toNat (V 0 3)) 7) ∧ (0 ≤ sy ∧ sy < V (Int.toNat (V 0 3)) 8) ∧ (0 ≤ fe ∧ fe ≤ 3) ∧ (0 ≤ nn ∧ nn ≤ 3) ∧ (0 ≤ sd ∧ sd ≤ 1)
abbrev c_lgo (V : Nat → Nat → Int) (pe sy fe nn : Int) : Prop := V 41 (Int.toNat pe) / zp sy % 2 = 1 ∧ nn ≤ V 40 (Int.toNat fe)
def c_ll (V : Nat → Nat → Int) (pe sy fe nn sd : Int) : Int := c_la V pe sy (100 * fe + 10 * nn + sd) (c_wind V 0)
def c_lh (V : Nat → Nat → Int) (pe sy fe nn sd : Int) : Int := c_heN V pe (c_ll V pe sy fe nn sd)
def c_letR (V : Nat → Nat → Int) (pe sy fe nn sd : Int) : Int := if c_lok V pe sy fe nn sd then (if c_lgo V pe sy fe nn then c_lh V pe sy fe nn sd else -2) else -1
def c_letS (V : Nat → Nat → Int) (pe sy fe nn sd : Int) : Nat → Nat → Int := if c_lok V pe sy fe nn sd ∧ c_lgo V pe sy fe nn then c_lts V sy fe nn (c_lh V pe sy fe nn sd) (c_ll V pe sy fe nn sd) else V
theorem zfind_bd2 (b : Int → Bool) : ∀ (n : Nat) (i : Int), 0 ≤ i → zfind b n i = -9 ∨ (i ≤ zfind b n i ∧ zfind b n i < i + n)
  | 0, i, _ => Or.inl rfl
  | n + 1, i, h => by
    simp only [zfind]
    split
    · right; push_cast; omega
    · rcases zfind_bd2 b n (i + 1) (by omega) with q | q
      · exact Or.inl q
      · right; push_cast; omega
def c_fnd (V : Nat → Nat → Int) (pe : Int) : Int := zfind (fun q => decide (V 43 (Int.toNat q) = V (Int.toNat (V 0 3) + 1) (Int.toNat pe))) (Int.toNat (V 39 2)) 0
def c_pkS (V : Nat → Nat → Int) (pe : Int) : Nat → Nat → Int := if (0 ≤ pe ∧ pe < V (Int.toNat (V 0 3)) 7) ∧ 0 ≤ c_fnd V pe then f_tel (f_rmv (f_rem V 31 39) 39 (c_fnd V pe)) 39 (zp pe) (f_rem V 31 39 42 (Int.toNat (c_fnd V pe))) else V
def c_pkR (V : Nat → Nat → Int) (pe : Int) : Int := if 0 ≤ pe ∧ pe < V (Int.toNat (V 0 3)) 7 then (if 0 ≤ c_fnd V pe then V 42 (Int.toNat (c_fnd V pe)) else -2) else -1
theorem f_rmv_o (V : Nat → Nat → Int) {i g : Nat} (ii : Int) (h1 : g ≠ i) (h2 : g ≠ i + 3) (h3 : g ≠ i + 4) : f_rmv V i ii g = V g := by
  unfold f_rmv
  rw [mU_or _ _ _ h1]
  funext k
  simp [f_rmN, h2, h3]
def c_mkv (V : Nat → Nat → Int) (kd pe : Int) : Int := if kd = 0 then V (Int.toNat (V 0 3) + 1) (Int.toNat pe) else if kd = 1 then V (Int.toNat (V 0 3) + 1) (Int.toNat pe) + zbc (V 41 (Int.toNat pe)) else if kd = 2 then V (Int.toNat (V 0 3) + 1) (Int.toNat pe) - V 39 1 else if kd = 3 then (V (Int.toNat (V 0 3) + 1) (Int.toNat pe) + zbc (V 41 (Int.toNat pe))) * 2 else if kd = 4 then V (Int.toNat (V 0 3) + 1) (Int.toNat pe) - V 39 1 + pe else V (Int.toNat (V 0 3) + 1) (Int.toNat pe) + (V 40 0 + V 40 1 + V 40 2 + V 40 3)
def c_mkt (kd : Int) : Int := if kd = 0 then 1 else if kd = 1 then 11 else if kd = 2 then 101 else if kd = 3 then 1011 else if kd = 4 then 10101 else 100001
