/-- the whole class out of its blocks -/
def cAd (h0 tx re ia sh pl : Nat) (si al t1 t2 pa g0 g1 mo : Nat → Nat) (i : Nat) : Nat := if i < 15 then ([h0, tx, re, ia, si 0, si 1, si 2, si 3, si 4, al 0, al 1, al 2, al 3, sh, pl] : List Nat).getD i 0 else if i < 23 then t1 (i - 15) else if i < 31 then t2 (i - 23) else if i < 33 then pa (i - 31) else if i < 35 then g0 (6 + (i - 33)) else if i < 37 then g1 (6 + (i - 35)) else if i = 37 then g0 0 else if i = 38 then g1 0 else if i < 44 then mo (i - 39) else if i < 49 then g0 (1 + (i - 44)) else if i < 54 then g1 (1 + (i - 49)) else if i < 104 then pa (2 + (i - 54)) else if i < 154 then g0 (8 + (i - 104)) else g1 (8 + (i - 154))
def cV0 : Nat → Nat → Int := fun i k => if i = 0 then (if k = 3 then 15 else if k = 4 then 23 else 0) else if i = 22 ∨ i = 30 then (if k < 4 then 9 else 0) else if i = 32 then 54 + 5 * (k : Int) else if i = 34 then 104 + 5 * (k : Int) else if i = 36 then 154 + 5 * (k : Int) else 0
def cPos (i : Nat) : Nat := if i < 15 then ([0, 1, 203, 2, 125, 126, 127, 128, 129, 121, 122, 123, 124, 3, 4] : List Nat).getD i 0 else if i < 23 then 195 + (i - 15) else if i < 31 then 187 + (i - 23) else if i < 33 then 130 + (i - 31) else if i < 35 then 63 + (6 + (i - 33)) else if i < 37 then 5 + (6 + (i - 35)) else if i = 37 then 63 else if i = 38 then 5 else if i < 44 then 182 + (i - 39) else if i < 49 then 63 + (1 + (i - 44)) else if i < 54 then 5 + (1 + (i - 49)) else if i < 104 then 130 + (2 + (i - 54)) else if i < 154 then 63 + (8 + (i - 104)) else 5 + (8 + (i - 154))
theorem cPos_inj : ∀ i : Fin 204, ∀ j : Fin 204, cPos i.1 = cPos j.1 → i = j := by decide +kernel
def cL7 (C : cC) (h0 tx re ia sh pl : Nat) (si al t1 t2 pa g0 g1 mo : Nat → Nat) (fp f0 f1 fi : Nat → Option Nat) : va_W := [(h0, .inr (7, [.ref tx, .int (iZ 0), .ref re, .ref (t1 0), .ref (t2 0), .ref (mo 0), .ref (pa 0), .ref ia, .ref (si 0), .ref (al 0), .ref sh, .ref pl, .long (iL 0)])), (tx, .inl (C.1, 120, .inl (fun _ => iZ 0))), (ia, .inl (C.2.2, 2, .inr (.inr (.inr (.inr fi))))), (sh, .inl (C.1, 6, .inl (fun _ => iZ 0))), (pl, .inl (C.1, 6, .inl (fun _ => iZ 0)))] ++ (imB C g1 f1 ++ (imB C g0 f0 ++ (alB C al ++ (siB C si ++ (paB C pa fp ++ (moB C mo ++ (toB C t2 ++ (toB C t1 ++ (reB re tx ++ [])))))))))
theorem toB_at {C : cC} {q : Nat → Nat} {k : Nat} (hk : k < 8) : (toB C q)[k]? = some (q k, toE C q k) := by simp [toB, hk]
theorem siB_at {C : cC} {q : Nat → Nat} {k : Nat} (hk : k < 5) : (siB C q)[k]? = some (q k, siE C q k) := by simp [siB, hk]
theorem alB_at {C : cC} {q : Nat → Nat} {k : Nat} (hk : k < 4) : (alB C q)[k]? = some (q k, alE C q k) := by simp [alB, hk]
theorem toB_len {C : cC} {q : Nat → Nat} : (toB C q).length = 8 := by simp [toB]
theorem siB_len {C : cC} {q : Nat → Nat} : (siB C q).length = 5 := by simp [siB]
theorem alB_len {C : cC} {q : Nat → Nat} : (alB C q).length = 4 := by simp [alB]
theorem mo_cell {C : cC} {a q : Nat → Nat} {V : Nat → Nat → Int} {i z : Nat} (hi : isMo i) (hV : ∀ t, t < 5 → V (i + t) = fun _ => 0) (ha : ∀ t, t < 5 → a (i + t) = q t) (hz : z < 5) : cE C a (i + z) (V (i + z)) = moE C q z := by
  rw [hV z hz]
  rcases (show z = 0 ∨ z = 1 ∨ z = 2 ∨ z = 3 ∨ z = 4 by omega) with rfl | rfl | rfl | rfl | rfl
  · rw [show i + 0 = i from rfl, cE_26 hi.s0]
    simp only [cF26, moE, ha 1 (by omega), ha 2 (by omega), ha 3 (by omega), ha 4 (by omega)]
  · rw [cE_27 hi.s1]; rfl
  · rw [cE_28 hi.s2]; rfl
  · rw [cE_29 hi.s3]; rfl
  · rw [cE_30 hi.s4]; rfl
section CL7
variable {C : cC} {h0 tx re ia sh pl : Nat} {si al t1 t2 pa g0 g1 mo : Nat → Nat} {fp f0 f1 fi : Nat → Option Nat}
theorem L7_g1 {t : Nat} (h : t < 58) : (cL7 C h0 tx re ia sh pl si al t1 t2 pa g0 g1 mo fp f0 f1 fi)[5 + t]? = some (g1 t, imE C g1 f1 t) := by
  unfold cL7
  rw [at_sk (n := 5) rfl, at_hd (by rw [imB_len]; exact h), imB_at h]
theorem L7_g0 {t : Nat} (h : t < 58) : (cL7 C h0 tx re ia sh pl si al t1 t2 pa g0 g1 mo fp f0 f1 fi)[63 + t]? = some (g0 t, imE C g0 f0 t) := by
  unfold cL7
  rw [show 63 + t = 5 + (58 + t) by omega, at_sk (n := 5) rfl, at_sk imB_len, at_hd (by rw [imB_len]; exact h), imB_at h]
theorem L7_al {t : Nat} (h : t < 4) : (cL7 C h0 tx re ia sh pl si al t1 t2 pa g0 g1 mo fp f0 f1 fi)[121 + t]? = some (al t, alE C al t) := by
  unfold cL7
  rw [show 121 + t = 5 + (58 + (58 + t)) by omega, at_sk (n := 5) rfl, at_sk imB_len, at_sk imB_len, at_hd (by rw [alB_len]; exact h), alB_at h]
theorem L7_si {t : Nat} (h : t < 5) : (cL7 C h0 tx re ia sh pl si al t1 t2 pa g0 g1 mo fp f0 f1 fi)[125 + t]? = some (si t, siE C si t) := by
  unfold cL7
  rw [show 125 + t = 5 + (58 + (58 + (4 + t))) by omega, at_sk (n := 5) rfl, at_sk imB_len, at_sk imB_len, at_sk alB_len, at_hd (by rw [siB_len]; exact h), siB_at h]
theorem L7_pa {t : Nat} (h : t < 52) : (cL7 C h0 tx re ia sh pl si al t1 t2 pa g0 g1 mo fp f0 f1 fi)[130 + t]? = some (pa t, paE C pa fp t) := by
  unfold cL7
  rw [show 130 + t = 5 + (58 + (58 + (4 + (5 + t)))) by omega, at_sk (n := 5) rfl, at_sk imB_len, at_sk imB_len, at_sk alB_len, at_sk siB_len, at_hd (by rw [paB_len]; exact h), paB_at h]
theorem L7_mo {t : Nat} (h : t < 5) : (cL7 C h0 tx re ia sh pl si al t1 t2 pa g0 g1 mo fp f0 f1 fi)[182 + t]? = some (mo t, moE C mo t) := by
  unfold cL7
  rw [show 182 + t = 5 + (58 + (58 + (4 + (5 + (52 + t))))) by omega, at_sk (n := 5) rfl, at_sk imB_len, at_sk imB_len, at_sk alB_len, at_sk siB_len, at_sk paB_len, at_hd (by rw [moB_len]; exact h), moB_at h]
theorem L7_t2 {t : Nat} (h : t < 8) : (cL7 C h0 tx re ia sh pl si al t1 t2 pa g0 g1 mo fp f0 f1 fi)[187 + t]? = some (t2 t, toE C t2 t) := by
  unfold cL7
  rw [show 187 + t = 5 + (58 + (58 + (4 + (5 + (52 + (5 + t)))))) by omega, at_sk (n := 5) rfl, at_sk imB_len, at_sk imB_len, at_sk alB_len, at_sk siB_len, at_sk paB_len, at_sk moB_len, at_hd (by rw [toB_len]; exact h), toB_at h]
theorem L7_t1 {t : Nat} (h : t < 8) : (cL7 C h0 tx re ia sh pl si al t1 t2 pa g0 g1 mo fp f0 f1 fi)[195 + t]? = some (t1 t, toE C t1 t) := by
  unfold cL7
  rw [show 195 + t = 5 + (58 + (58 + (4 + (5 + (52 + (5 + (8 + t))))))) by omega, at_sk (n := 5) rfl, at_sk imB_len, at_sk imB_len, at_sk alB_len, at_sk siB_len, at_sk paB_len, at_sk moB_len, at_sk toB_len, at_hd (by rw [toB_len]; exact h), toB_at h]
theorem L7_re : (cL7 C h0 tx re ia sh pl si al t1 t2 pa g0 g1 mo fp f0 f1 fi)[203]? = some (re, .inr (5, [.ref tx, .int (iZ 0), .int (iZ 0), .int (iZ 0), .int (iZ 0), .int (iZ 0)])) := by
  unfold cL7
  rw [show 203 = 5 + (58 + (58 + (4 + (5 + (52 + (5 + (8 + (8 + 0)))))))) by omega, at_sk (n := 5) rfl, at_sk imB_len, at_sk imB_len, at_sk alB_len, at_sk siB_len, at_sk paB_len, at_sk moB_len, at_sk toB_len, at_sk toB_len]
  rfl
theorem cV0_mo {i : Nat} (h : 37 ≤ i) : cV0 i = fun _ => 0 := by
  funext k
  unfold cV0
  rw [if_neg (by omega), if_neg (by omega), if_neg (by omega), if_neg (by omega), if_neg (by omega)]
set_option maxRecDepth 100000 in
/-- each cell of the class is one of the blocks' -/
theorem cL7_at {D : va_G} {H : Heap} (hfp : ∀ j : Nat, j < 10 → fp j = some (pa (2 + 5 * j))) (hf0 : ∀ j : Nat, j < 10 → f0 j = some (g0 (8 + 5 * j))) (hf1 : ∀ j : Nat, j < 10 → f1 j = some (g1 (8 + 5 * j))) (hfi : fi 0 = some (g0 0) ∧ fi 1 = some (g1 0)) :
    ∀ i, i < 204 → ∃ e : va_E, (cL7 C h0 tx re ia sh pl si al t1 t2 pa g0 g1 mo fp f0 f1 fi)[cPos i]? = some (cAd h0 tx re ia sh pl si al t1 t2 pa g0 g1 mo i, e) ∧ (va_at D vwCl (cAd h0 tx re ia sh pl si al t1 t2 pa g0 g1 mo i, e) H → va_at D vwCl (cAd h0 tx re ia sh pl si al t1 t2 pa g0 g1 mo i, cE C (cAd h0 tx re ia sh pl si al t1 t2 pa g0 g1 mo) i (cV0 i)) H) := by
  obtain ⟨a, ha⟩ : ∃ z, z = cAd h0 tx re ia sh pl si al t1 t2 pa g0 g1 mo := ⟨_, rfl⟩
  have apa : ∀ t, t < 50 → a (54 + t) = pa (2 + t) := fun t ht => by
    rw [ha]; unfold cAd
    rw [if_neg (by omega), if_neg (by omega), if_neg (by omega), if_neg (by omega), if_neg (by omega), if_neg (by omega), if_neg (by omega), if_neg (by omega), if_neg (by omega), if_neg (by omega), if_neg (by omega), if_pos (by omega)]
    congr 1; omega
  have ag0 : ∀ t, t < 50 → a (104 + t) = g0 (8 + t) := fun t ht => by
    rw [ha]; unfold cAd
    rw [if_neg (by omega), if_neg (by omega), if_neg (by omega), if_neg (by omega), if_neg (by omega), if_neg (by omega), if_neg (by omega), if_neg (by omega), if_neg (by omega), if_neg (by omega), if_neg (by omega), if_neg (by omega), if_pos (by omega)]
    congr 1; omega
  have ag1 : ∀ t, t < 50 → a (154 + t) = g1 (8 + t) := fun t ht => by
    rw [ha]; unfold cAd
    rw [if_neg (by omega), if_neg (by omega), if_neg (by omega), if_neg (by omega), if_neg (by omega), if_neg (by omega), if_neg (by omega), if_neg (by omega), if_neg (by omega), if_neg (by omega), if_neg (by omega), if_neg (by omega), if_neg (by omega)]
    congr 1; omega
  have amo : ∀ t, t < 5 → a (39 + t) = mo t := fun t ht => by
    rw [ha]; unfold cAd
    rw [if_neg (by omega), if_neg (by omega), if_neg (by omega), if_neg (by omega), if_neg (by omega), if_neg (by omega), if_neg (by omega), if_neg (by omega), if_pos (by omega)]
    congr 1; omega
  have am0 : ∀ t, t < 5 → a (44 + t) = g0 (1 + t) := fun t ht => by
    rw [ha]; unfold cAd
    rw [if_neg (by omega), if_neg (by omega), if_neg (by omega), if_neg (by omega), if_neg (by omega), if_neg (by omega), if_neg (by omega), if_neg (by omega), if_neg (by omega), if_pos (by omega)]
    congr 1; omega
  have am1 : ∀ t, t < 5 → a (49 + t) = g1 (1 + t) := fun t ht => by
    rw [ha]; unfold cAd
    rw [if_neg (by omega), if_neg (by omega), if_neg (by omega), if_neg (by omega), if_neg (by omega), if_neg (by omega), if_neg (by omega), if_neg (by omega), if_neg (by omega), if_neg (by omega), if_pos (by omega)]
    congr 1; omega
  intro i hi
  rcases (show i < 39 ∨ (39 ≤ i ∧ i < 44) ∨ (44 ≤ i ∧ i < 49) ∨ (49 ≤ i ∧ i < 54) ∨ (54 ≤ i ∧ i < 104) ∨ (104 ≤ i ∧ i < 154) ∨ (154 ≤ i ∧ i < 204) by omega) with h | h | h | h | h | h | h
  · match i, h with
    | 0, _ => exact ⟨_, rfl, fun z => z⟩
    | 1, _ => exact ⟨_, rfl, fun z => z⟩
    | 2, _ => exact ⟨_, L7_re, fun z => z⟩
    | 3, _ => exact ⟨_, rfl, fun z => va_at_arr (fun j hj => by rcases (show j = 0 ∨ j = 1 by omega) with rfl | rfl <;> first | exact hfi.1 | exact hfi.2) z⟩
    | 4, _ => exact ⟨_, L7_si (t := 0) (by decide), fun z => z⟩
    | 5, _ => exact ⟨_, L7_si (t := 1) (by decide), fun z => z⟩
    | 6, _ => exact ⟨_, L7_si (t := 2) (by decide), fun z => z⟩
    | 7, _ => exact ⟨_, L7_si (t := 3) (by decide), fun z => z⟩
    | 8, _ => exact ⟨_, L7_si (t := 4) (by decide), fun z => z⟩
    | 9, _ => exact ⟨_, L7_al (t := 0) (by decide), fun z => z⟩
    | 10, _ => exact ⟨_, L7_al (t := 1) (by decide), fun z => z⟩
    | 11, _ => exact ⟨_, L7_al (t := 2) (by decide), fun z => z⟩
    | 12, _ => exact ⟨_, L7_al (t := 3) (by decide), fun z => z⟩
    | 13, _ => exact ⟨_, rfl, fun z => z⟩
    | 14, _ => exact ⟨_, rfl, fun z => z⟩
    | 15, _ => exact ⟨_, L7_t1 (t := 0) (by decide), fun z => z⟩
    | 16, _ => exact ⟨_, L7_t1 (t := 1) (by decide), fun z => z⟩
    | 17, _ => exact ⟨_, L7_t1 (t := 2) (by decide), fun z => z⟩
    | 18, _ => exact ⟨_, L7_t1 (t := 3) (by decide), fun z => z⟩
    | 19, _ => exact ⟨_, L7_t1 (t := 4) (by decide), fun z => z⟩
    | 20, _ => exact ⟨_, L7_t1 (t := 5) (by decide), fun z => z⟩
    | 21, _ => exact ⟨_, L7_t1 (t := 6) (by decide), fun z => z⟩
    | 22, _ => exact ⟨_, L7_t1 (t := 7) (by decide), fun z => z⟩
    | 23, _ => exact ⟨_, L7_t2 (t := 0) (by decide), fun z => z⟩
    | 24, _ => exact ⟨_, L7_t2 (t := 1) (by decide), fun z => z⟩
    | 25, _ => exact ⟨_, L7_t2 (t := 2) (by decide), fun z => z⟩
    | 26, _ => exact ⟨_, L7_t2 (t := 3) (by decide), fun z => z⟩
    | 27, _ => exact ⟨_, L7_t2 (t := 4) (by decide), fun z => z⟩
    | 28, _ => exact ⟨_, L7_t2 (t := 5) (by decide), fun z => z⟩
    | 29, _ => exact ⟨_, L7_t2 (t := 6) (by decide), fun z => z⟩
    | 30, _ => exact ⟨_, L7_t2 (t := 7) (by decide), fun z => z⟩
    | 31, _ => exact ⟨_, L7_pa (t := 0) (by decide), fun z => z⟩
    | 32, _ => exact ⟨_, L7_pa (t := 1) (by decide), fun z => va_at_arr (fun j hj => by rw [hfp j hj, ← apa (5 * j) (by omega), ha]; congr 2) z⟩
    | 33, _ => exact ⟨_, L7_g0 (t := 6) (by decide), fun z => z⟩
    | 34, _ => exact ⟨_, L7_g0 (t := 7) (by decide), fun z => va_at_arr (fun j hj => by rw [hf0 j hj, ← ag0 (5 * j) (by omega), ha]; congr 2) z⟩
    | 35, _ => exact ⟨_, L7_g1 (t := 6) (by decide), fun z => z⟩
    | 36, _ => exact ⟨_, L7_g1 (t := 7) (by decide), fun z => va_at_arr (fun j hj => by rw [hf1 j hj, ← ag1 (5 * j) (by omega), ha]; congr 2) z⟩
    | 37, _ => exact ⟨_, L7_g0 (t := 0) (by decide), fun z => z⟩
    | 38, _ => exact ⟨_, L7_g1 (t := 0) (by decide), fun z => z⟩
    | n + 39, h => exact absurd h (by omega)
  · have e1 : cE C a i (cV0 i) = moE C mo (i - 39) := by
      have := mo_cell (C := C) (a := a) (q := mo) (V := cV0) (i := 39) (z := i - 39) isMo_39 (fun t ht => cV0_mo (by omega)) amo (by omega)
      rwa [show 39 + (i - 39) = i by omega] at this
    have e2 : a i = mo (i - 39) := by rw [← amo _ (by omega)]; congr 1; omega
    have e3 : cPos i = 182 + (i - 39) := by
      unfold cPos
      rw [if_neg (by omega), if_neg (by omega), if_neg (by omega), if_neg (by omega), if_neg (by omega), if_neg (by omega), if_neg (by omega), if_neg (by omega), if_pos (by omega)]
    rw [← ha, e1, e2, e3]
    exact ⟨_, L7_mo (by omega), fun z => z⟩
  · have e1 : cE C a i (cV0 i) = imE C g0 f0 (1 + (i - 44)) := by
      have := mo_cell (C := C) (a := a) (q := fun t => g0 (1 + t)) (V := cV0) (i := 44) (z := i - 44) (by unfold isMo; omega) (fun t ht => cV0_mo (by omega)) am0 (by omega)
      rw [show 44 + (i - 44) = i by omega] at this
      rw [this]; unfold imE
      rw [if_neg (by omega), if_pos (by omega), show 1 + (i - 44) - 1 = i - 44 by omega]
    have e2 : a i = g0 (1 + (i - 44)) := by rw [← am0 _ (by omega)]; congr 1; omega
    have e3 : cPos i = 63 + (1 + (i - 44)) := by
      unfold cPos
      rw [if_neg (by omega), if_neg (by omega), if_neg (by omega), if_neg (by omega), if_neg (by omega), if_neg (by omega), if_neg (by omega), if_neg (by omega), if_neg (by omega), if_pos (by omega)]
    rw [← ha, e1, e2, e3]
    exact ⟨_, L7_g0 (by omega), fun z => z⟩
  · have e1 : cE C a i (cV0 i) = imE C g1 f1 (1 + (i - 49)) := by
      have := mo_cell (C := C) (a := a) (q := fun t => g1 (1 + t)) (V := cV0) (i := 49) (z := i - 49) (by unfold isMo; omega) (fun t ht => cV0_mo (by omega)) am1 (by omega)
      rw [show 49 + (i - 49) = i by omega] at this
      rw [this]; unfold imE
      rw [if_neg (by omega), if_pos (by omega), show 1 + (i - 49) - 1 = i - 49 by omega]
    have e2 : a i = g1 (1 + (i - 49)) := by rw [← am1 _ (by omega)]; congr 1; omega
    have e3 : cPos i = 5 + (1 + (i - 49)) := by
      unfold cPos
      rw [if_neg (by omega), if_neg (by omega), if_neg (by omega), if_neg (by omega), if_neg (by omega), if_neg (by omega), if_neg (by omega), if_neg (by omega), if_neg (by omega), if_neg (by omega), if_pos (by omega)]
    rw [← ha, e1, e2, e3]
    exact ⟨_, L7_g1 (by omega), fun z => z⟩
  · have e1 : cE C a i (cV0 i) = paE C pa fp (2 + (i - 54)) := by
      have := mo_cell (C := C) (a := a) (q := fun t => pa (2 + 5 * ((i - 54) / 5) + t)) (V := cV0) (i := 54 + 5 * ((i - 54) / 5)) (z := (i - 54) % 5) (by unfold isMo; omega) (fun t ht => cV0_mo (by omega)) (fun t ht => by rw [show 54 + 5 * ((i - 54) / 5) + t = 54 + (5 * ((i - 54) / 5) + t) by omega, apa _ (by omega)]; congr 1; omega) (by omega)
      rw [show 54 + 5 * ((i - 54) / 5) + (i - 54) % 5 = i by omega] at this
      rw [this]; unfold paE
      rw [if_neg (by omega), if_neg (by omega), show 2 + (i - 54) - 2 = i - 54 by omega]
    have e2 : a i = pa (2 + (i - 54)) := by rw [← apa _ (by omega)]; congr 1; omega
    have e3 : cPos i = 130 + (2 + (i - 54)) := by
      unfold cPos
      rw [if_neg (by omega), if_neg (by omega), if_neg (by omega), if_neg (by omega), if_neg (by omega), if_neg (by omega), if_neg (by omega), if_neg (by omega), if_neg (by omega), if_neg (by omega), if_neg (by omega), if_pos (by omega)]
    rw [← ha, e1, e2, e3]
    exact ⟨_, L7_pa (by omega), fun z => z⟩
  · have e1 : cE C a i (cV0 i) = imE C g0 f0 (8 + (i - 104)) := by
      have := mo_cell (C := C) (a := a) (q := fun t => g0 (6 + (2 + 5 * ((i - 104) / 5) + t))) (V := cV0) (i := 104 + 5 * ((i - 104) / 5)) (z := (i - 104) % 5) (by unfold isMo; omega) (fun t ht => cV0_mo (by omega)) (fun t ht => by rw [show 104 + 5 * ((i - 104) / 5) + t = 104 + (5 * ((i - 104) / 5) + t) by omega, ag0 _ (by omega)]; congr 1; omega) (by omega)
      rw [show 104 + 5 * ((i - 104) / 5) + (i - 104) % 5 = i by omega] at this
      rw [this]; unfold imE paE
      rw [if_neg (by omega), if_neg (by omega), if_neg (by omega), if_neg (by omega), show 8 + (i - 104) - 6 - 2 = i - 104 by omega]
    have e2 : a i = g0 (8 + (i - 104)) := by rw [← ag0 _ (by omega)]; congr 1; omega
    have e3 : cPos i = 63 + (8 + (i - 104)) := by
      unfold cPos
      rw [if_neg (by omega), if_neg (by omega), if_neg (by omega), if_neg (by omega), if_neg (by omega), if_neg (by omega), if_neg (by omega), if_neg (by omega), if_neg (by omega), if_neg (by omega), if_neg (by omega), if_neg (by omega), if_pos (by omega)]
    rw [← ha, e1, e2, e3]
    exact ⟨_, L7_g0 (by omega), fun z => z⟩
  · have e1 : cE C a i (cV0 i) = imE C g1 f1 (8 + (i - 154)) := by
      have := mo_cell (C := C) (a := a) (q := fun t => g1 (6 + (2 + 5 * ((i - 154) / 5) + t))) (V := cV0) (i := 154 + 5 * ((i - 154) / 5)) (z := (i - 154) % 5) (by unfold isMo; omega) (fun t ht => cV0_mo (by omega)) (fun t ht => by rw [show 154 + 5 * ((i - 154) / 5) + t = 154 + (5 * ((i - 154) / 5) + t) by omega, ag1 _ (by omega)]; congr 1; omega) (by omega)
      rw [show 154 + 5 * ((i - 154) / 5) + (i - 154) % 5 = i by omega] at this
      rw [this]; unfold imE paE
      rw [if_neg (by omega), if_neg (by omega), if_neg (by omega), if_neg (by omega), show 8 + (i - 154) - 6 - 2 = i - 154 by omega]
    have e2 : a i = g1 (8 + (i - 154)) := by rw [← ag1 _ (by omega)]; congr 1; omega
    have e3 : cPos i = 5 + (8 + (i - 154)) := by
      unfold cPos
      rw [if_neg (by omega), if_neg (by omega), if_neg (by omega), if_neg (by omega), if_neg (by omega), if_neg (by omega), if_neg (by omega), if_neg (by omega), if_neg (by omega), if_neg (by omega), if_neg (by omega), if_neg (by omega), if_neg (by omega)]
    rw [← ha, e1, e2, e3]
    exact ⟨_, L7_g1 (by omega), fun z => z⟩
theorem cW_of {D : va_G} {A : Nat → Prop} {H : Heap} (hfp : ∀ j : Nat, j < 10 → fp j = some (pa (2 + 5 * j))) (hf0 : ∀ j : Nat, j < 10 → f0 j = some (g0 (8 + 5 * j))) (hf1 : ∀ j : Nat, j < 10 → f1 j = some (g1 (8 + 5 * j))) (hfi : fi 0 = some (g0 0) ∧ fi 1 = some (g1 0))
    (hP : va_P D vwCl (cL7 C h0 tx re ia sh pl si al t1 t2 pa g0 g1 mo fp f0 f1 fi) H) (hD : va_D A (cL7 C h0 tx re ia sh pl si al t1 t2 pa g0 g1 mo fp f0 f1 fi)) : va_P D vwCl (cW C (cAd h0 tx re ia sh pl si al t1 t2 pa g0 g1 mo) cV0) H ∧ va_D A (cW C (cAd h0 tx re ia sh pl si al t1 t2 pa g0 g1 mo) cV0) := by
  have hlt : ∀ (k : Nat) (q : Nat × va_E), (cW C (cAd h0 tx re ia sh pl si al t1 t2 pa g0 g1 mo) cV0)[k]? = some q → k < 204 := fun k q hq => by
    have := (List.getElem?_eq_some_iff.mp hq).1
    rw [cW_len] at this; exact this
  refine ⟨hP.tr (fun k q hq => ?_), hD.tr cPos (fun k q hq => ?_) (fun i j hi hj h => ?_)⟩
  · have hk := hlt k q hq
    rw [cW_get hk rfl] at hq
    cases hq
    obtain ⟨e, h1, h2⟩ := cL7_at (D := D) (H := H) hfp hf0 hf1 hfi k hk
    exact ⟨_, e, h1, h2⟩
  · have hk := hlt k q hq
    rw [cW_get hk rfl] at hq
    cases hq
    obtain ⟨e, h1, -⟩ := cL7_at (D := D) (H := H) hfp hf0 hf1 hfi k hk
    exact ⟨e, h1⟩
  · rw [cW_len] at hi hj
    have := cPos_inj ⟨i, hi⟩ ⟨j, hj⟩ h
    exact congrArg Fin.val this
end CL7
