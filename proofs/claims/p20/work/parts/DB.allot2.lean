/-! Allot: what a way costs, the first best one, the answer. -/
/-- the kind of a saying in a way -/
def kdF (st : Int) (S : Nat) (tr : Int) (s : Nat) : Int := tr / zp (2 * ((cb st S : Int) - 1 - (cb st s : Int))) % 4
theorem kdF_bd (st : Int) (S : Nat) (tr : Int) (s : Nat) : 0 ≤ kdF st S tr s ∧ kdF st S tr s < 4 := z_mod (by omega)
def lF (M : Nat → Nat → Int) (st : Int) (S : Nat) (tr : Int) (s : Nat) : Int := s_lk M (s : Int) (kdF st S tr s)
def wF (V : Nat → Nat → Int) (st : Int) (S : Nat) (tr : Int) (s : Nat) : Int := c_few V (s : Int) (kdF st S tr s)
def onK (kd f : Nat → Int) (j : Nat) : Nat → Int := fun s => if kd s = (j : Int) then f s else 0
theorem dv_step (tr : Int) (k : Nat) : tr / zp (2 * (k : Int)) / 4 = tr / zp (2 * ((k : Int) + 1)) := by
  rw [zp2_s, Int.ediv_ediv_of_nonneg (zp_nn _)]
/-- the reference's sums -/
theorem tk_row {M X : Nat → Nat → Int} {st tr : Int} {S : Nat} (hS : X 5 0 = (S : Int)) (h25 : ∀ s kd : Nat, s < S → kd < 4 → X 25 (4 * s + kd) = s_lk M (s : Int) (kd : Int)) : ∀ n : Nat, n ≤ S → s_tk X st tr n 0 = tr / zp (2 * ((cb st S : Int) - (cb st (S - n) : Int))) ∧ s_tk X st tr n 1 = gSum st (lF M st S tr) S - gSum st (lF M st S tr) (S - n) ∧ ∀ j : Nat, s_tk X st tr n (j + 2) = gSum st (onK (kdF st S tr) (lF M st S tr) j) S - gSum st (onK (kdF st S tr) (lF M st S tr) j) (S - n)
  | 0, _ => by
    refine ⟨?_, ?_, fun j => ?_⟩
    · show tr = _
      rw [Nat.sub_zero, Int.sub_self]
      show tr = tr / 1
      rw [Int.ediv_one]
    · show (0 : Int) = _
      rw [Nat.sub_zero, Int.sub_self]
    · show (0 : Int) = _
      rw [Nat.sub_zero, Int.sub_self]
  | n + 1, hn => by
    obtain ⟨a, b, c⟩ := tk_row hS h25 n (by omega) (st := st) (tr := tr) (M := M)
    obtain ⟨s, hs⟩ : ∃ s, s = S - (n + 1) := ⟨_, rfl⟩
    have es : S - n = s + 1 := by omega
    rw [es] at a b c
    rw [← hs]
    have ez : X 5 0 - 1 - (n : Int) = (s : Int) := by omega
    have e0 : s_tk X st tr (n + 1) 0 = if st / zp (s : Int) % 2 = 1 then s_tk X st tr n 0 / 4 else s_tk X st tr n 0 := by rw [← ez]; rfl
    have e1 : s_tk X st tr (n + 1) 1 = if st / zp (s : Int) % 2 = 1 then s_tk X st tr n 1 + X 25 (Int.toNat (4 * (s : Int) + s_tk X st tr n 0 % 4)) else s_tk X st tr n 1 := by rw [← ez]; rfl
    have e2 : ∀ j : Nat, s_tk X st tr (n + 1) (j + 2) = if st / zp (s : Int) % 2 = 1 then s_tk X st tr n (j + 2) + (if s_tk X st tr n 0 % 4 = ((j + 2 : Nat) : Int) - 2 then X 25 (Int.toNat (4 * (s : Int) + s_tk X st tr n 0 % 4)) else 0) else s_tk X st tr n (j + 2) := fun j => by rw [← ez]; rfl
    by_cases y : zb st s
    · have c1 := cb_s1 y
      have c2 := cb_mono (st := st) (show s + 1 ≤ S by omega)
      obtain ⟨d, hd⟩ : ∃ d : Nat, cb st S = cb st s + 1 + d := ⟨cb st S - cb st s - 1, by omega⟩
      have a2 : s_tk X st tr n 0 = tr / zp (2 * (d : Int)) := by
        rw [a, c1, hd]
        congr 2; omega
      have kd : s_tk X st tr n 0 % 4 = kdF st S tr s := by
        rw [a2]
        unfold kdF
        rw [hd]
        congr 3; omega
      have kb := kdF_bd st S tr s
      have xv : X 25 (Int.toNat (4 * (s : Int) + s_tk X st tr n 0 % 4)) = lF M st S tr s := by
        rw [kd]
        have := h25 s (Int.toNat (kdF st S tr s)) (by omega) (by omega)
        rw [show Int.toNat (4 * (s : Int) + kdF st S tr s) = 4 * s + Int.toNat (kdF st S tr s) by omega, this, show ((Int.toNat (kdF st S tr s) : Nat) : Int) = kdF st S tr s by omega]
        rfl
      have y2 : st / zp (s : Int) % 2 = 1 := y
      refine ⟨?_, ?_, fun j => ?_⟩
      · rw [e0, if_pos y2, a2, dv_step, hd]
        congr 2; omega
      · rw [e1, if_pos y2, b, xv, gSum_1 y]; omega
      · rw [e2 j, if_pos y2, c j, xv, kd, gSum_1 y]
        have e3 : onK (kdF st S tr) (lF M st S tr) j s = if kdF st S tr s = ((j + 2 : Nat) : Int) - 2 then lF M st S tr s else 0 := by
          unfold onK
          rw [show ((j + 2 : Nat) : Int) - 2 = (j : Int) by omega]
        rw [e3]; omega
    · have y2 : ¬ st / zp (s : Int) % 2 = 1 := y
      refine ⟨?_, ?_, fun j => ?_⟩
      · rw [e0, if_neg y2, a, cb_s0 y]
      · rw [e1, if_neg y2, b, gSum_0 y]
      · rw [e2 j, if_neg y2, c j, gSum_0 y]
/-- the class's sums -/
theorem us_row {V K : Nat → Nat → Int} {st tr : Int} {S : Nat} (h9 : K 9 3 = (cb st S : Int)) (h11 : ∀ s, s < S → zb st s → ∀ kd, kd < 4 → K 11 (cb st s * 4 + kd) = c_few V (s : Int) (kd : Int)) : (∀ s, s < S → zb st s → c_kd K tr (cb st s : Int) = kdF st S tr s ∧ c_fw K tr (cb st s : Int) = wF V st S tr s) ∧ ∀ n : Nat, n ≤ S → c_coN K tr (cb st n) = gSum st (wF V st S tr) n ∧ ∀ j, j < 4 → f_us K tr (cb st n) 12 j = gSum st (onK (kdF st S tr) (wF V st S tr) j) n := by
  have key : ∀ s, s < S → zb st s → c_kd K tr (cb st s : Int) = kdF st S tr s ∧ c_fw K tr (cb st s : Int) = wF V st S tr s := fun s hs hb => by
    have e : c_kd K tr (cb st s : Int) = kdF st S tr s := by unfold c_kd kdF; rw [h9]
    have kb := kdF_bd st S tr s
    refine ⟨e, ?_⟩
    unfold c_fw wF
    rw [e, show Int.toNat ((cb st s : Int) * 4 + kdF st S tr s) = cb st s * 4 + Int.toNat (kdF st S tr s) by omega, h11 s hs hb _ (by omega), show ((Int.toNat (kdF st S tr s) : Nat) : Int) = kdF st S tr s by omega]
  refine ⟨key, fun n => ?_⟩
  induction n with
  | zero => exact fun _ => ⟨rfl, fun j hj => f_u0_0 K 4 j hj⟩
  | succ n ih =>
    intro hn
    obtain ⟨a, b⟩ := ih (by omega)
    by_cases y : zb st n
    · obtain ⟨k1, k2⟩ := key n (by omega) y
      rw [cb_s1 y]
      have e1 : c_coN K tr (cb st n + 1) = c_coN K tr (cb st n) + c_fw K tr (cb st n : Int) := rfl
      have e2 : f_us K tr (cb st n + 1) = mU (f_us K tr (cb st n)) 12 (Int.toNat (c_kd K tr (cb st n : Int))) (f_us K tr (cb st n) 12 (Int.toNat (c_kd K tr (cb st n : Int))) + c_fw K tr (cb st n : Int)) := rfl
      have kb := kdF_bd st S tr n
      refine ⟨by rw [e1, a, k2, gSum_1 y], fun j hj => ?_⟩
      rw [e2, k1, k2, gSum_1 y]
      by_cases z : kdF st S tr n = (j : Int)
      · have zj : j = Int.toNat (kdF st S tr n) := by omega
        have o : onK (kdF st S tr) (wF V st S tr) j n = wF V st S tr n := if_pos z
        rw [← zj, mU_eq, b j hj, o]
      · have o : onK (kdF st S tr) (wF V st S tr) j n = 0 := if_neg z
        rw [mU_ni _ _ _ _ (by omega), b j hj, o, Int.add_zero]
    · rw [cb_s0 y, gSum_0 y]
      refine ⟨a, fun j hj => ?_⟩
      rw [gSum_0 y]
      exact b j hj
theorem cost_eq {V M K X : Nat → Nat → Int} {st tr : Int} {S : Nat} (hS6 : S ≤ 6) (hS : X 5 0 = (S : Int)) (h25 : ∀ s kd : Nat, s < S → kd < 4 → X 25 (4 * s + kd) = s_lk M (s : Int) (kd : Int)) (h9 : K 9 3 = (cb st S : Int)) (h11 : ∀ s, s < S → zb st s → ∀ kd, kd < 4 → K 11 (cb st s * 4 + kd) = c_few V (s : Int) (kd : Int)) (hf : ∀ j, j < 4 → K 40 j = X 19 (2 + j) ∧ 0 ≤ K 40 j) (hw : ∀ s kd : Nat, s < S → kd < 4 → (0 ≤ c_few V (s : Int) (kd : Int) ∧ c_few V (s : Int) (kd : Int) ≤ 3 ∧ s_lk M (s : Int) (kd : Int) = c_few V (s : Int) (kd : Int)) ∨ (c_few V (s : Int) (kd : Int) = -9 ∧ s_lk M (s : Int) (kd : Int) = 1000000)) : ((0 ≤ c_cst K tr ∧ c_cst K tr ≤ 18) ∧ s_takes X st tr = c_cst K tr ∧ ∀ s, s < S → zb st s → 0 ≤ wF V st S tr s) ∨ (c_cst K tr = -9 ∧ s_takes X st tr = 1000000) := by
  obtain ⟨k1, k2⟩ := us_row (tr := tr) h9 h11
  obtain ⟨-, t1, t2⟩ := tk_row (st := st) (tr := tr) hS h25 S (Nat.le_refl _)
  rw [Nat.sub_self] at t1 t2
  have z1 : gSum st (lF M st S tr) 0 = 0 := rfl
  have z2 : ∀ j, gSum st (onK (kdF st S tr) (lF M st S tr) j) 0 = 0 := fun j => rfl
  rw [z1, Int.sub_zero] at t1
  have t3 : ∀ j : Nat, s_tk X st tr S (j + 2) = gSum st (onK (kdF st S tr) (lF M st S tr) j) S := fun j => by rw [t2 j, z2, Int.sub_zero]
  have eT : s_takes X st tr = if (gSum st (onK (kdF st S tr) (lF M st S tr) 0) S ≤ X 19 2 ∧ gSum st (onK (kdF st S tr) (lF M st S tr) 1) S ≤ X 19 3 ∧ gSum st (onK (kdF st S tr) (lF M st S tr) 2) S ≤ X 19 4 ∧ gSum st (onK (kdF st S tr) (lF M st S tr) 3) S ≤ X 19 5) ∧ gSum st (lF M st S tr) S < 1000000 then gSum st (lF M st S tr) S else 1000000 := by
    unfold s_takes
    rw [hS, Int.toNat_natCast, t1, t3 0, t3 1, t3 2, t3 3]
  have wl : ∀ s, s < S → (0 ≤ wF V st S tr s ∧ wF V st S tr s ≤ 3 ∧ lF M st S tr s = wF V st S tr s) ∨ (wF V st S tr s = -9 ∧ lF M st S tr s = 1000000) := fun s hs => by
    have kb := kdF_bd st S tr s
    have := hw s (Int.toNat (kdF st S tr s)) hs (by omega)
    rw [show ((Int.toNat (kdF st S tr s) : Nat) : Int) = kdF st S tr s by omega] at this
    exact this
  have l0 : ∀ s, s < S → zb st s → 0 ≤ lF M st S tr s := fun s hs _ => by
    rcases wl s hs with y | y <;> omega
  have sp := zfind_spec (fun q => decide (c_bad K tr q)) (cb st S) 0
  have es : c_stp K tr = zfind (fun q => decide (c_bad K tr q)) (cb st S) 0 := by
    unfold c_stp
    rw [h9, show Int.toNat ((cb st S : Int) - 0) = cb st S by omega]
  rw [← es] at sp
  by_cases hall : ∀ s, s < S → zb st s → 0 ≤ wF V st S tr s
  · have lw : ∀ s, s < S → zb st s → lF M st S tr s = wF V st S tr s := fun s hs hb => by
      have := hall s hs hb
      rcases wl s hs with y | y
      · exact y.2.2
      · omega
    have on0 : ∀ j s, s < S → zb st s → 0 ≤ onK (kdF st S tr) (wF V st S tr) j s := fun j s hs hb => by
      unfold onK
      split
      · exact hall s hs hb
      · exact Int.le_refl _
    have H : ∀ j, gSum st (onK (kdF st S tr) (lF M st S tr) j) S = gSum st (onK (kdF st S tr) (wF V st S tr) j) S := fun j => gSum_cong S (fun s hs hb => by unfold onK; rw [lw s hs hb])
    have G : gSum st (lF M st S tr) S = gSum st (wF V st S tr) S := gSum_cong S lw
    have gb := gSum_bd (st := st) (f := wF V st S tr) (B := 3) S (fun s hs hb => ⟨hall s hs hb, by rcases wl s hs with y | y <;> omega⟩)
    have gb2 := gb.2 (by decide)
    rcases sp with ⟨a, b⟩ | ⟨q, q1, q2, q3, q4, -⟩
    · left
      have nb : ∀ s, s < S → zb st s → ¬ c_bad K tr (cb st s : Int) := fun s hs hb => of_decide_eq_false (b (cb st s : Int) (by omega) (by have := cb_lt hs hb; omega))
      have fin : ∀ j, j < 4 → ∀ n, n ≤ S → gSum st (onK (kdF st S tr) (wF V st S tr) j) n ≤ K 40 j := by
        intro j hj n
        induction n with
        | zero => exact fun _ => (hf j hj).2
        | succ n ih =>
          intro hn
          by_cases y : zb st n
          · rw [gSum_1 y]
            by_cases z : kdF st S tr n = (j : Int)
            · have o : onK (kdF st S tr) (wF V st S tr) j n = wF V st S tr n := if_pos z
              have c := nb n (by omega) y
              unfold c_bad at c
              rw [(k1 n (by omega) y).1, (k1 n (by omega) y).2, show Int.toNat (kdF st S tr n) = j by omega, Int.toNat_natCast, (k2 n (by omega)).2 j hj] at c
              rw [o]
              omega
            · have o : onK (kdF st S tr) (wF V st S tr) j n = 0 := if_neg z
              rw [o, Int.add_zero]
              exact ih (by omega)
          · rw [gSum_0 y]
            exact ih (by omega)
      have ec : c_cst K tr = gSum st (wF V st S tr) S := by
        unfold c_cst
        rw [if_pos a, h9, Int.toNat_natCast]
        exact (k2 S (Nat.le_refl _)).1
      have f0 := fin 0 (by omega) S (Nat.le_refl _)
      have f1 := fin 1 (by omega) S (Nat.le_refl _)
      have f2 := fin 2 (by omega) S (Nat.le_refl _)
      have f3 := fin 3 (by omega) S (Nat.le_refl _)
      have h0 : K 40 0 = X 19 2 := (hf 0 (by omega)).1
      have h1 : K 40 1 = X 19 3 := (hf 1 (by omega)).1
      have h2 : K 40 2 = X 19 4 := (hf 2 (by omega)).1
      have h3 : K 40 3 = X 19 5 := (hf 3 (by omega)).1
      refine ⟨by rw [ec]; omega, ?_, hall⟩
      rw [eT, H, H, H, H, G, ec]
      exact if_pos ⟨⟨by omega, by omega, by omega, by omega⟩, by omega⟩
    · right
      have ec : c_cst K tr = -9 := by
        unfold c_cst
        rw [if_neg (by omega)]
      refine ⟨ec, ?_⟩
      obtain ⟨k, rfl⟩ := Int.eq_ofNat_of_zero_le q1
      obtain ⟨s, s1, s2, s3⟩ := cb_at S (show k < cb st S by omega)
      subst s3
      have c : c_bad K tr (cb st s : Int) := of_decide_eq_true q4
      have kb := kdF_bd st S tr s
      obtain ⟨j, hj⟩ := Int.eq_ofNat_of_zero_le kb.1
      unfold c_bad at c
      rw [(k1 s s1 s2).1, (k1 s s1 s2).2, hj, Int.toNat_natCast, Int.toNat_natCast, (k2 s (by omega)).2 j (by omega)] at c
      have w0 := hall s s1 s2
      have o : onK (kdF st S tr) (wF V st S tr) j s = wF V st S tr s := if_pos hj
      have up : gSum st (onK (kdF st S tr) (wF V st S tr) j) (s + 1) ≤ gSum st (onK (kdF st S tr) (wF V st S tr) j) S := gSum_le (by omega) (on0 j)
      rw [gSum_1 s2, o] at up
      have h0 : K 40 0 = X 19 2 := (hf 0 (by omega)).1
      have h1 : K 40 1 = X 19 3 := (hf 1 (by omega)).1
      have h2 : K 40 2 = X 19 4 := (hf 2 (by omega)).1
      have h3 : K 40 3 = X 19 5 := (hf 3 (by omega)).1
      rw [eT]
      refine if_neg (fun z => ?_)
      rw [H, H, H, H] at z
      rcases (show j = 0 ∨ j = 1 ∨ j = 2 ∨ j = 3 by omega) with rfl | rfl | rfl | rfl
      · have := z.1.1; omega
      · have := z.1.2.1; omega
      · have := z.1.2.2.1; omega
      · have := z.1.2.2.2; omega
  · right
    obtain ⟨s, s1, s2, s3⟩ : ∃ s, s < S ∧ zb st s ∧ ¬ 0 ≤ wF V st S tr s := by
      by_cases y : ∃ s, s < S ∧ zb st s ∧ ¬ 0 ≤ wF V st S tr s
      · exact y
      · refine absurd (fun s hs hb => ?_) hall
        rcases Int.lt_or_le (wF V st S tr s) 0 with z | z
        · exact absurd ⟨s, hs, hb, by omega⟩ y
        · exact z
    have ls : lF M st S tr s = 1000000 := by rcases wl s s1 with y | y <;> omega
    have gt : gSum st (lF M st S tr) (s + 1) ≤ gSum st (lF M st S tr) S := gSum_le (by omega) l0
    have g0 := (gSum_bd (st := st) (f := lF M st S tr) (B := 1000000) s (fun x hx hb => ⟨l0 x (by omega) hb, by rcases wl x (by omega) with y | y <;> omega⟩)).1
    rw [gSum_1 s2, ls] at gt
    refine ⟨?_, ?_⟩
    · unfold c_cst
      rcases sp with ⟨a, b⟩ | ⟨q, q1, q2, q3, q4, -⟩
      · have := of_decide_eq_false (b (cb st s : Int) (by omega) (by have := cb_lt s1 s2; omega))
        refine absurd (Or.inl ?_) this
        rw [(k1 s s1 s2).2]
        omega
      · rw [if_neg (by omega)]
    · rw [eT]
      exact if_neg (fun z => by have := z.2; omega)
theorem A_allot {V M : Nat → Nat → Int} (hI : mI M) (h : cR V M) (st sy : Int) : c_allot V st sy = s_allot M st sy := by
  have bb := mI_now hI
  have tb := (h.tob hI).2.1
  obtain ⟨S, hS⟩ := Int.eq_ofNat_of_zero_le bb.2.2.1.1
  have hS6 : S ≤ 6 := by omega
  have hVS : V (Int.toNat (V 0 3)) 8 = (S : Int) := by rw [h.ne.2, hS]
  unfold c_allot s_allot
  by_cases q : s_aok M st sy
  · have q2 : c_aok V st sy := by
      unfold c_aok
      unfold s_aok at q
      rw [hVS]
      rw [hS] at q
      refine ⟨by omega, by omega, fun z => ?_⟩
      rcases q.2 with y | y
      · omega
      · exact y.2
    rw [if_pos q2, if_neg (fun z => z q)]
    have stb : 0 ≤ st ∧ st < zp (S : Int) := by unfold s_aok at q; rw [hS] at q; omega
    obtain ⟨P, hP⟩ : ∃ P, P = f_pre V st := ⟨_, rfl⟩
    have eP : P = f_pa V st S := by rw [hP]; unfold f_pre; rw [hVS, Int.toNat_natCast]
    obtain ⟨p1, p2⟩ := pa_row V st S
    rw [← eP] at p1 p2
    have palo := (f_pa_i V st S hS6).2.2
    rw [← eP] at palo
    obtain ⟨X, hX⟩ : ∃ X, X = f_td M := ⟨_, rfl⟩
    have xo : ∀ f, f ≠ 25 → X f = M f := fun f hf => by rw [hX]; exact f_tdN_o M _ hf
    have x5 : X 5 0 = (S : Int) := by rw [xo 5 (by decide), hS]
    have h25 : ∀ s kd : Nat, s < S → kd < 4 → X 25 (4 * s + kd) = s_lk M (s : Int) (kd : Int) := fun s kd hs hk => by
      have e : X 25 (4 * s + kd) = s_lk M (((4 * s + kd) / 4 : Nat) : Int) (((4 * s + kd) % 4 : Nat) : Int) := by
        rw [hX]
        exact if_pos ⟨rfl, by omega⟩
      rw [e, show (4 * s + kd) / 4 = s by omega, show (4 * s + kd) % 4 = kd by omega]
    have hw : ∀ s kd : Nat, s < S → kd < 4 → (0 ≤ c_few V (s : Int) (kd : Int) ∧ c_few V (s : Int) (kd : Int) ≤ 3 ∧ s_lk M (s : Int) (kd : Int) = c_few V (s : Int) (kd : Int)) ∨ (c_few V (s : Int) (kd : Int) = -9 ∧ s_lk M (s : Int) (kd : Int) = 1000000) := fun s kd hs hk => few_eq hI h (by omega) (by omega)
    have hf40 : ∀ j, j < 4 → V 40 j = M 19 (2 + j) := h.2.2.2.2.1.1.2.2.2.1
    have cost : ∀ K : Nat → Nat → Int, c_seo P K → ∀ tr : Int, ((0 ≤ c_cst K tr ∧ c_cst K tr ≤ 18) ∧ s_takes X st tr = c_cst K tr ∧ ∀ s, s < S → zb st s → 0 ≤ wF V st S tr s) ∨ (c_cst K tr = -9 ∧ s_takes X st tr = 1000000) := fun K hK tr => by
      refine cost_eq hS6 x5 h25 (by rw [hK.2, p1]) (fun s hs hb kd hk => by rw [hK.1 11 (by decide) (by decide)]; exact (p2 s hs hb).2 kd hk) (fun j hj => ?_) hw
      have e : K 40 j = M 19 (2 + j) := by rw [hK.1 40 (by decide) (by decide), palo 40 (by decide) (by decide) (by decide) (by decide)]; exact hf40 j hj
      have b := ((mI_v hI).2.2.1 j hj).1
      rw [e, xo 19 (by decide)]
      exact ⟨rfl, b⟩
    -- the search
    have se : ∀ n : Nat, (f_se P n 9 5 = -9 ∧ (s_alN X st n).2 = 1000000) ∨ ((0 ≤ f_se P n 9 5 ∧ f_se P n 9 5 ≤ 18) ∧ (s_alN X st n).2 = f_se P n 9 5 ∧ (s_alN X st n).1 = f_se P n 9 4 ∧ s_takes X st (f_se P n 9 4) = f_se P n 9 5) := by
      intro n
      induction n with
      | zero => exact Or.inl ⟨mU_eq _ _ _ _, rfl⟩
      | succ n ih =>
        have o := f_se_o P n
        obtain ⟨K, hK⟩ : ∃ K, K = f_se P n := ⟨_, rfl⟩
        have eS : f_se P (n + 1) = c_sst K (n : Int) := by rw [hK]; rfl
        have eA : s_alN X st (n + 1) = if s_takes X st (n : Int) < (s_alN X st n).2 then ((n : Int), s_takes X st (n : Int)) else s_alN X st n := rfl
        rw [← hK] at ih o
        have f9 : f_cst K (n : Int) 9 = K 9 := f_cst_o K _ 9 (by decide)
        rw [eS, eA]
        rcases cost K o (n : Int) with ⟨c1, c2, -⟩ | ⟨c1, c2⟩
        · by_cases y : K 9 5 < 0 ∨ c_cst K (n : Int) < K 9 5
          · have e : c_sst K (n : Int) = mU (mU (f_cst K (n : Int)) 9 5 (c_cst K (n : Int))) 9 4 (n : Int) := by
              unfold c_sst
              rw [if_pos ⟨c1.1, by rw [f9]; exact y⟩]
            have t : s_takes X st (n : Int) < (s_alN X st n).2 := by
              rcases ih with w | w
              · omega
              · omega
            have v5 : c_sst K (n : Int) 9 5 = c_cst K (n : Int) := by rw [e, mU_ni _ _ _ _ (by decide), mU_eq]
            have v4 : c_sst K (n : Int) 9 4 = (n : Int) := by rw [e, mU_eq]
            rw [if_pos t, v5, v4]
            exact Or.inr ⟨c1, c2, rfl, c2⟩
          · have e : c_sst K (n : Int) = f_cst K (n : Int) := by
              unfold c_sst
              rw [if_neg (fun z => y (by rw [f9] at z; exact z.2))]
            have t : ¬ s_takes X st (n : Int) < (s_alN X st n).2 := by
              rcases ih with w | w
              · omega
              · omega
            rw [if_neg t, e, f9]
            exact ih
        · have e : c_sst K (n : Int) = f_cst K (n : Int) := by
            unfold c_sst
            rw [if_neg (fun z => by omega)]
          have t : ¬ s_takes X st (n : Int) < (s_alN X st n).2 := by
            rcases ih with w | w
            · omega
            · omega
          rw [if_neg t, e, f9]
          exact ih
    have eb : s_bits st = (cb st S : Int) := by
      have t := cb_top stb (31 - S)
      unfold s_bits
      rw [bits_cb, ← t, show S + (31 - S) = 31 by omega]
    have e1 : f_sea P = f_se P (Int.toNat (zp (2 * (cb st S : Int)))) := by unfold f_sea; rw [p1]
    have e2 : s_alf X st = s_alN X st (Int.toNat (zp (2 * (cb st S : Int)))) := by unfold s_alf; rw [eb, zq_zp]
    obtain ⟨n, hn⟩ : ∃ n, n = Int.toNat (zp (2 * (cb st S : Int))) := ⟨_, rfl⟩
    rw [← hP, ← hX]
    unfold c_all s_al2
    rw [e1, e2, ← hn]
    obtain ⟨K, hK⟩ : ∃ K, K = f_se P n := ⟨_, rfl⟩
    have o := f_se_o P n
    have sn := se n
    rw [← hK] at sn o ⊢
    rcases sn with ⟨a, b⟩ | ⟨a, b, c, d⟩
    · rw [if_pos (by omega), if_pos (by omega)]
    · rw [if_neg (show ¬ K 9 5 < 0 by omega), if_neg (show ¬ 1000000 ≤ (s_alN X st n).2 by omega)]
      unfold s_aok at q
      rw [hS] at q
      rcases q.2 with y | y
      · rw [if_pos (show sy < 0 by omega), if_pos y, b]
      · rw [if_neg (show ¬ sy < 0 by omega), if_neg (show ¬ sy = -1 by omega)]
        obtain ⟨t, rfl⟩ := Int.eq_ofNat_of_zero_le y.1.1
        have tS : t < S := by omega
        have tb : zb st t := y.2
        have k9 : K 9 3 = (cb st S : Int) := by rw [o.2, p1]
        have k11 : ∀ s, s < S → zb st s → ∀ kd, kd < 4 → K 11 (cb st s * 4 + kd) = c_few V (s : Int) (kd : Int) := fun s hs hb kd hk => by rw [o.1 11 (by decide) (by decide)]; exact (p2 s hs hb).2 kd hk
        have k10 : ∀ s, s < S → zb st s → K 10 (cb st s) = (s : Int) := fun s hs hb => by rw [o.1 10 (by decide) (by decide)]; exact (p2 s hs hb).1
        have eI : c_shi K (t : Int) = (cb st t : Int) := by
          unfold c_shi
          rw [k9, show Int.toNat ((cb st S : Int) - 0) = cb st S by omega]
          refine zfind_at (by omega) (by have := cb_lt tS tb; omega) (decide_eq_true (by rw [Int.toNat_natCast]; exact k10 t tS tb)) (fun x x0 x1 => ?_)
          obtain ⟨k, rfl⟩ := Int.eq_ofNat_of_zero_le x0
          have lt := cb_lt tS tb
          obtain ⟨s, s1, s2, s3⟩ := cb_at S (show k < cb st S by omega)
          refine decide_eq_false (fun z => ?_)
          rw [Int.toNat_natCast, ← s3, k10 s s1 s2] at z
          have : s = t := by omega
          subst this
          omega
        obtain ⟨w1, -⟩ := us_row (tr := K 9 4) k9 k11
        have kk := w1 t tS tb
        have kb := kdF_bd st S (K 9 4) t
        have wfe : 0 ≤ wF V st S (K 9 4) t ∧ s_lk M (t : Int) (kdF st S (K 9 4) t) = wF V st S (K 9 4) t := by
          rcases cost K o (K 9 4) with ⟨-, -, z⟩ | ⟨z1, z2⟩
          · have z3 := z t tS tb
            have := hw t (Int.toNat (kdF st S (K 9 4) t)) tS (by omega)
            rw [show ((Int.toNat (kdF st S (K 9 4) t) : Nat) : Int) = kdF st S (K 9 4) t by omega] at this
            unfold wF at z3 ⊢
            rcases this with u | u
            · exact ⟨u.1, u.2.2⟩
            · omega
          · omega
        have dv : ∀ n : Nat, n ≤ S → s_dvN X st (K 9 4) n = K 9 4 / zp (2 * ((cb st S : Int) - (cb st (S - n) : Int))) := by
          intro n
          induction n with
          | zero =>
            intro _
            show K 9 4 = _
            rw [Nat.sub_zero, Int.sub_self]
            show K 9 4 = K 9 4 / 1
            rw [Int.ediv_one]
          | succ n ih =>
            intro hn2
            have ihn := ih (by omega)
            obtain ⟨s, hs⟩ : ∃ s, s = S - (n + 1) := ⟨_, rfl⟩
            have es : S - n = s + 1 := by omega
            rw [es] at ihn
            rw [← hs]
            have e3 : s_dvN X st (K 9 4) (n + 1) = s_dvN X st (K 9 4) n / (if st / zp (X 5 0 - 1 - (n : Int)) % 2 = 1 then 4 else 1) := rfl
            rw [e3, ihn, x5, show (S : Int) - 1 - (n : Int) = (s : Int) by omega]
            by_cases u : zb st s
            · have u2 : st / zp (s : Int) % 2 = 1 := u
              have c1 := cb_s1 u
              have c2 := cb_mono (st := st) (show s + 1 ≤ S by omega)
              obtain ⟨dd, hd⟩ : ∃ dd : Nat, cb st S = cb st s + 1 + dd := ⟨cb st S - cb st s - 1, by omega⟩
              rw [if_pos u2, c1, hd, show 2 * (((cb st s + 1 + dd : Nat) : Int) - ((cb st s + 1 : Nat) : Int)) = 2 * (dd : Int) by omega, dv_step]
              congr 2; omega
            · have u2 : ¬ st / zp (s : Int) % 2 = 1 := u
              rw [if_neg u2, cb_s0 u, Int.ediv_one]
        have eD : s_dvN X st (K 9 4) (Int.toNat (X 5 0 - 1 - (t : Int))) % 4 = kdF st S (K 9 4) t := by
          rw [x5, dv _ (by omega), show S - Int.toNat ((S : Int) - 1 - (t : Int)) = t + 1 by omega, cb_s1 tb]
          unfold kdF
          congr 3; omega
        unfold c_sha
        rw [eI, if_neg (by omega), kk.1, kk.2, c, eD, show Int.toNat (4 * (t : Int) + kdF st S (K 9 4) t) = 4 * t + Int.toNat (kdF st S (K 9 4) t) by omega, h25 t _ tS (by omega), show ((Int.toNat (kdF st S (K 9 4) t) : Nat) : Int) = kdF st S (K 9 4) t by omega, wfe.2]
  · have q2 : ¬ c_aok V st sy := fun z => q (by
      unfold c_aok at z
      unfold s_aok
      rw [hVS] at z
      rw [hS]
      refine ⟨by omega, ?_⟩
      by_cases y : sy = -1
      · exact Or.inl y
      · exact Or.inr ⟨by omega, z.2.2 (by omega)⟩)
    rw [if_neg q2, if_pos q]
