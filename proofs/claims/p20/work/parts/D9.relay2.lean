/-! Relay: the two answers. -/
def shk (k : Nat) : Nat := if k < 8 then k else if k < 14 then k + 2 else if k < 20 then k + 4 else k + 6
theorem shk_26 : ∀ k : Fin 26, cKin k.1 / 100 = (shk k.1 : Int) / 8 ∧ cKin k.1 / 10 % 10 = (shk k.1 : Int) / 2 % 4 ∧ cKin k.1 % 10 = (shk k.1 : Int) % 2 ∧ cKin k.1 = s_code (shk k.1 : Int) := by decide +kernel
theorem shk_ok {k : Nat} (h : k < 26) : cKin k / 100 = (shk k : Int) / 8 ∧ cKin k / 10 % 10 = (shk k : Int) / 2 % 4 ∧ cKin k % 10 = (shk k : Int) % 2 ∧ cKin k = s_code (shk k : Int) := shk_26 ⟨k, h⟩
theorem shk_lt {k : Nat} (h : k < 26) : shk k < 32 ∧ (0 < (shk k : Int) / 2 % 4 ∨ (shk k : Int) / 8 = 0) := by unfold shk; (repeat' split) <;> omega
theorem shk_mono {j k : Nat} (h : j < k) : shk j < shk k := by unfold shk; (repeat' split) <;> omega
theorem shk_inv {sh : Nat} (h : sh < 32) (hv : 0 < (sh : Int) / 2 % 4 ∨ (sh : Int) / 8 = 0) : ∃ k, k < 26 ∧ shk k = sh := by
  refine ⟨if sh < 8 then sh else if sh < 16 then sh - 2 else if sh < 24 then sh - 4 else sh - 6, ?_, ?_⟩
  · split
    · omega
    · split
      · omega
      · split <;> omega
  · unfold shk
    by_cases q1 : sh < 8
    · rw [if_pos q1, if_pos q1]
    · by_cases q2 : sh < 16
      · rw [if_neg q1, if_pos q2, if_neg (by omega), if_pos (by omega)]; omega
      · by_cases q3 : sh < 24
        · rw [if_neg q1, if_neg q2, if_pos q3, if_neg (by omega), if_neg (by omega), if_pos (by omega)]; omega
        · rw [if_neg q1, if_neg q2, if_neg q3, if_neg (by omega), if_neg (by omega), if_neg (by omega)]; omega
theorem land_plain (pl tw we dm fe sd bw : Int) : s_land pl tw we dm fe 0 sd bw = s_land pl tw we dm 0 0 sd bw := by
  have e : s_to pl (s_fly tw we dm fe 0) fe 0 sd bw = s_to pl (s_fly tw we dm 0 0) 0 0 sd bw := by
    unfold s_to s_fly
    simp
  unfold s_land
  rw [e]
theorem hsh_plain (M : Nat → Nat → Int) (sy pe sh : Int) (h : sh / 2 % 4 = 0) : s_hsh M sy pe sh = s_hsh M sy pe (sh % 2) := by
  unfold s_hsh s_ln
  rw [h, show sh % 2 / 2 % 4 = 0 by omega, show sh % 2 % 2 = sh % 2 by omega, land_plain _ _ _ _ (sh / 8), land_plain _ _ _ _ (sh % 2 / 8)]
theorem whN_bit {V : Nat → Nat → Int} (hb : 0 ≤ V (Int.toNat (V 0 3)) 7 ∧ V (Int.toNat (V 0 3)) 7 ≤ 6) (pe sy : Int) (q : Nat) : ∀ n : Nat, zb (c_whN V pe sy n) q ↔ ∃ k, k < n ∧ zb (c_heN V pe (c_la V pe sy (cKin k) (c_wind V 0))) q
  | 0 => ⟨fun h => absurd h (by show ¬ ((0 : Int) / zp (q : Int) % 2 = 1); rw [zbit_0]; decide), fun ⟨k, h, _⟩ => by omega⟩
  | n + 1 => by
    have ih := whN_bit hb pe sy q n
    have e : c_whN V pe sy (n + 1) = zor (c_whN V pe sy n) (c_heN V pe (c_la V pe sy (cKin n) (c_wind V 0))) := rfl
    rw [e, zb_or q (c_whN_bd hb pe sy n).1 (c_heN_bd hb pe _).1, ih]
    constructor
    · rintro (⟨k, h1, h2⟩ | h)
      · exact ⟨k, by omega, h2⟩
      · exact ⟨n, by omega, h⟩
    · rintro ⟨k, h1, h2⟩
      by_cases y : k = n
      · subst y; exact Or.inr h2
      · exact Or.inl ⟨k, by omega, h2⟩
theorem he_sh {V M : Nat → Nat → Int} (hI : mI M) (h : cR V M) {pe sy : Int} (hp : 0 ≤ pe ∧ pe < M 2 0) (hs : 0 ≤ sy ∧ sy < M 5 0) {k : Nat} (hk : k < 26) : c_heN V pe (c_la V pe sy (cKin k) (c_wind V 0)) = s_hsh M sy pe (shk k : Int) := by
  obtain ⟨a, b, c, -⟩ := shk_ok hk
  unfold s_hsh s_ln
  rw [h.he, h.la hp hs, a, b, c, h.wind hI (by omega)]
theorem zfind_spec (b : Int → Bool) : ∀ (n : Nat) (i : Int), (zfind b n i = -9 ∧ ∀ j, i ≤ j → j < i + n → b j = false) ∨ (∃ j, i ≤ j ∧ j < i + n ∧ zfind b n i = j ∧ b j = true ∧ ∀ x, i ≤ x → x < j → b x = false)
  | 0, i => Or.inl ⟨rfl, fun j h1 h2 => by omega⟩
  | n + 1, i => by
    have e : zfind b (n + 1) i = if b i then i else zfind b n (i + 1) := rfl
    rw [e]
    cases hb : b i with
    | true =>
      right
      refine ⟨i, Int.le_refl _, by omega, rfl, hb, fun x h1 h2 => by omega⟩
    | false =>
      rcases zfind_spec b n (i + 1) with ⟨h1, h2⟩ | ⟨j, j1, j2, j3, j4, j5⟩
      · left
        refine ⟨h1, fun j a c => ?_⟩
        by_cases y : j = i
        · rw [y]; exact hb
        · exact h2 j (by omega) (by omega)
      · right
        refine ⟨j, by omega, by omega, j3, j4, fun x a c => ?_⟩
        by_cases y : x = i
        · rw [y]; exact hb
        · exact j5 x (by omega) c
theorem zfind_at {b : Int → Bool} {n : Nat} {j : Int} (h1 : 0 ≤ j) (h2 : j < n) (h3 : b j = true) (h4 : ∀ x : Int, 0 ≤ x → x < j → b x = false) : zfind b n 0 = j := by
  rcases zfind_spec b n 0 with ⟨a, c⟩ | ⟨i, i1, i2, i3, i4, i5⟩
  · have := c j h1 (by omega)
    rw [h3] at this
    cases this
  · rw [i3]
    rcases (show i < j ∨ i = j ∨ j < i by omega) with y | y | y
    · have := h4 i i1 y
      rw [i4] at this
      cases this
    · exact y
    · have := i5 j h1 y
      rw [h3] at this
      cases this
theorem zfind_no {b : Int → Bool} {n : Nat} (h : ∀ x : Int, 0 ≤ x → x < (n : Int) → b x = false) : zfind b n 0 = -9 := by
  rcases zfind_spec b n 0 with ⟨a, c⟩ | ⟨i, i1, i2, i3, i4, i5⟩
  · exact a
  · have := h i i1 (by omega)
    rw [i4] at this
    cases this
theorem zfind_shk {b c : Int → Bool} (h1 : ∀ k : Nat, k < 26 → b (k : Int) = c (shk k : Int)) (h2 : ∀ sh : Nat, sh < 32 → ¬ (0 < (sh : Int) / 2 % 4 ∨ (sh : Int) / 8 = 0) → c (sh : Int) = false) : (zfind b 26 0 = -9 ∧ zfind c 32 0 = -9) ∨ ∃ k : Nat, k < 26 ∧ zfind b 26 0 = (k : Int) ∧ zfind c 32 0 = (shk k : Int) := by
  rcases zfind_spec b 26 0 with ⟨a, d⟩ | ⟨i, i1, i2, i3, i4, i5⟩
  · left
    refine ⟨a, zfind_no (fun x x0 x1 => ?_)⟩
    obtain ⟨sh, rfl⟩ := Int.eq_ofNat_of_zero_le x0
    by_cases y : 0 < (sh : Int) / 2 % 4 ∨ (sh : Int) / 8 = 0
    · obtain ⟨k, k1, k2⟩ := shk_inv (by omega) y
      rw [← k2, ← h1 k k1]
      exact d k (by omega) (by omega)
    · exact h2 sh (by omega) y
  · right
    obtain ⟨k, rfl⟩ := Int.eq_ofNat_of_zero_le i1
    have hk : k < 26 := by omega
    refine ⟨k, hk, i3, zfind_at (by omega) (by have := (shk_lt hk).1; omega) (by rw [← h1 k hk]; exact i4) (fun x x0 x1 => ?_)⟩
    obtain ⟨sh, rfl⟩ := Int.eq_ofNat_of_zero_le x0
    have s32 := (shk_lt hk).1
    by_cases y : 0 < (sh : Int) / 2 % 4 ∨ (sh : Int) / 8 = 0
    · obtain ⟨k2, k3, k4⟩ := shk_inv (by omega) y
      have lt : k2 < k := by
        rcases Nat.lt_or_ge k2 k with z | z
        · exact z
        · exfalso
          rcases Nat.eq_or_lt_of_le z with w | w
          · rw [w] at x1; omega
          · have := shk_mono w; omega
      rw [← k4, ← h1 k2 k3]
      exact i5 (k2 : Int) (by omega) (by omega)
    · exact h2 sh (by omega) y
theorem A_relay {V M : Nat → Nat → Int} (hI : mI M) (h : cR V M) (sy to wh : Int) : c_relay V sy to wh = s_relay M sy to wh := by
  have bb := mI_now hI
  have hC := h.cIb hI
  unfold c_relay s_relay
  by_cases q : (0 ≤ sy ∧ sy < M 5 0) ∧ (0 ≤ to ∧ to < M 2 0) ∧ (0 ≤ wh ∧ wh ≤ 2)
  · have q2 : c_rok V sy to wh := by unfold c_rok; rw [h.ne.1, h.ne.2]; exact q
    rw [if_pos q2, if_neg (fun z => z q)]
    obtain ⟨hs, hto, hwh⟩ := q
    obtain ⟨N, hN⟩ := Int.eq_ofNat_of_zero_le bb.2.1.1
    obtain ⟨t, ht⟩ := Int.eq_ofNat_of_zero_le hto.1
    have htN : t < N := by omega
    have hN6 : N ≤ 6 := by omega
    have hVN : V (Int.toNat (V 0 3)) 7 = (N : Int) := by rw [h.ne.1, hN]
    have hT := hC.1
    have hTo := hT
    unfold isTo at hTo
    have nb : 0 ≤ V (Int.toNat (V 0 3)) 7 ∧ V (Int.toNat (V 0 3)) 7 ≤ 6 := by omega
    obtain ⟨E, hE0⟩ : ∃ E : Nat → Nat → Bool, E = fun (p q : Nat) => decide (zb (c_who V (p : Int) sy) q) := ⟨_, rfl⟩
    have hE : ∀ p q, p < N → q < N → (E p q = true ↔ zb (c_who V (p : Int) sy) q) := fun p q _ _ => by rw [hE0]; exact decide_eq_true_iff
    have he : ∀ p : Nat, p < N → ∀ k : Nat, k < 26 → c_heN V (p : Int) (c_la V (p : Int) sy (cKin k) (c_wind V 0)) = s_hsh M sy (p : Int) (shk k : Int) := fun p hp k hk => he_sh hI h (by omega) hs hk
    have hE1 : ∀ p q, p < N → q < N → E p q = true → ∃ sh : Nat, sh < 32 ∧ zb (s_hsh M sy (p : Int) (sh : Int)) q := fun p q hp hq z => by
      obtain ⟨k, k1, k2⟩ := (whN_bit nb (p : Int) sy q 26).mp ((hE p q hp hq).mp z)
      rw [he p hp k k1] at k2
      exact ⟨shk k, (shk_lt k1).1, k2⟩
    have hE2 : ∀ p q, p < N → q < N → ∀ sh : Nat, sh < 32 → zb (s_hsh M sy (p : Int) (sh : Int)) q → E p q = true := fun p q hp hq sh h32 z => by
      have key : ∀ k : Nat, k < 26 → zb (s_hsh M sy (p : Int) (shk k : Int)) q → E p q = true := fun k hk w => by
        rw [← he p hp k hk] at w
        exact (hE p q hp hq).mpr ((whN_bit nb (p : Int) sy q 26).mpr ⟨k, hk, w⟩)
      by_cases y : 0 < (sh : Int) / 2 % 4 ∨ (sh : Int) / 8 = 0
      · obtain ⟨k, k1, k2⟩ := shk_inv h32 y
        rw [← k2] at z
        exact key k k1 z
      · rw [hsh_plain M sy (p : Int) (sh : Int) (by omega)] at z
        have e1 : shk (sh % 2) = sh % 2 := if_pos (by omega)
        have e2 : ((sh : Int) % 2) = (shk (sh % 2) : Int) := by rw [e1]; omega
        rw [e2] at z
        exact key (sh % 2) (by omega) z
    -- the class's row
    obtain ⟨Kc, hKc⟩ : ∃ Kc, Kc = f_cs V sy to := ⟨_, rfl⟩
    have kco : ∀ g, g ≠ 13 → Kc g = V g := fun g hg => by rw [hKc]; exact f_cs_o V sy to g hg
    obtain ⟨r, hr⟩ : ∃ r, r = Kc 13 := ⟨_, rfl⟩
    have row := cs_row (V := V) (sy := sy) htN hVN hE
    rw [← ht, ← hKc, ← hr] at row
    obtain ⟨⟨r1, r2⟩, r3⟩ := row
    -- the reference's
    obtain ⟨K, hK⟩ : ∃ K, K = f_meas M sy to := ⟨_, rfl⟩
    have ko : ∀ f, f ≠ 24 → K f = M f := fun f hf => by rw [hK]; exact f_ms_o M sy to 63 f hf
    have gS : ∀ k : Nat, 1 ≤ k → k ≤ 63 → gS E N t (K 24 k) (k : Int) := fun k k1 k2 => by
      have := gS_all (M := M) (sy := sy) htN hN hN6 hE1 hE2 63 (by omega) k (by omega) k2
      rw [← ht] at this
      rw [hK]
      exact this
    have s1 := mI_k1 hI hs
    have s2 := mI_kn hI (k := sy) (by omega)
    obtain ⟨st, hst⟩ := Int.eq_ofNat_of_zero_le s2.1
    have st1 : 1 ≤ st ∧ st ≤ 63 := by omega
    have g := gS st st1.1 st1.2
    obtain ⟨al, hal⟩ : ∃ al, al = K 24 st := ⟨_, rfl⟩
    rw [← hal] at g
    obtain ⟨x, hx⟩ : ∃ x, x = c_fnN r (st : Int) N := ⟨_, rfl⟩
    have xb := c_fnN_bd (r := r) (st : Int) N (fun k hk => r1 k hk)
    rw [← hx] at xb
    have X1 : x < 1000 → al = x := fun hlt => by
      obtain ⟨p, p1, p2, p3⟩ := fnN_at (r := r) (ps := (st : Int)) N (by rw [← hx]; exact hlt)
      rw [← hx] at p3
      have a := r2 p p1 (by omega)
      have b := g.2.1 p p1 p2 _ a
      rw [p3] at b
      have b2 : al ≤ x := by omega
      obtain ⟨p', c1, c2, c3⟩ := g.2.2 (by omega)
      have d := r3 p' c1 _ c3
      have e := fnN_le (r := r) N p' c1 c2
      rw [← hx] at e
      have := g.1.1
      omega
    have X2 : 1000 ≤ x → 1000000 ≤ al := fun hge => by
      rcases Int.lt_or_le al 1000000 with y | y
      · obtain ⟨p', c1, c2, c3⟩ := g.2.2 y
        have d := r3 p' c1 _ c3
        have e := fnN_le (r := r) N p' c1 c2
        rw [← hx] at e
        have g0 := g.1.1
        have c4 := rR_all htN c1 c3
        have d2 := r3 p' c1 _ c4
        omega
      · exact y
    have eX : c_rlx Kc sy = x := by
      unfold c_rlx
      rw [kco 41 (by decide), kco 0 (by decide), kco (Int.toNat (V 0 3)) (by omega), hVN, A_wk hI h hs, hst, ← hr, hx, Int.toNat_natCast]
    have eS : s_rel2 K sy wh = s_rel4 K sy wh (st : Int) al := by
      unfold s_rel2 s_rel3
      rw [ko 19 (by decide), hst, Int.toNat_natCast, hal]
    rw [← hKc, ← hK, eX, eS]
    unfold c_rl s_rel4
    by_cases y : 1000 ≤ x
    · rw [if_pos y, if_pos (X2 y)]
    · have ex : al = x := X1 (by omega)
      rw [if_neg y, if_neg (show ¬ 1000000 ≤ al by omega), ex]
      by_cases w0 : wh = 0
      · rw [if_pos w0, if_pos w0]
      · rw [if_neg w0, if_neg w0]
        by_cases x0 : x = 0
        · rw [if_pos x0, if_pos (show x ≤ 0 by omega)]
        · rw [if_neg x0, if_neg (show ¬ x ≤ 0 by omega)]
          have hx1 : 1 ≤ x ∧ x < 1000 := by omega
          rw [ex] at g
          -- one's shots
          have sh : ∀ p : Nat, p < N → zb (st : Int) p → (c_fs Kc sy (x - 1) (p : Int) = -9 ∧ s_rsh K sy (st : Int) x (p : Int) = -9) ∨ ∃ k : Nat, k < 26 ∧ c_fs Kc sy (x - 1) (p : Int) = (k : Int) ∧ s_rsh K sy (st : Int) x (p : Int) = (shk k : Int) := fun p hp hbit => by
            unfold c_fs s_rsh
            refine zfind_shk (fun k hk => ?_) (fun s hs32 hinv => ?_)
            · have eh : c_heN Kc (p : Int) (c_la Kc (p : Int) sy (cKin (Int.toNat (k : Int))) (c_wind Kc 0)) = s_hsh M sy (p : Int) (shk k : Int) := by
                rw [← he p hp k hk, Int.toNat_natCast]
                simp only [c_heN, c_la, c_wind]
                rw [kco 0 (by decide), kco 39 (by decide), kco (Int.toNat (V 0 3)) (by omega), kco (Int.toNat (V 0 3) + 1) (by omega), kco (Int.toNat (V 0 3) + 2) (by omega), kco (Int.toNat (V 0 3) + 3) (by omega), kco (Int.toNat (V 0 3) + 4) (by omega), kco (Int.toNat (V 0 3) + 6) (by omega)]
              have eb : s_beh K sy (st : Int) (p : Int) (shk k : Int) = zor (st : Int) (s_hsh M sy (p : Int) (shk k : Int)) := by
                unfold s_beh s_hsh s_hearers s_ln s_wind
                rw [ko 2 (by decide), ko 3 (by decide), ko 4 (by decide), ko 6 (by decide), ko 7 (by decide), ko 9 (by decide), ko 10 (by decide), ko 19 (by decide)]
              have hh : 0 ≤ s_hsh M sy (p : Int) (shk k : Int) ∧ s_hsh M sy (p : Int) (shk k : Int) < 64 := s_hearers_bd M _ _ (by omega)
              obtain ⟨hv, hhv⟩ : ∃ hv, hv = s_hsh M sy (p : Int) (shk k : Int) := ⟨_, rfl⟩
              have kE : ∀ q, q < N → zb hv q → E p q = true := fun q hq z => hE2 p q hp hq (shk k) (shk_lt hk).1 (by rw [← hhv]; exact z)
              rw [← hhv] at eh eb hh
              have bge := zor_ge (a := (st : Int)) (b := hv) (by omega)
              have blt := (zor_lt (k := 6) (a := (st : Int)) (b := hv) ⟨by omega, by show (st : Int) < 64; omega⟩ hh).2
              have blt2 : zor (st : Int) hv < 64 := blt
              obtain ⟨bn, hbn⟩ := Int.eq_ofNat_of_zero_le (show 0 ≤ zor (st : Int) hv by omega)
              have gb := gS bn (by omega) (by omega)
              rw [← hbn] at gb
              refine decide_eq_decide.mpr ?_
              rw [eh, kco 0 (by decide), kco (Int.toNat (V 0 3)) (by omega), hVN, Int.toNat_natCast, ← hr]
              unfold s_rok
              rw [eb, hbn, Int.toNat_natCast]
              have fb := c_fnN_bd (r := r) hv N (fun k hk => r1 k hk)
              -- one who hears it is at least that far
              have lo : x - 1 ≤ c_fnN r hv N := by
                rcases Int.lt_or_le (c_fnN r hv N) 1000 with z | z
                · obtain ⟨q, q1, q2, q3⟩ := fnN_at (r := r) (ps := hv) N z
                  have a := r2 q q1 (by omega)
                  have b : rR E N t (Int.toNat (r q) + 1) p = true := rR_s.mpr (Or.inr ⟨q, q1, kE q q1 q2, a⟩)
                  have c := g.2.1 p hp hbit _ b
                  omega
                · omega
              constructor
              · intro hf
                obtain ⟨q, q1, q2, q3⟩ := fnN_at (r := r) (ps := hv) N (by omega)
                have nst : ¬ zb (st : Int) q := fun z => by
                  have := fnN_le (r := r) N q q1 z
                  omega
                have qb : zb ((bn : Nat) : Int) q := by rw [← hbn]; exact (zb_or q (by omega) hh.1).mpr (Or.inr q2)
                refine ⟨fun z => nst (by rw [← z]; exact qb), (shk_lt hk).2, ?_⟩
                have a := r2 q q1 (by omega)
                have b := gb.2.1 q q1 (by rw [hbn]; exact qb) _ a
                have gb1 := gb.1
                obtain ⟨q', c1, c2, c3⟩ := gb.2.2 (by omega)
                have d := r3 q' c1 _ c3
                rcases (zb_or q' (by omega) hh.1).mp c2 with z | z
                · have := fnN_le (r := r) N q' c1 z
                  omega
                · have := fnN_le (r := r) N q' c1 z
                  omega
              · rintro ⟨n1, n2, n3⟩
                obtain ⟨q', c1, c2, c3⟩ := gb.2.2 (by omega)
                have d := r3 q' c1 _ c3
                rcases (zb_or q' (by omega) hh.1).mp c2 with z | z
                · have := fnN_le (r := r) N q' c1 z
                  omega
                · have := fnN_le (r := r) N q' c1 z
                  omega
            · exact decide_eq_false (fun z => hinv z.2.1)
          have ep : c_fp Kc sy (x - 1) = s_rpe K sy (st : Int) x := by
            unfold c_fp s_rpe
            rw [kco 0 (by decide), kco (Int.toNat (V 0 3)) (by omega), hVN, ko 2 (by decide), hN, kco 41 (by decide), show Int.toNat ((N : Int) - 0) = N by omega]
            refine zfind_cong (T := (N : Int)) (fun i i0 i1 => ?_) N 0 (by omega) (by omega)
            obtain ⟨p, rfl⟩ := Int.eq_ofNat_of_zero_le i0
            have kn := h.kn (p := (p : Int)) (s := sy) (by omega) (by omega)
            rw [if_pos hs.2, hst] at kn
            refine decide_eq_decide.mpr ?_
            rw [kn]
            constructor
            · rintro ⟨a, b⟩
              refine ⟨a, fun z => b ?_⟩
              rcases sh p (by omega) a with w | ⟨k, k1, k2, k3⟩
              · exact w.1
              · omega
            · rintro ⟨a, b⟩
              refine ⟨a, fun z => b ?_⟩
              rcases sh p (by omega) a with w | ⟨k, k1, k2, k3⟩
              · exact w.2
              · omega
          unfold c_fos
          rw [ep]
          by_cases z : s_rpe K sy (st : Int) x = -9
          · rw [if_pos z, if_pos z]
          · rw [if_neg z, if_neg z]
            by_cases w1 : wh = 1
            · rw [if_pos w1, if_pos w1]
            · rw [if_neg w1, if_neg w1]
              have fs := zfind_spec (fun q => decide ((st : Int) / zp q % 2 = 1 ∧ ¬ (s_rsh K sy (st : Int) x q = -9))) (Int.toNat (K 2 0 - 0)) 0
              have er : s_rpe K sy (st : Int) x = zfind (fun q => decide ((st : Int) / zp q % 2 = 1 ∧ ¬ (s_rsh K sy (st : Int) x q = -9))) (Int.toNat (K 2 0 - 0)) 0 := rfl
              rw [← er] at fs
              rcases fs with ⟨a, -⟩ | ⟨j, j1, j2, j3, j4, -⟩
              · exact absurd a z
              · rw [ko 2 (by decide), hN] at j2
                obtain ⟨p, rfl⟩ := Int.eq_ofNat_of_zero_le j1
                have j5 := of_decide_eq_true j4
                rw [j3]
                rcases sh p (by omega) j5.1 with w | ⟨k, k1, k2, k3⟩
                · exact absurd w.2 j5.2
                · rw [k2, k3, Int.toNat_natCast]
                  exact (shk_ok k1).2.2.2
  · have q2 : ¬ c_rok V sy to wh := by unfold c_rok; rw [h.ne.1, h.ne.2]; exact q
    rw [if_neg q2, if_pos q]
