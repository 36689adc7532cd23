/-! Answers of the calls that leave nothing. -/
theorem s_knN_bit (kn : Nat → Int) (pe : Int) (h : ∀ s : Nat, s < 6 → 0 ≤ kn (6 + s)) (s : Nat) : ∀ k : Nat, k ≤ 6 → s_knN kn pe k / zp (s : Int) % 2 = if s < k ∧ kn (6 + s) / zp pe % 2 = 1 then 1 else 0
  | 0, _ => by
    show (0 : Int) / zp (s : Int) % 2 = _
    rw [zbit_0, if_neg (by omega)]
  | k + 1, hk => by
    have ih := s_knN_bit kn pe h s k (by omega)
    have e : s_knN kn pe (k + 1) = zor (s_knN kn pe k) (if kn (6 + k) / zp pe % 2 = 1 then zp (k : Int) else 0) := rfl
    have hn : 0 ≤ (if kn (6 + k) / zp pe % 2 = 1 then zp (k : Int) else 0) := by
      split
      · exact zp_nn _
      · exact Int.le_refl _
    rw [e, zbit_or s (s_knN_nn kn pe k) hn, ih]
    by_cases q : kn (6 + k) / zp pe % 2 = 1
    · rw [if_pos q, zbit_zp]
      by_cases y : k = s
      · subst y
        rw [if_pos (Or.inr (if_pos rfl)), if_pos ⟨by omega, q⟩]
      · by_cases z : s < k ∧ kn (6 + s) / zp pe % 2 = 1
        · rw [if_pos z, if_pos (Or.inl rfl), if_pos ⟨by omega, z.2⟩]
        · rw [if_neg z, if_neg y, if_neg (by omega), if_neg (fun w => z ⟨by omega, w.2⟩)]
    · rw [if_neg q, zbit_0]
      by_cases z : s < k ∧ kn (6 + s) / zp pe % 2 = 1
      · rw [if_pos z, if_pos (Or.inl rfl), if_pos ⟨by omega, z.2⟩]
      · rw [if_neg z, if_neg (by omega)]
        by_cases y : k = s
        · subst y
          rw [if_neg (fun w => q w.2)]
        · rw [if_neg (fun w => z ⟨by omega, w.2⟩)]
theorem cR.knb {V M : Nat → Nat → Int} (h : cR V M) {p : Nat} (hp : p < 6) : 0 ≤ V 41 p ∧ V 41 p < 64 := (h.2.2.2.2.1.1.2.2.2.2.1 p hp).1
theorem A_kn {V M : Nat → Nat → Int} (hI : mI M) (h : cR V M) {pe : Int} (hp : 0 ≤ pe ∧ pe < 6) : V 41 (Int.toNat pe) = s_kn M pe := by
  obtain ⟨p, rfl⟩ := Int.eq_ofNat_of_zero_le hp.1
  have b := mI_now hI
  have kb := s_kn_bd M (p : Int) b.2.2.1.2
  refine zbit_ext (h.knb (p := p) (by omega)) kb (fun s hs => ?_)
  have k6 : ∀ s : Nat, s < 6 → 0 ≤ M 19 (6 + s) := fun s hs => ((mI_v hI).2.2.2.1 s hs).1
  have a := h.kn (p := (p : Int)) (s := (s : Int)) hp (by omega)
  rw [Int.toNat_natCast] at a
  rw [Int.toNat_natCast, a]
  unfold s_kn
  rw [s_knN_bit (M 19) (p : Int) k6 s _ (by omega), show Int.toNat (6 + (s : Int)) = 6 + s by omega]
  by_cases y : (s : Int) < M 5 0
  · rw [if_pos y]
    rcases zbit_01 (M 19 (6 + s)) (p : Int) with z | z
    · rw [z, if_neg (by omega)]
    · rw [z, if_pos ⟨by omega, rfl⟩]
  · rw [if_neg y, if_neg (by omega)]
theorem A_one {V M : Nat → Nat → Int} (hI : mI M) (h : cR V M) (pe wh : Int) : c_one V pe wh = s_one M pe wh := by
  have b := mI_now hI
  unfold c_one s_one
  rw [h.ne.1]
  by_cases q : 0 ≤ pe ∧ pe < M 2 0
  · have nq : ¬ ¬ (0 ≤ pe ∧ pe < M 2 0) := fun z => z q
    rw [if_pos q, if_neg nq, (h.pe q).1, (h.pe q).2, A_kn hI h (pe := pe) (by omega)]
  · rw [if_neg q, if_pos q]
theorem s_wkN_bit (kn : Nat → Int) (sy : Int) (p : Nat) : ∀ k : Nat, s_wkN kn sy k / zp (p : Int) % 2 = if p < k ∧ kn p / zp sy % 2 = 1 then 1 else 0
  | 0 => by
    show (0 : Int) / zp (p : Int) % 2 = _
    rw [zbit_0, if_neg (by omega)]
  | k + 1 => by
    have ih := s_wkN_bit kn sy p k
    have e : s_wkN kn sy (k + 1) = if kn k / zp sy % 2 = 1 then zor (s_wkN kn sy k) (zp (k : Int)) else s_wkN kn sy k := rfl
    rw [e]
    by_cases q : kn k / zp sy % 2 = 1
    · rw [if_pos q, zbit_or p (s_wkN_nn kn sy k) (zp_nn _), ih, zbit_zp]
      by_cases y : k = p
      · subst y
        rw [if_pos (Or.inr (if_pos rfl)), if_pos ⟨by omega, q⟩]
      · by_cases z : p < k ∧ kn p / zp sy % 2 = 1
        · rw [if_pos z, if_pos (Or.inl rfl), if_pos ⟨by omega, z.2⟩]
        · rw [if_neg z, if_neg y, if_neg (by omega), if_neg (fun w => z ⟨by omega, w.2⟩)]
    · rw [if_neg q, ih]
      by_cases z : p < k ∧ kn p / zp sy % 2 = 1
      · rw [if_pos z, if_pos ⟨by omega, z.2⟩]
      · rw [if_neg z]
        by_cases y : k = p
        · subst y
          rw [if_neg (fun w => q w.2)]
        · rw [if_neg (fun w => z ⟨by omega, w.2⟩)]
theorem A_wk {V M : Nat → Nat → Int} (hI : mI M) (h : cR V M) {sy : Int} (hs : 0 ≤ sy ∧ sy < M 5 0) : s_wkN (V 41) sy 6 = M 19 (Int.toNat (6 + sy)) := by
  have b := mI_now hI
  have kb := mI_kn hI (k := sy) (by omega)
  refine zbit_ext (s_wkN_bd _ _) kb (fun p hp => ?_)
  have a := h.kn (p := (p : Int)) (s := sy) (by omega) (by omega)
  rw [Int.toNat_natCast, if_pos hs.2] at a
  rw [s_wkN_bit, a]
  rcases zbit_01 (M 19 (Int.toNat (6 + sy))) (p : Int) with z | z
  · rw [z, if_neg (by omega)]
  · rw [z, if_pos ⟨by omega, rfl⟩]
theorem A_saying {V M : Nat → Nat → Int} (hI : mI M) (h : cR V M) (sy wh : Int) : c_say V sy wh = s_saying M sy wh := by
  unfold c_say s_saying
  rw [h.ne.2]
  by_cases q : 0 ≤ sy ∧ sy < M 5 0
  · obtain ⟨a, d, e⟩ := h.sy q
    have nq : ¬ ¬ (0 ≤ sy ∧ sy < M 5 0) := fun z => z q
    rw [if_pos q, if_neg nq, a, d, e, A_wk hI h q]
  · rw [if_neg q, if_pos q]
theorem A_wind {V M : Nat → Nat → Int} (hI : mI M) (h : cR V M) (nn : Int) : (if (0 ≤ nn ∧ nn ≤ 99) then c_wind V nn else -1000000) = (if (0 ≤ nn ∧ nn ≤ 99) then s_wind M nn else -1000000) := by
  by_cases q : 0 ≤ nn ∧ nn ≤ 99
  · rw [if_pos q, if_pos q, h.wind hI q.1]
  · rw [if_neg q, if_neg q]
theorem A_stray {V M : Nat → Nat → Int} (hI : mI M) (h : cR V M) (ii wh : Int) : (if (0 ≤ ii ∧ ii < 8) ∧ 0 ≤ wh ∧ wh ≤ 1 then (if V 39 2 ≤ ii then -9 else if wh = 0 then V 42 (Int.toNat ii) else V 43 (Int.toNat ii)) else -1) = s_stray M ii wh := by
  have e2 : V 39 2 = M 19 12 := h.2.2.2.2.1.1.2.2.1
  unfold s_stray
  rw [e2]
  by_cases q : (0 ≤ ii ∧ ii < 8) ∧ 0 ≤ wh ∧ wh ≤ 1
  · rw [if_pos q, if_neg (show ¬ (¬ (0 ≤ ii ∧ ii ≤ 7) ∨ ¬ (0 ≤ wh ∧ wh ≤ 1)) by omega)]
    by_cases y : M 19 12 ≤ ii
    · rw [if_pos y, if_pos y]
    · have a := h.2.2.2.2.1.1.2.2.2.2.2 (Int.toNat ii) (by omega)
      rw [if_neg y, if_neg y, show V 42 (Int.toNat ii) = M 19 (13 + Int.toNat ii) from a.1, show V 43 (Int.toNat ii) = M 19 (21 + Int.toNat ii) from a.2, show Int.toNat (13 + ii) = 13 + Int.toNat ii by omega, show Int.toNat (21 + ii) = 21 + Int.toNat ii by omega]
  · rw [if_neg q, if_pos (by omega)]
theorem A_now {V M : Nat → Nat → Int} (hI : mI M) (h : cR V M) (wh : Int) : (if 0 ≤ wh ∧ wh ≤ 6 then (if wh = 0 then V 39 0 else if wh = 1 then V 39 1 else if wh = 6 then V 39 2 else V 40 (Int.toNat (wh - 2))) else -1) = s_now M wh := by
  obtain ⟨a, b, c, d, e, f⟩ := h.2.2.2.2.1.1
  unfold s_now
  by_cases q : 0 ≤ wh ∧ wh ≤ 6
  · rw [if_pos q]
    rcases (show wh = 0 ∨ wh = 1 ∨ wh = 6 ∨ (2 ≤ wh ∧ wh ≤ 5) by omega) with rfl | rfl | rfl | y
    · exact a
    · exact b
    · exact c
    · have t : V 40 (Int.toNat (wh - 2)) = M 19 (2 + Int.toNat (wh - 2)) := d (Int.toNat (wh - 2)) (by omega)
      rw [if_neg (show ¬ wh = 0 by omega), if_neg (show ¬ wh = 1 by omega), if_neg (show ¬ wh = 6 by omega), if_pos (by omega), t, show 2 + Int.toNat (wh - 2) = Int.toNat wh by omega]
  · rw [if_neg q, if_neg (by omega), if_neg (by omega)]
theorem A_lands {V M : Nat → Nat → Int} (hI : mI M) (h : cR V M) (pe sy fe nn sd : Int) : (if (0 ≤ pe ∧ pe < V (Int.toNat (V 0 3)) 7) ∧ (0 ≤ sy ∧ sy < V (Int.toNat (V 0 3)) 8) ∧ (0 ≤ fe ∧ fe ≤ 3) ∧ (0 ≤ nn ∧ nn ≤ 3) ∧ (0 ≤ sd ∧ sd ≤ 1) then c_la V pe sy (100 * fe + 10 * nn + sd) (c_wind V 0) else -1) = s_lands M pe sy fe nn sd := by
  unfold s_lands
  rw [h.ne.1, h.ne.2]
  by_cases q : (0 ≤ pe ∧ pe < M 2 0) ∧ (0 ≤ sy ∧ sy < M 5 0) ∧ (0 ≤ fe ∧ fe ≤ 3) ∧ (0 ≤ nn ∧ nn ≤ 3) ∧ (0 ≤ sd ∧ sd ≤ 1)
  · have z := z_sh q.2.2.1 q.2.2.2.1 q.2.2.2.2
    rw [if_pos q, if_pos q, h.la q.1 q.2.1, z.1, z.2.1, z.2.2, h.wind hI (by omega)]
    rfl
  · rw [if_neg q, if_neg q]
theorem A_hrd {V M : Nat → Nat → Int} (h : cR V M) {pe ot sy : Int} (hp : 0 ≤ pe ∧ pe < M 2 0) (ho : 0 ≤ ot ∧ ot < M 2 0) (hs : 0 ≤ sy ∧ sy < M 5 0) (sh bw : Int) : c_hrd V pe ot sy sh bw ↔ s_hrd M pe ot sy sh bw := by
  unfold c_hrd s_hrd
  rw [(h.pe ho).1, (h.pe ho).2, h.la hp hs]
theorem A_call {V M : Nat → Nat → Int} (hI : mI M) (h : cR V M) (pe ot sy : Int) : c_call V pe ot sy = s_call M pe ot sy := by
  unfold c_call s_call
  rw [h.ne.1, h.ne.2]
  by_cases q : ((0 ≤ pe ∧ pe < M 2 0) ∧ (0 ≤ ot ∧ ot < M 2 0) ∧ ¬ (pe = ot)) ∧ (0 ≤ sy ∧ sy < M 5 0)
  · rw [if_pos q, if_pos q, h.wind hI (by omega)]
    congr 1
    funext x
    exact decide_eq_decide.mpr (A_hrd h q.1.1 q.1.2.1 q.2 x _)
  · rw [if_neg q, if_neg q]
theorem A_waits {V M : Nat → Nat → Int} (hI : mI M) (h : cR V M) (pe ot sy sh : Int) : c_waits V pe ot sy sh = s_waits M pe ot sy sh := by
  unfold c_waits s_waits
  rw [h.ne.1, h.ne.2]
  by_cases q : ((0 ≤ pe ∧ pe < M 2 0) ∧ (0 ≤ ot ∧ ot < M 2 0) ∧ ¬ (pe = ot)) ∧ (0 ≤ sy ∧ sy < M 5 0) ∧ (0 ≤ sh ∧ sh / 100 ≤ 3 ∧ sh / 10 % 10 ≤ 3 ∧ sh % 10 ≤ 1)
  · rw [if_pos q, if_pos q]
    refine zfind_cong (T := 13) (fun x x0 x1 => ?_) 13 0 (by omega) (by omega)
    rw [h.wind hI x0]
    exact decide_eq_decide.mpr (A_hrd h q.1.1 q.1.2.1 q.2.1 sh _)
  · rw [if_neg q, if_neg q]
theorem A_odN {V M : Nat → Nat → Int} (h : cR V M) {pe ot sy : Int} (hp : 0 ≤ pe ∧ pe < M 2 0) (ho : 0 ≤ ot ∧ ot < M 2 0) (hs : 0 ≤ sy ∧ sy < M 5 0) (sh : Int) : ∀ k : Nat, (k : Int) ≤ M 9 0 → c_odN V pe ot sy sh k = s_upN M pe ot sy sh k
  | 0, _ => rfl
  | k + 1, hk => by
    have ih := A_odN h hp ho hs sh k (by omega)
    have w : V (Int.toNat (V 0 3) + 6) k = M 10 k := h.1.2.2.2.2.2.2.2.2.2 k (by omega)
    have e := A_hrd h hp ho hs sh (M 10 k)
    simp only [c_odN, s_upN]
    rw [w, ih]
    by_cases q : s_hrd M pe ot sy sh (M 10 k)
    · rw [if_pos (e.mpr q), if_pos q]
    · rw [if_neg (fun z => q (e.mp z)), if_neg q]
      omega
theorem c_cdN_gcd (a b : Nat) (hb : 0 < b) : ∀ n : Nat, Nat.gcd a b ≤ n → c_cdN (a : Int) (b : Int) n = ((Nat.gcd a b : Nat) : Int)
  | 0, h => by
    have := Nat.gcd_pos_of_pos_right a hb
    omega
  | n + 1, h => by
    have g0 := Nat.gcd_pos_of_pos_right a hb
    have e : c_cdN (a : Int) (b : Int) (n + 1) = if 1 < ((n : Int) + 1) then (if (a : Int) % ((n : Int) + 1) = 0 ∧ (b : Int) % ((n : Int) + 1) = 0 then ((n : Int) + 1) else c_cdN (a : Int) (b : Int) n) else 1 := rfl
    rw [e]
    by_cases q : 1 < ((n : Int) + 1)
    · rw [if_pos q]
      by_cases y : (a : Int) % ((n : Int) + 1) = 0 ∧ (b : Int) % ((n : Int) + 1) = 0
      · rw [if_pos y]
        have d1 : (n + 1) ∣ a := by
          have : (a : Int) % ((n + 1 : Nat) : Int) = 0 := by push_cast; exact y.1
          exact Nat.dvd_of_mod_eq_zero (by omega)
        have d2 : (n + 1) ∣ b := by
          have : (b : Int) % ((n + 1 : Nat) : Int) = 0 := by push_cast; exact y.2
          exact Nat.dvd_of_mod_eq_zero (by omega)
        have d3 := Nat.le_of_dvd g0 (Nat.dvd_gcd d1 d2)
        omega
      · rw [if_neg y]
        have hne : ¬ Nat.gcd a b = n + 1 := fun z => y (by
          have d1 := Nat.gcd_dvd_left a b
          have d2 := Nat.gcd_dvd_right a b
          rw [z] at d1 d2
          have m1 := Nat.mod_eq_zero_of_dvd d1
          have m2 := Nat.mod_eq_zero_of_dvd d2
          have c1 : (a : Int) % ((n + 1 : Nat) : Int) = 0 := by omega
          have c2 : (b : Int) % ((n + 1 : Nat) : Int) = 0 := by omega
          push_cast at c1 c2
          exact ⟨c1, c2⟩)
        exact c_cdN_gcd a b hb n (by omega)
    · rw [if_neg q]
      omega
theorem A_odds {V M : Nat → Nat → Int} (hI : mI M) (h : cR V M) (pe ot sy sh wh : Int) : c_odds V pe ot sy sh wh = s_odds M pe ot sy sh wh := by
  have b := mI_now hI
  have ew : c_wct V = M 9 0 := h.1.2.2.2.2.2.2.1
  unfold c_odds s_odds
  rw [h.ne.1, h.ne.2]
  by_cases q : ((0 ≤ pe ∧ pe < M 2 0) ∧ (0 ≤ ot ∧ ot < M 2 0) ∧ ¬ (pe = ot)) ∧ (0 ≤ sy ∧ sy < M 5 0) ∧ (0 ≤ sh ∧ sh / 100 ≤ 3 ∧ sh / 10 % 10 ≤ 3 ∧ sh % 10 ≤ 1) ∧ (0 ≤ wh ∧ wh ≤ 1)
  · have nq : ¬ ¬ (((0 ≤ pe ∧ pe < M 2 0) ∧ (0 ≤ ot ∧ ot < M 2 0) ∧ ¬ (pe = ot)) ∧ (0 ≤ sy ∧ sy < M 5 0) ∧ (0 ≤ sh ∧ sh / 100 ≤ 3 ∧ sh / 10 % 10 ≤ 3 ∧ sh % 10 ≤ 1) ∧ (0 ≤ wh ∧ wh ≤ 1)) := fun z => z q
    rw [if_pos q, if_neg nq]
    have eo : c_od V pe ot sy sh = s_up M pe ot sy sh := by
      unfold c_od s_up
      rw [ew]
      exact A_odN h q.1.1 q.1.2.1 q.2.1 sh _ (by omega)
    have ob := c_odN_bd V pe ot sy sh (Int.toNat (c_wct V))
    have ob2 : 0 ≤ c_od V pe ot sy sh ∧ c_od V pe ot sy sh ≤ ((Int.toNat (c_wct V) : Nat) : Int) := ob
    rw [eo, ew] at ob2
    obtain ⟨x, hx⟩ := Int.eq_ofNat_of_zero_le ob2.1
    obtain ⟨y, hy⟩ := Int.eq_ofNat_of_zero_le (show 0 ≤ M 9 0 by omega)
    have eg : c_gcd (s_up M pe ot sy sh) (M 9 0) = s_ogc M pe ot sy sh := by
      unfold c_gcd s_ogc
      rw [hx, hy, Int.toNat_natCast, Int.toNat_natCast]
      have gl := Nat.le_of_dvd (show 0 < y by omega) (Nat.gcd_dvd_right x y)
      exact c_cdN_gcd x y (by omega) _ (by omega)
    have g1 : 1 ≤ s_ogc M pe ot sy sh := by rw [← eg]; exact c_gcd_bd _ _
    have e1 : (if 1 < s_ogc M pe ot sy sh then s_ogc M pe ot sy sh else 1) = s_ogc M pe ot sy sh := by omega
    rw [eo, ew, eg, e1]
    by_cases w : wh = 0
    · simp only [if_pos w]
    · simp only [if_neg w]
  · rw [if_neg q, if_pos q]
theorem A_count {V M : Nat → Nat → Int} (hI : mI M) (h : cR V M) (wh : Int) : (if wh = 0 then V (Int.toNat (V 0 3)) 7 else if wh = 1 then V (Int.toNat (V 0 3)) 8 else if wh = 2 then (if 1 < V (Int.toNat (V 0 3)) 9 then V (Int.toNat (V 0 3)) 9 else 1) else if wh = 3 then V 4 4 else if wh = 4 then V 31 1 else if wh = 5 then V 0 1 else -1) = s_count M wh := by
  have ew : (if 1 < V (Int.toNat (V 0 3)) 9 then V (Int.toNat (V 0 3)) 9 else 1) = M 9 0 := h.1.2.2.2.2.2.2.1
  have e4 : V 4 4 = M 28 0 := h.2.2.1.1
  have e31 : V 31 1 = M 20 0 := h.2.2.2.2.1.2.2.1
  unfold s_count
  rw [ew, h.ne.1, h.ne.2, e4, e31, h.2.1.1]
theorem A_trace {V M : Nat → Nat → Int} (hI : mI M) (h : cR V M) : V 0 12 = M 29 0 := h.2.2.2.2.2
theorem A_mark {V M : Nat → Nat → Int} (hI : mI M) (h : cR V M) (kd pe : Int) : (if (0 ≤ pe ∧ pe < V (Int.toNat (V 0 3)) 7) ∧ (0 ≤ kd ∧ kd ≤ 5) then c_mkv V kd pe else -1000000) = s_mark M kd pe := by
  have b := mI_now hI
  unfold s_mark
  rw [h.ne.1]
  by_cases q : (0 ≤ pe ∧ pe < M 2 0) ∧ (0 ≤ kd ∧ kd ≤ 5)
  · rw [if_pos q, if_neg (fun z => z ⟨q.2, q.1⟩)]
    have k := A_kn hI h (pe := pe) (by omega)
    have kb := s_kn_bd M pe b.2.2.1.2
    have e1 : V 39 1 = M 19 1 := h.2.2.2.2.1.1.2.1
    have f : ∀ k : Nat, k < 4 → V 40 k = M 19 (2 + k) := h.2.2.2.2.1.1.2.2.2.1
    have f0 := f 0 (by omega)
    have f1 := f 1 (by omega)
    have f2 := f 2 (by omega)
    have f3 := f 3 (by omega)
    unfold c_mkv s_mkv
    rw [k, zbc_64 kb, (h.pe q.1).1, e1, f0, f1, f2, f3]
    have z1 : zp 1 = 2 := rfl
    have z2 : zp 2 = 4 := rfl
    have z3 : zp 3 = 8 := rfl
    have z4 : zp 4 = 16 := rfl
    have z5 : zp 5 = 32 := rfl
    have q2 := q.2
    rcases (show kd = 0 ∨ kd = 1 ∨ kd = 2 ∨ kd = 3 ∨ kd = 4 ∨ kd = 5 by omega) with rfl | rfl | rfl | rfl | rfl | rfl <;> (simp [s_bodies, z1, z2, z3, z4, z5] <;> omega)
  · rw [if_neg q, if_pos (fun z => q ⟨z.2, z.1⟩)]
