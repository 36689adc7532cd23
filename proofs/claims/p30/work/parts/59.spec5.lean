theorem s_shN_bd {K : Nat → Nat → Int} {sy st pe le : Int} (hP : K 2 0 ≤ 6) (hs : 0 ≤ st ∧ st < 64) (hK : ∀ k : Nat, st < (k : Int) → k ≤ 63 → 0 ≤ K 24 k ∧ K 24 k ≤ 1000000) (hl : 0 ≤ le ∧ le ≤ 1000000) : ∀ n : Nat, 0 ≤ s_shN K sy st pe le n ∧ s_shN K sy st pe le n ≤ 1000000
  | 0 => hl
  | n + 1 => by
    have q := s_shN_bd hP hs hK hl n (sy := sy) (pe := pe)
    have b1 := s_beh_bd K (s_ln K pe sy ((n : Int) / 8) ((n : Int) / 2 % 4) ((n : Int) % 2)) pe st hs hP
    have b2 := zor_ge (b := s_hearers K (s_ln K pe sy ((n : Int) / 8) ((n : Int) / 2 % 4) ((n : Int) % 2)) pe) hs.1
    have b3 : 0 ≤ s_shv K sy st pe (n : Int) := by
      unfold s_shv
      by_cases e : s_beh K sy st pe (n : Int) = st
      · rw [if_pos e]; omega
      · rw [if_neg e]
        unfold s_beh at *
        have := hK (Int.toNat (zor st (s_hearers K (s_ln K pe sy ((n : Int) / 8) ((n : Int) / 2 % 4) ((n : Int) % 2)) pe))) (by omega) (by omega)
        omega
    show 0 ≤ (if s_shv K sy st pe (n : Int) < s_shN K sy st pe le n then s_shv K sy st pe (n : Int) else s_shN K sy st pe le n) ∧ (if s_shv K sy st pe (n : Int) < s_shN K sy st pe le n then s_shv K sy st pe (n : Int) else s_shN K sy st pe le n) ≤ 1000000
    omega
theorem s_ppN_bd {K : Nat → Nat → Int} {sy st l0 : Int} (hP : K 2 0 ≤ 6) (hs : 0 ≤ st ∧ st < 64) (hK : ∀ k : Nat, st < (k : Int) → k ≤ 63 → 0 ≤ K 24 k ∧ K 24 k ≤ 1000000) (hl : 0 ≤ l0 ∧ l0 ≤ 1000000) : ∀ n : Nat, 0 ≤ s_ppN K sy st l0 n ∧ s_ppN K sy st l0 n ≤ 1000000
  | 0 => hl
  | n + 1 => by
    have q := s_ppN_bd hP hs hK hl n (sy := sy)
    show 0 ≤ (if 0 < s_ppN K sy st l0 n ∧ st / zp (n : Int) % 2 = 1 then s_shN K sy st (n : Int) (s_ppN K sy st l0 n) 32 else s_ppN K sy st l0 n) ∧ (if 0 < s_ppN K sy st l0 n ∧ st / zp (n : Int) % 2 = 1 then s_shN K sy st (n : Int) (s_ppN K sy st l0 n) 32 else s_ppN K sy st l0 n) ≤ 1000000
    by_cases e : 0 < s_ppN K sy st l0 n ∧ st / zp (n : Int) % 2 = 1
    · rw [if_pos e]; exact s_shN_bd hP hs hK q 32
    · rw [if_neg e]; exact q
theorem f_ms_bd {M : Nat → Nat → Int} (hP : M 2 0 ≤ 6) (sy to : Int) : ∀ (n : Nat), n ≤ 63 → ∀ k : Nat, 63 - n < k → k ≤ 63 → 0 ≤ f_ms M sy to n 24 k ∧ f_ms M sy to n 24 k ≤ 1000000
  | 0, _, k, h1, h2 => by omega
  | n + 1, hn, k, h1, h2 => by
    have ih := f_ms_bd hP sy to n (by omega)
    show 0 ≤ mU (f_ms M sy to n) 24 (63 - n) (s_lstp (f_ms M sy to n) sy to (63 - (n : Int))) 24 k ∧ mU (f_ms M sy to n) 24 (63 - n) (s_lstp (f_ms M sy to n) sy to (63 - (n : Int))) 24 k ≤ 1000000
    by_cases e : k = 63 - n
    · rw [e, mU_eq]
      refine s_ppN_bd (by rw [f_ms_o M sy to n 2 (by decide)]; exact hP) (by omega) (fun j a b => ih j (by omega) b) ?_ _
      unfold s_l0
      split <;> omega
    · rw [mU_ni _ _ _ _ e]
      exact ih k (by omega) h2
theorem f_meas_bd {M : Nat → Nat → Int} (hP : M 2 0 ≤ 6) (sy to : Int) (k : Nat) (h1 : 1 ≤ k) (h2 : k ≤ 63) : 0 ≤ f_meas M sy to 24 k ∧ f_meas M sy to 24 k ≤ 1000000 := f_ms_bd hP sy to 63 (by omega) k (by omega) h2
theorem mI_k1 {M : Nat → Nat → Int} (hI : mI M) {k : Int} (h : 0 ≤ k ∧ k < M 5 0) : 0 < M 19 (Int.toNat (6 + k)) := by
  obtain ⟨n, rfl⟩ := Int.eq_ofNat_of_zero_le h.1
  exact hI.2.2.2.2.2.2.2.2.1.2.2.2.2.2.2 n h.2
abbrev s_rok (K : Nat → Nat → Int) (sy st pe al sh : Int) : Prop := ¬ (s_beh K sy st pe sh = st) ∧ (0 < sh / 2 % 4 ∨ sh / 8 = 0) ∧ K 24 (Int.toNat (s_beh K sy st pe sh)) = al - 1
def s_rsh (K : Nat → Nat → Int) (sy st al pe : Int) : Int := zfind (fun q => decide (s_rok K sy st pe al q)) (Int.toNat (32 - 0)) 0
def s_rpe (K : Nat → Nat → Int) (sy st al : Int) : Int := zfind (fun q => decide (st / zp q % 2 = 1 ∧ ¬ (s_rsh K sy st al q = -9))) (Int.toNat (K 2 0 - 0)) 0
def s_code (sh : Int) : Int := 100 * (sh / 8) + 10 * (sh / 2 % 4) + sh % 2
def s_rel4 (K : Nat → Nat → Int) (sy wh st al : Int) : Int := if 1000000 ≤ al then -9 else if wh = 0 then al else if al ≤ 0 then -9 else if s_rpe K sy st al = -9 then -9 else if wh = 1 then s_rpe K sy st al else s_code (s_rsh K sy st al (s_rpe K sy st al))
def s_rel3 (K : Nat → Nat → Int) (sy wh st : Int) : Int := s_rel4 K sy wh st (K 24 (Int.toNat st))
def s_rel2 (K : Nat → Nat → Int) (sy wh : Int) : Int := s_rel3 K sy wh (K 19 (Int.toNat (6 + sy)))
def s_relay (M : Nat → Nat → Int) (sy to wh : Int) : Int := if ¬ ((0 ≤ sy ∧ sy < M 5 0) ∧ (0 ≤ to ∧ to < M 2 0) ∧ (0 ≤ wh ∧ wh ≤ 2)) then -1 else s_rel2 (f_meas M sy to) sy wh
def f_relay (M : Nat → Nat → Int) (sy to wh : Int) : Nat → Nat → Int := if ¬ ((0 ≤ sy ∧ sy < M 5 0) ∧ (0 ≤ to ∧ to < M 2 0) ∧ (0 ≤ wh ∧ wh ≤ 2)) then M else f_meas M sy to
theorem s_rsh_at {K : Nat → Nat → Int} {sy st al pe sh : Int} (h : s_rsh K sy st al pe = zfind (fun q => decide (s_rok K sy st pe al q)) (Int.toNat (32 - sh)) sh) (h0 : 0 ≤ sh ∧ sh < 32) (hr : s_rok K sy st pe al sh) : s_rsh K sy st al pe = sh := by
  rw [h, zfind_step _ 32 _ h0.2]
  exact if_pos (decide_eq_true hr)
theorem s_rpe_at {K : Nat → Nat → Int} {sy st al pe sh : Int} (h : s_rpe K sy st al = zfind (fun q => decide (st / zp q % 2 = 1 ∧ ¬ (s_rsh K sy st al q = -9))) (Int.toNat (K 2 0 - pe)) pe) (h0 : pe < K 2 0) (hk : st / zp pe % 2 = 1) (hr : s_rsh K sy st al pe = sh) (hs : 0 ≤ sh) : s_rpe K sy st al = pe := by
  rw [h, zfind_step _ _ _ h0]
  exact if_pos (decide_eq_true ⟨hk, by omega⟩)
