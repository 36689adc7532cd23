/-! The class's reader: what holds on while it reads. -/
theorem isTo.x2 {i : Nat} (h : isTo i) : ¬ i + 1 = 2 ∧ ¬ i + 2 = 2 ∧ ¬ i + 3 = 2 ∧ ¬ i + 4 = 2 ∧ ¬ i + 5 = 2 ∧ ¬ i + 6 = 2 ∧ ¬ i + 7 = 2 ∧ 2 < i := by unfold isTo at h; omega
theorem rd_one {V : Nat → Nat → Int} {i : Nat} (hi : isTo i) (h : rdI V) (d : dtI V i) : rdI (f_one V i) ∧ dtI (f_one V i) i := by
  have a1 : rdI (f_kst V) := rdI_kst h.1.h
  have a2 : rdI (f_o2 V) := rdI_knum a1 _ _
  have a3 : rdI (f_o3 V) := rdI_knum a2 _ _
  have a4 := rdI_ksem a3
  have n2 := hi.n2
  have nx := hi.x2
  have e2 : f_o2 V i = V i := by unfold f_o2; rw [f_knum_o _ _ _ i n2, f_kst_o _ i n2]
  have e3 : f_o3 V i = V i := f_o3_o V n2
  have e4 : f_ksem (f_o3 V) i = V i := by rw [f_ksem_o _ i n2, e3]
  unfold f_one
  split
  · exact ⟨h, d⟩
  · split
    · exact ⟨a2, d.of e2⟩
    · split
      · exact ⟨a3, d.of e3⟩
      · split
        · exact ⟨a4, d.of e4⟩
        · rename_i c1 c2 c3 c4
          refine ⟨a4.of ?_ ?_, ?_⟩
          · unfold f_o5; rw [mU_or _ _ _ (by omega), mU_or _ _ _ (by omega), mU_or _ _ _ (by omega)]
          · unfold f_o5; rw [mU_or _ _ _ (by omega), mU_or _ _ _ (by omega), mU_or _ _ _ (by omega)]
          · have r7 : f_o5 (f_ksem (f_o3 V)) i (o_pl V) (o_er V) i 7 = V i 7 + 1 := by unfold f_o5; rw [mU_eq, e4]
            have ro : ∀ j : Nat, j ≠ 7 → f_o5 (f_ksem (f_o3 V)) i (o_pl V) (o_er V) i j = V i j := fun j hj => by
              unfold f_o5
              rw [mU_ni _ _ _ _ hj, mU_nf _ _ _ _ (by omega), mU_nf _ _ _ _ (by omega), e4]
            unfold dtI at d ⊢
            rw [r7, ro 8 (by decide), ro 9 (by decide)]
            omega
theorem rd_say {V : Nat → Nat → Int} {i : Nat} (hi : isTo i) (h : rdI V) (d : dtI V i) : rdI (f_say V i) ∧ dtI (f_say V i) i := by
  have a1 : rdI (f_kst V) := rdI_kst h.1.h
  have a2 : rdI (f_y2 V) := rdI_knum a1 _ _
  have a3 : rdI (f_y3 V) := rdI_knum a2 _ _
  have a5 : rdI (f_y4 V i) := rdI_knum a3 _ _
  have a4 := rdI_ksem a5
  have n2 := hi.n2
  have nx := hi.x2
  have e2 : f_y2 V i = V i := by unfold f_y2; rw [f_knum_o _ _ _ i n2, f_kst_o _ i n2]
  have e3 : f_y3 V i = V i := f_y3_o V n2
  have e5 : f_y4 V i i = V i := f_y4_o V i n2
  have e4 : f_ksem (f_y4 V i) i = V i := by rw [f_ksem_o _ i n2, e5]
  unfold f_say
  split
  · exact ⟨h, d⟩
  · split
    · exact ⟨a2, d.of e2⟩
    · split
      · exact ⟨a3, d.of e3⟩
      · split
        · exact ⟨a5, d.of e5⟩
        · split
          · exact ⟨a4, d.of e4⟩
          · rename_i c1 c2 c3 c4 c5
            refine ⟨a4.of ?_ ?_, ?_⟩
            · unfold f_y6; rw [mU_or _ _ _ (by omega), mU_or _ _ _ (by omega), mU_or _ _ _ (by omega), mU_or _ _ _ (by omega)]
            · unfold f_y6; rw [mU_or _ _ _ (by omega), mU_or _ _ _ (by omega), mU_or _ _ _ (by omega), mU_or _ _ _ (by omega)]
            · have r8 : f_y6 (f_ksem (f_y4 V i)) i (y_we V) (y_tw V) (y_fi V i) i 8 = V i 8 + 1 := by unfold f_y6; rw [mU_eq, e4]
              have ro : ∀ j : Nat, j ≠ 8 → f_y6 (f_ksem (f_y4 V i)) i (y_we V) (y_tw V) (y_fi V i) i j = V i j := fun j hj => by
                unfold f_y6
                rw [mU_ni _ _ _ _ hj, mU_nf _ _ _ _ (by omega), mU_nf _ _ _ _ (by omega), mU_nf _ _ _ _ (by omega), e4]
              unfold dtI at d ⊢
              rw [r8, ro 7 (by decide), ro 9 (by decide)]
              omega
theorem rd_fea {V : Nat → Nat → Int} {i : Nat} (hi : isTo i) (h : rdI V) (d : dtI V i) : rdI (f_fea V i) ∧ dtI (f_fea V i) i := by
  have a1 : rdI (f_kst V) := rdI_kst h.1.h
  have a2 : rdI (f_e2 V) := rdI_knum a1 _ _
  have a3 : rdI (f_e3 V) := rdI_knum a2 _ _
  have a4 := rdI_ksem a3
  have n2 := hi.n2
  have nx := hi.x2
  have e2 : f_e2 V i = V i := by unfold f_e2; rw [f_knum_o _ _ _ i n2, f_kst_o _ i n2]
  have e3 : f_e3 V i = V i := f_e3_o V n2
  have e4 : f_ksem (f_e3 V) i = V i := by rw [f_ksem_o _ i n2, e3]
  unfold f_fea
  split
  · exact ⟨a2, d.of e2⟩
  · split
    · exact ⟨a3, d.of e3⟩
    · split
      · exact ⟨a4, d.of e4⟩
      · exact ⟨a4.of (mU_or _ _ _ (by omega)) (mU_or _ _ _ (by omega)), d.of (by rw [mU_or _ _ _ (by omega), e4])⟩
theorem rd_w1 {K : Nat → Nat → Int} {i : Nat} (hi : isTo i) (h : rdI K) (d : dtI K i) {j : Int} (hj : 0 ≤ j ∧ j < 6) : rdI (f_w1 K i j) ∧ dtI (f_w1 K i j) i := by
  have a2 : rdI (f_knum K 0 8) := rdI_knum h _ _
  have n2 := hi.n2
  have nx := hi.x2
  have e2 : f_knum K 0 8 i = K i := f_knum_o _ _ _ i n2
  refine ⟨a2.of ?_ ?_, ?_⟩
  · unfold f_w1; rw [mU_or _ _ _ (by omega), mU_or _ _ _ (by omega)]
  · unfold f_w1; rw [mU_or _ _ _ (by omega), mU_or _ _ _ (by omega)]
  · have r9 : f_w1 K i j i 9 = j + 1 := by unfold f_w1; rw [mU_eq]
    have ro : ∀ k : Nat, k ≠ 9 → f_w1 K i j i k = K i k := fun k hk => by
      unfold f_w1
      rw [mU_ni _ _ _ _ hk, mU_nf _ _ _ _ (by omega), e2]
    unfold dtI at d ⊢
    rw [r9, ro 7 (by decide), ro 8 (by decide)]
    omega
theorem rd_wl {i : Nat} (hi : isTo i) : ∀ (n : Nat) (j : Int) {K : Nat → Nat → Int}, 0 ≤ j → j + n ≤ 6 → rdI K → dtI K i → rdI (f_wl i n j K).1 ∧ dtI (f_wl i n j K).1 i
  | 0, j, K, _, _, h, d => by
    exact ⟨rdI_ksem h, d.of (f_ksem_o _ _ hi.n2)⟩
  | n + 1, j, K, hj, hn, h, d => by
    have a := rd_w1 hi h d (j := j) (by omega)
    have b := rd_wl hi n (j + 1) (K := f_w1 K i j) (by omega) (by omega) a.1 a.2
    simp only [f_wl]
    split
    · split
      · exact ⟨rdI_knum h _ _, d.of (f_knum_o _ _ _ _ hi.n2)⟩
      · exact b
    · exact ⟨rdI_ksem h, d.of (f_ksem_o _ _ hi.n2)⟩
theorem rd_itm {V : Nat → Nat → Int} {i : Nat} (hi : isTo i) (h : rdI V) (d : dtI V i) : rdI (x_itm V i).1 ∧ dtI (x_itm V i).1 i := by
  unfold x_itm
  split
  · exact ⟨h, d⟩
  · split
    · exact rd_one hi h d
    · split
      · exact rd_say hi h d
      · split
        · unfold x_win
          split
          · exact ⟨h, d⟩
          · exact rd_wl hi 6 0 (by omega) (by omega) (rdI_kst h.1.h) (d.of (f_kst_o _ _ hi.n2))
        · split
          · exact rd_fea hi h d
          · exact ⟨h, d⟩
/-! What reading leaves alone. -/
abbrev x_far (i g : Nat) : Prop := ¬ g = 2 ∧ (g < i ∨ i + 7 < g)
theorem f_wl_o (i : Nat) {g : Nat} (hg : x_far i g) : ∀ (n : Nat) (j : Int) (K : Nat → Nat → Int), (f_wl i n j K).1 g = K g
  | 0, j, K => f_ksem_o _ _ hg.1
  | n + 1, j, K => by
    have e : f_w1 K i j g = K g := by unfold f_w1; rw [mU_or _ _ _ (by omega), mU_or _ _ _ (by omega), f_knum_o _ _ _ _ hg.1]
    have b := f_wl_o i hg n (j + 1) (f_w1 K i j)
    simp only [f_wl]
    split
    · split
      · exact f_knum_o _ _ _ _ hg.1
      · rw [b, e]
    · exact f_ksem_o _ _ hg.1
theorem x_itm_o (V : Nat → Nat → Int) {i g : Nat} (hg : x_far i g) : (x_itm V i).1 g = V g := by
  unfold x_itm
  split
  · rfl
  · split
    · show f_one V i g = V g
      unfold f_one
      split
      · rfl
      · split
        · unfold f_o2; rw [f_knum_o _ _ _ _ hg.1, f_kst_o _ _ hg.1]
        · split
          · exact f_o3_o V hg.1
          · split
            · rw [f_ksem_o _ _ hg.1, f_o3_o V hg.1]
            · unfold f_o5; rw [mU_or _ _ _ (by omega), mU_or _ _ _ (by omega), mU_or _ _ _ (by omega), f_ksem_o _ _ hg.1, f_o3_o V hg.1]
    · split
      · show f_say V i g = V g
        unfold f_say
        split
        · rfl
        · split
          · unfold f_y2; rw [f_knum_o _ _ _ _ hg.1, f_kst_o _ _ hg.1]
          · split
            · exact f_y3_o V hg.1
            · split
              · exact f_y4_o V i hg.1
              · split
                · rw [f_ksem_o _ _ hg.1, f_y4_o V i hg.1]
                · unfold f_y6; rw [mU_or _ _ _ (by omega), mU_or _ _ _ (by omega), mU_or _ _ _ (by omega), mU_or _ _ _ (by omega), f_ksem_o _ _ hg.1, f_y4_o V i hg.1]
      · split
        · unfold x_win
          split
          · rfl
          · rw [f_wl_o i hg, f_kst_o _ _ hg.1]
        · split
          · show f_fea V i g = V g
            unfold f_fea
            split
            · unfold f_e2; rw [f_knum_o _ _ _ _ hg.1, f_kst_o _ _ hg.1]
            · split
              · exact f_e3_o V hg.1
              · split
                · rw [f_ksem_o _ _ hg.1, f_e3_o V hg.1]
                · rw [mU_or _ _ _ (by omega), f_ksem_o _ _ hg.1, f_e3_o V hg.1]
          · rfl
theorem f_rl_o (i : Nat) {g : Nat} (hg : x_far i g) : ∀ (n : Nat) (j : Int) (K : Nat → Nat → Int), (f_rl i n j K).1 g = K g
  | 0, _, _ => rfl
  | n + 1, j, K => by
    have b := f_rl_o i hg n (j + 1) (x_itm K i).1
    have e := x_itm_o K hg
    simp only [f_rl]
    split
    · rfl
    · split
      · exact e
      · rw [b, e]
theorem f_rl_end (i n : Nat) (j : Int) {K : Nat → Nat → Int} (h : K 2 3 = 0) : f_rl i n j K = (K, j) := by
  cases n with
  | zero => rfl
  | succ n => exact if_pos h
/-! Reading, and uplands. -/
def f_cr0 (V : Nat → Nat → Int) (to : Nat) (tl : Int) : Nat → Nat → Int := f_kst (f_no (mU (mU V 2 1 tl) 2 2 0) to)
def f_cread (V : Nat → Nat → Int) (to : Nat) (tl : Int) : (Nat → Nat → Int) × Int := f_rl to (Int.toNat (120 - 0)) 0 (f_cr0 V to tl)
theorem rdH_r0 {V : Nat → Nat → Int} {to : Nat} {tl : Int} (hi : isTo to) (h : 0 ≤ tl ∧ tl ≤ 120) (hb : k_by V) : rdH (f_no (mU (mU V 2 1 tl) 2 2 0) to) := by
  have nx := hi.x2
  have e2 : f_no (mU (mU V 2 1 tl) 2 2 0) to 2 = mU (mU V 2 1 tl) 2 2 0 2 := f_no_o _ (by omega)
  have e1 : f_no (mU (mU V 2 1 tl) 2 2 0) to 1 = V 1 := by rw [f_no_o _ (by omega)]; rfl
  have q1 : mU (mU V 2 1 tl) 2 2 0 2 1 = tl := rfl
  have q2 : mU (mU V 2 1 tl) 2 2 0 2 2 = 0 := rfl
  unfold rdH k_by
  rw [e2, e1, q1, q2]
  exact ⟨h, by omega, hb⟩
theorem rdI_cr0 {V : Nat → Nat → Int} {to : Nat} {tl : Int} (hi : isTo to) (h : 0 ≤ tl ∧ tl ≤ 120) (hb : k_by V) : rdI (f_cr0 V to tl) := rdI_kst (rdH_r0 hi h hb)
theorem dtI_cr0 (V : Nat → Nat → Int) {to : Nat} (hi : isTo to) (tl : Int) : dtI (f_cr0 V to tl) to := by
  have q := f_no_7 (mU (mU V 2 1 tl) 2 2 0) to
  refine dtI.of (V := f_no (mU (mU V 2 1 tl) 2 2 0) to) ?_ (f_kst_o _ _ hi.n2)
  unfold dtI
  rw [q.1, q.2.1, q.2.2]
  decide
theorem rd_rl {i : Nat} (hi : isTo i) : ∀ (n : Nat) (j : Int) {K : Nat → Nat → Int}, rdI K → dtI K i → rdI (f_rl i n j K).1 ∧ dtI (f_rl i n j K).1 i
  | 0, _, _, h, d => ⟨h, d⟩
  | n + 1, j, K, h, d => by
    have a := rd_itm hi h d
    have b := rd_rl hi n (j + 1) a.1 a.2
    simp only [f_rl]
    split
    · exact ⟨h, d⟩
    · split
      · exact a
      · exact b
theorem rd_cread {V : Nat → Nat → Int} {to : Nat} {tl : Int} (hi : isTo to) (h : 0 ≤ tl ∧ tl ≤ 120) (hb : k_by V) : rdI (f_cread V to tl).1 ∧ dtI (f_cread V to tl).1 to := rd_rl hi _ _ (rdI_cr0 hi h hb) (dtI_cr0 V hi tl)
theorem f_cread_o (V : Nat → Nat → Int) {to g : Nat} (tl : Int) (hg : x_far to g) : (f_cread V to tl).1 g = V g := by
  unfold f_cread f_cr0
  rw [f_rl_o to hg, f_kst_o _ _ hg.1, f_no_o _ hg.2, mU_or _ _ _ hg.1, mU_or _ _ _ hg.1]
def f_cup (V : Nat → Nat → Int) : Nat → Nat → Int := if (f_cread V (Int.toNat (V 0 4)) (V 0 1)).2 < 0 then (f_cread V (Int.toNat (V 0 4)) (V 0 1)).1 else f_anew (mU (mU (mU (f_cread V (Int.toNat (V 0 4)) (V 0 1)).1 0 3 (((Int.toNat ((f_cread V (Int.toNat (V 0 4)) (V 0 1)).1 0 4)) : Nat) : Int)) 0 4 (((Int.toNat ((f_cread V (Int.toNat (V 0 4)) (V 0 1)).1 0 3)) : Nat) : Int)) 0 1 0)
