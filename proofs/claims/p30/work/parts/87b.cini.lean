/-- links that constructors need -/
def nP3 (U : State) : Prop := va_Nw (.methodLinkNest RX3 21 yX2_init RX7) U ∧ va_AO RX2 U
def nP1 (U : State) : Prop := va_Nw (.methodLinkNest RX1 9 yX2_init RX7) U ∧ nP3 U
def nP7 (U : State) : Prop := va_Nw (.methodLinkNest RX7 38 yX2_init RX7) U ∧ va_Nw (.methodLinkNest RX7 58 yX4_init RX7) U ∧ va_Nw (.methodLinkNest RX7 65 yX0_init RX7) U ∧ va_Nw (.methodLinkNest RX7 80 yX1_init RX7) U ∧ va_AO RX1 U ∧ nP1 U
theorem nP3.mv {s U : State} (hW : s.WarmedH U.vm) (h : nP3 s) : nP3 U := ⟨h.1.warmM hW, h.2.moved hW.alike⟩
theorem nP1.mv {s U : State} (hW : s.WarmedH U.vm) (h : nP1 s) : nP1 U := ⟨h.1.warmM hW, h.2.mv hW⟩
theorem nP7.mv {s U : State} (hW : s.WarmedH U.vm) (h : nP7 s) : nP7 U := ⟨h.1.warmM hW, h.2.1.warmM hW, h.2.2.1.warmM hW, h.2.2.2.1.warmM hW, h.2.2.2.2.1.moved hW.alike, h.2.2.2.2.2.mv hW⟩
theorem nP3.bl {U : State} {g : JFrame} {mk : _} {x : _} (h : nP3 U) : nP3 (U.calling g mk x) := ⟨h.1.same rfl rfl, h.2.moved (Vm.Alike.refl U.vm)⟩
theorem nP1.bl {U : State} {g : JFrame} {mk : _} {x : _} (h : nP1 U) : nP1 (U.calling g mk x) := ⟨h.1.same rfl rfl, h.2.bl⟩
theorem nP7.bl {U : State} {g : JFrame} {mk : _} {x : _} (h : nP7 U) : nP7 (U.calling g mk x) := ⟨h.1.same rfl rfl, h.2.1.same rfl rfl, h.2.2.1.same rfl rfl, h.2.2.2.1.same rfl rfl, h.2.2.2.2.1.moved (Vm.Alike.refl U.vm), h.2.2.2.2.2.bl⟩
theorem paB_at {C : cC} {q : Nat → Nat} {f : Nat → Option Nat} {k : Nat} (hk : k < 52) : (paB C q f)[k]? = some (q k, paE C q f k) := by simp [paB, hk]
theorem paB_len {C : cC} {q : Nat → Nat} {f : Nat → Option Nat} : (paB C q f).length = 52 := by simp [paB]
theorem imB_at {C : cC} {q : Nat → Nat} {f : Nat → Option Nat} {k : Nat} (hk : k < 58) : (imB C q f)[k]? = some (q k, imE C q f k) := by simp [imB, hk]
theorem imB_len {C : cC} {q : Nat → Nat} {f : Nat → Option Nat} : (imB C q f).length = 58 := by simp [imB]
theorem moB_at {C : cC} {q : Nat → Nat} {k : Nat} (hk : k < 5) : (moB C q)[k]? = some (q k, moE C q k) := by simp [moB, hk]
theorem at_sk {l1 l2 : va_W} {n k : Nat} (h : l1.length = n) : (l1 ++ l2)[n + k]? = l2[k]? := by rw [List.getElem?_append_right (by omega)]; congr 1; omega
theorem at_hd {l1 l2 : va_W} {k : Nat} (h : k < l1.length) : (l1 ++ l2)[k]? = l1[k]? := List.getElem?_append_left h
theorem moE_cong {C : cC} {q r : Nat → Nat} {k : Nat} (hk : k < 5) (h : ∀ t, t < 5 → q t = r t) : moE C q k = moE C r k := by
  rcases (show k = 0 ∨ k = 1 ∨ k = 2 ∨ k = 3 ∨ k = 4 by omega) with rfl | rfl | rfl | rfl | rfl
  · simp only [moE, h 1 (by omega), h 2 (by omega), h 3 (by omega), h 4 (by omega)]
  all_goals rfl
theorem paE_cong {C : cC} {q r : Nat → Nat} {f : Nat → Option Nat} {k : Nat} (hk : k < 52) (h : ∀ t, t < 52 → q t = r t) : paE C q f k = paE C r f k := by
  unfold paE
  by_cases h0 : k = 0
  · rw [if_pos h0, if_pos h0, h 1 (by omega)]
  · rw [if_neg h0, if_neg h0]
    by_cases h1 : k = 1
    · rw [if_pos h1, if_pos h1]
    · rw [if_neg h1, if_neg h1]
      exact moE_cong (by omega) (fun t ht => h _ (by omega))
/-- an image out of its cell, its past, its moment -/
theorem imB_of {D : va_G} {C : cC} {A : Nat → Prop} {H : Heap} {h0 qm qp : Nat} {um up : Nat → Nat} {f : Nat → Option Nat} (hm : um 0 = qm) (hp : up 0 = qp)
    (hP : va_P D vwCl ([(h0, .inr (1, [.ref qm, .ref qp, .int (iZ 0)]))] ++ (paB C up f ++ (moB C um ++ []))) H) (hD : va_D A ([(h0, .inr (1, [.ref qm, .ref qp, .int (iZ 0)]))] ++ (paB C up f ++ (moB C um ++ []))))
    (q : Nat → Nat) (e0 : q 0 = h0) (e1 : ∀ t, t < 5 → q (1 + t) = um t) (e2 : ∀ t, t < 52 → q (6 + t) = up t) : va_P D vwCl (imB C q f) H ∧ va_D A (imB C q f) := by
  have hg : ∀ (k : Nat) (x : Nat × va_E), (imB C q f)[k]? = some x → ([(h0, .inr (1, [.ref qm, .ref qp, .int (iZ 0)]))] ++ (paB C up f ++ (moB C um ++ [])))[if k = 0 then 0 else if k < 6 then 1 + (52 + (k - 1)) else 1 + (k - 6)]? = some x := by
    intro k x hx
    have hk : k < 58 := by
      have := (List.getElem?_eq_some_iff.mp hx).1
      rw [imB_len] at this; exact this
    have hx2 : x = (q k, imE C q f k) := by
      rw [imB_at hk] at hx
      exact (Option.some.inj hx).symm
    subst hx2
    by_cases h0 : k = 0
    · subst h0
      rw [if_pos rfl, e0]
      show some _ = some _
      rw [show imE C q f 0 = .inr (1, [.ref (q 1), .ref (q 6), .int (iZ 0)]) from rfl, show q 1 = qm from (e1 0 (by omega)).trans hm, show q 6 = qp from (e2 0 (by omega)).trans hp]
    · rw [if_neg h0]
      by_cases h6 : k < 6
      · rw [if_pos h6, at_sk (n := 1) rfl, at_sk paB_len, at_hd (by rw [moB_len]; omega), moB_at (by omega)]
        have ea : q k = um (k - 1) := by rw [← e1 _ (by omega)]; congr 1; omega
        have eb : imE C q f k = moE C um (k - 1) := by
          unfold imE
          rw [if_neg h0, if_pos h6]
          exact moE_cong (by omega) e1
        rw [ea, eb]
      · rw [if_neg h6, at_sk (n := 1) rfl, at_hd (by rw [paB_len]; omega), paB_at (by omega)]
        have ea : q k = up (k - 6) := by rw [← e2 _ (by omega)]; congr 1; omega
        have eb : imE C q f k = paE C up f (k - 6) := by
          unfold imE
          rw [if_neg h0, if_neg h6]
          exact paE_cong (by omega) e2
        rw [ea, eb]
  refine ⟨hP.by _ hg, hD.by _ hg (fun i j hi hj h => ?_)⟩
  rw [imB_len] at hi hj
  revert h
  (repeat' split) <;> intro h <;> omega
