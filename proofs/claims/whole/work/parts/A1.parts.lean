/-! The mathematics: parts, sums -/
section A1
variable {e : Nat} {rk : Nat → Nat}
theorem insB_bit (k s i : Nat) : (insB k s).testBit i = (if i < k then s.testBit i else if i = k then false else s.testBit (i - 1)) := by
  unfold insB
  rw [Nat.testBit_or, Nat.testBit_and, Nat.testBit_two_pow_sub_one, Nat.testBit_shiftLeft, sdf_bit, Nat.testBit_and, Nat.testBit_two_pow_sub_one]
  by_cases h1 : i < k
  · rw [if_pos h1, decide_eq_true h1, decide_eq_true (show i - 1 < k by omega)]
    cases s.testBit i <;> cases s.testBit (i - 1) <;> cases decide (i ≥ 1) <;> rfl
  · rw [if_neg h1, decide_eq_false h1]
    by_cases h2 : i = k
    · rw [if_pos h2]
      by_cases h3 : i ≥ 1
      · rw [decide_eq_true (show i - 1 < k by omega)]
        cases s.testBit i <;> cases s.testBit (i - 1) <;> cases decide (i ≥ 1) <;> rfl
      · rw [decide_eq_false h3]
        cases s.testBit i <;> rfl
    · rw [if_neg h2, decide_eq_true (show i ≥ 1 by omega), decide_eq_false (show ¬ i - 1 < k by omega)]
      cases s.testBit i <;> cases s.testBit (i - 1) <;> rfl
def upE (k x : Nat) : Nat := if x < k then x else x + 1
theorem upE_lt {k x : Nat} (hx : x < e - 1) : upE k x < e := by unfold upE; split <;> omega
theorem upE_ne {k x : Nat} : upE k x ≠ k := by unfold upE; split <;> omega
theorem upE_inj {k x y : Nat} (h : x ≠ y) : upE k x ≠ upE k y := by unfold upE; split <;> split <;> omega
theorem insB_or (k s x : Nat) : insB k (s ||| 2 ^ x) = insB k s ||| 2 ^ upE k x := by
  apply Nat.eq_of_testBit_eq
  intro i
  rw [Nat.testBit_or, insB_bit, insB_bit, Nat.testBit_or, Nat.testBit_or, p2_testBit, p2_testBit, p2_testBit]
  unfold upE
  by_cases h1 : i < k
  · rw [if_pos h1, if_pos h1]
    by_cases h2 : x < k
    · rw [if_pos h2]
    · rw [if_neg h2, decide_eq_false (show ¬ x = i by omega), decide_eq_false (show ¬ x + 1 = i by omega)]
  · rw [if_neg h1, if_neg h1]
    by_cases h3 : i = k
    · rw [if_pos h3, if_pos h3]
      by_cases h2 : x < k
      · rw [if_pos h2, decide_eq_false (show ¬ x = i by omega)]; rfl
      · rw [if_neg h2, decide_eq_false (show ¬ x + 1 = i by omega)]; rfl
    · rw [if_neg h3, if_neg h3]
      by_cases h2 : x < k
      · rw [if_pos h2, decide_eq_false (show ¬ x = i - 1 by omega), decide_eq_false (show ¬ x = i by omega)]
      · rw [if_neg h2]
        by_cases h4 : x = i - 1
        · rw [decide_eq_true h4, decide_eq_true (show x + 1 = i by omega)]
        · rw [decide_eq_false h4, decide_eq_false (show ¬ x + 1 = i by omega)]
theorem insB_nt {k s x : Nat} (h : ¬ s.testBit x = true) : ¬ (insB k s).testBit (upE k x) = true := by
  rw [insB_bit]
  unfold upE
  by_cases h2 : x < k
  · rw [if_pos h2, if_pos h2]; exact h
  · rw [if_neg h2, if_neg (by omega), if_neg (by omega), Nat.add_sub_cancel]; exact h
theorem or_tb2 {s t i : Nat} (h : ¬ s.testBit i = true) (h2 : ¬ t.testBit i = true) : ¬ (s ||| t).testBit i = true := by
  rw [Nat.testBit_or, Bool.or_eq_true]
  exact fun q => q.elim h h2
theorem Mtr.part (hM : Mtr e rk) {k ct : Nat} (hk : k < e) (hct : ct = 0 ∨ ct = 2 ^ k) : Mtr (e - 1) (partR rk k ct) := by
  have he := hM.1
  have hc : ct < 2 ^ e := by
    rcases hct with h | h
    · rw [h]; exact p2_pos e
    · rw [h]; exact bit_lt hk
  have hL : ∀ s, s < 2 ^ (e - 1) → insB k s ||| ct < 2 ^ e := fun s hs => or_lt (insB_lt hk hs) hc
  have hge : ∀ s, s < 2 ^ (e - 1) → rk ct ≤ rk (insB k s ||| ct) := fun s hs => hM.mono (hL s hs) (fun i hi => by rw [Nat.testBit_or, hi, Bool.or_true])
  have hor : ∀ s x, insB k (s ||| 2 ^ x) ||| ct = insB k s ||| ct ||| 2 ^ upE k x := fun s x => by rw [insB_or, or_swap]
  refine Mtr.mk1 (by omega) ?_ (fun s x hs hx g => ?_) (fun s x y hs hx hy hxy g1 g2 => ?_)
  · unfold partR
    have i0 : insB k 0 = 0 := by
      apply Nat.eq_of_testBit_eq
      intro i
      rw [insB_bit, Nat.zero_testBit, Nat.zero_testBit]
      split
      · rfl
      · split <;> rfl
    rw [i0, Nat.zero_or, Nat.sub_self]
  · have a := hM.2.2.1 _ _ (hL s hs) (upE_lt (k := k) hx)
    have b := hge s hs
    unfold partR
    rw [hor]
    omega
  · have a := hM.dim (hL s hs) (bit_lt (upE_lt (k := k) hx)) (bit_lt (upE_lt (k := k) hy))
    have b := hge s hs
    have b1 := hM.2.2.1 _ _ (hL s hs) (upE_lt (k := k) hx)
    have b2 := hM.2.2.1 _ _ (hL s hs) (upE_lt (k := k) hy)
    have b3 := hM.2.2.1 _ _ (or_lt (hL s hs) (bit_lt (upE_lt (k := k) hx))) (upE_lt (k := k) hy)
    unfold partR
    rw [hor, hor, hor]
    omega
theorem sumR_lo {r1 r2 : Nat → Nat} {e1 s x : Nat} (hx : x < e1) : sumR r1 r2 e1 (s ||| 2 ^ x) = r1 ((s &&& (2 ^ e1 - 1)) ||| 2 ^ x) + r2 (s >>> e1) := by
  unfold sumR
  congr 2
  · apply Nat.eq_of_testBit_eq
    intro i
    rw [Nat.testBit_and, Nat.testBit_or, Nat.testBit_or, Nat.testBit_and, p2_testBit, Nat.testBit_two_pow_sub_one]
    by_cases h : x = i
    · rw [decide_eq_true h, decide_eq_true (show i < e1 by omega)]; cases s.testBit i <;> rfl
    · rw [decide_eq_false h, Bool.or_false, Bool.or_false]
  · apply Nat.eq_of_testBit_eq
    intro i
    rw [Nat.testBit_shiftRight, Nat.testBit_shiftRight, Nat.testBit_or, p2_testBit, decide_eq_false (show ¬ x = e1 + i by omega), Bool.or_false]
theorem sumR_hi {r1 r2 : Nat → Nat} {e1 s x : Nat} (hx : e1 ≤ x) : sumR r1 r2 e1 (s ||| 2 ^ x) = r1 (s &&& (2 ^ e1 - 1)) + r2 (s >>> e1 ||| 2 ^ (x - e1)) := by
  unfold sumR
  congr 2
  · apply Nat.eq_of_testBit_eq
    intro i
    rw [Nat.testBit_and, Nat.testBit_or, Nat.testBit_and, p2_testBit, Nat.testBit_two_pow_sub_one]
    by_cases h : i < e1
    · rw [decide_eq_false (show ¬ x = i by omega), Bool.or_false]
    · rw [decide_eq_false h, Bool.and_false, Bool.and_false]
  · apply Nat.eq_of_testBit_eq
    intro i
    rw [Nat.testBit_or, Nat.testBit_shiftRight, Nat.testBit_shiftRight, Nat.testBit_or, p2_testBit, p2_testBit]
    by_cases h : x = e1 + i
    · rw [decide_eq_true h, decide_eq_true (show x - e1 = i by omega)]
    · rw [decide_eq_false h, decide_eq_false (show ¬ x - e1 = i by omega)]
theorem lo_lt (s e1 : Nat) : s &&& (2 ^ e1 - 1) < 2 ^ e1 := by
  have := p2_pos e1
  exact Nat.lt_of_le_of_lt Nat.and_le_right (by omega)
theorem hi_lt {s e1 e2 : Nat} (hs : s < 2 ^ (e1 + e2)) : s >>> e1 < 2 ^ e2 := by
  rw [Nat.shiftRight_eq_div_pow]
  exact Nat.div_lt_of_lt_mul (by rw [← Nat.pow_add]; exact hs)
theorem Mtr.sum {e1 e2 : Nat} {r1 r2 : Nat → Nat} (h1 : Mtr e1 r1) (h2 : Mtr e2 r2) (he : e1 + e2 ≤ 10) : Mtr (e1 + e2) (sumR r1 r2 e1) := by
  refine ⟨he, ?_, fun s x hs hx => ?_, fun s x y hs hx hy q1 q2 => ?_⟩
  · unfold sumR
    rw [Nat.zero_and, Nat.zero_shiftRight, h1.2.1, h2.2.1]
  · have hl := lo_lt s e1
    have hh := hi_lt hs
    by_cases g : x < e1
    · have a := h1.2.2.1 _ x hl g
      rw [sumR_lo g]
      unfold sumR
      omega
    · have a := h2.2.2.1 _ (x - e1) hh (by omega)
      rw [sumR_hi (by omega)]
      unfold sumR
      omega
  · have hl := lo_lt s e1
    have hh := hi_lt hs
    have key : ∀ x y, x < e1 → ¬ y < e1 → y < e1 + e2 → sumR r1 r2 e1 (s ||| 2 ^ x) = sumR r1 r2 e1 s → sumR r1 r2 e1 (s ||| 2 ^ y) = sumR r1 r2 e1 s → sumR r1 r2 e1 (s ||| 2 ^ x ||| 2 ^ y) = sumR r1 r2 e1 s := fun x y g1 g2 g3 q1 q2 => by
      rw [sumR_lo g1] at q1
      rw [sumR_hi (by omega)] at q2
      rw [sumR_hi (by omega)]
      have e1' : (s ||| 2 ^ x) &&& (2 ^ e1 - 1) = (s &&& (2 ^ e1 - 1)) ||| 2 ^ x := by
        apply Nat.eq_of_testBit_eq
        intro i
        rw [Nat.testBit_and, Nat.testBit_or, Nat.testBit_or, Nat.testBit_and, p2_testBit, Nat.testBit_two_pow_sub_one]
        by_cases h : x = i
        · rw [decide_eq_true h, decide_eq_true (show i < e1 by omega)]; cases s.testBit i <;> rfl
        · rw [decide_eq_false h, Bool.or_false, Bool.or_false]
      have e2' : (s ||| 2 ^ x) >>> e1 = s >>> e1 := by
        apply Nat.eq_of_testBit_eq
        intro i
        rw [Nat.testBit_shiftRight, Nat.testBit_shiftRight, Nat.testBit_or, p2_testBit, decide_eq_false (show ¬ x = e1 + i by omega), Bool.or_false]
      rw [e1', e2']
      unfold sumR at q1 q2 ⊢
      omega
    by_cases g1 : x < e1
    · by_cases g2 : y < e1
      · rw [Nat.or_assoc, Nat.or_comm (2 ^ x), ← Nat.or_assoc] at *
        have a := h1.2.2.2 _ x y hl g1 g2
        rw [sumR_lo g1] at q1
        rw [sumR_lo g2] at q2
        have e1' : (s ||| 2 ^ y) &&& (2 ^ e1 - 1) = (s &&& (2 ^ e1 - 1)) ||| 2 ^ y := by
          apply Nat.eq_of_testBit_eq
          intro i
          rw [Nat.testBit_and, Nat.testBit_or, Nat.testBit_or, Nat.testBit_and, p2_testBit, Nat.testBit_two_pow_sub_one]
          by_cases h : y = i
          · rw [decide_eq_true h, decide_eq_true (show i < e1 by omega)]; cases s.testBit i <;> rfl
          · rw [decide_eq_false h, Bool.or_false, Bool.or_false]
        have e2' : (s ||| 2 ^ y) >>> e1 = s >>> e1 := by
          apply Nat.eq_of_testBit_eq
          intro i
          rw [Nat.testBit_shiftRight, Nat.testBit_shiftRight, Nat.testBit_or, p2_testBit, decide_eq_false (show ¬ y = e1 + i by omega), Bool.or_false]
        rw [sumR_lo g1, e1', e2', or_swap]
        unfold sumR at q1 q2 ⊢
        have := a (by omega) (by omega)
        omega
      · exact key x y g1 g2 hy q1 q2
    · by_cases g2 : y < e1
      · rw [or_swap]
        exact key y x g2 g1 hx q2 q1
      · have a := h2.2.2.2 _ (x - e1) (y - e1) hh (by omega) (by omega)
        rw [sumR_hi (by omega)] at q1 q2
        have e1' : (s ||| 2 ^ x) &&& (2 ^ e1 - 1) = s &&& (2 ^ e1 - 1) := by
          apply Nat.eq_of_testBit_eq
          intro i
          rw [Nat.testBit_and, Nat.testBit_or, Nat.testBit_and, p2_testBit, Nat.testBit_two_pow_sub_one]
          by_cases h : i < e1
          · rw [decide_eq_false (show ¬ x = i by omega), Bool.or_false]
          · rw [decide_eq_false h, Bool.and_false, Bool.and_false]
        have e2' : (s ||| 2 ^ x) >>> e1 = s >>> e1 ||| 2 ^ (x - e1) := by
          apply Nat.eq_of_testBit_eq
          intro i
          rw [Nat.testBit_or, Nat.testBit_shiftRight, Nat.testBit_shiftRight, Nat.testBit_or, p2_testBit, p2_testBit]
          by_cases h : x = e1 + i
          · rw [decide_eq_true h, decide_eq_true (show x - e1 = i by omega)]
          · rw [decide_eq_false h, decide_eq_false (show ¬ x - e1 = i by omega)]
        rw [sumR_hi (by omega), e1', e2']
        unfold sumR at q1 q2 ⊢
        have := a (by omega) (by omega)
        omega
end A1
