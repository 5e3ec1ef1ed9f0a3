/-! The mathematics: what breaks bases is the same on both sides -/
section Af
variable {e : Nat}
theorem basB_is {w : Nat → Nat} {c : Nat} : basB w c = mkB w c := rfl
theorem evn_one {w : Nat → Nat} {c : Nat} (hw : ∀ j, j < c → w j < 2 ^ e) : evnP w c ↔ oneN (mkB w c) e := by
  constructor
  · rintro ⟨h1, h2⟩
    refine ⟨⟨w 0, hw 0 h1, mkB_iff.mpr ⟨0, h1, rfl⟩⟩, fun s t _ _ hs ht => ?_⟩
    obtain ⟨i, hi, rfl⟩ := mkB_iff.mp hs
    obtain ⟨j, hj, rfl⟩ := mkB_iff.mp ht
    rw [h2 i hi, h2 j hj]
  · rintro ⟨⟨s, hs, h1⟩, h2⟩
    obtain ⟨i, hi, rfl⟩ := mkB_iff.mp h1
    have h0 : 0 < c := by omega
    exact ⟨h0, fun k hk => h2 (w k) (w 0) (hw k hk) (hw 0 h0) (mkB_iff.mpr ⟨k, hk, rfl⟩) (mkB_iff.mpr ⟨0, h0, rfl⟩)⟩
theorem brk_xch {M : Nat → Bool} {a b x : Nat} (he : e ≤ 10) (hb : b < 2 ^ e) (hM : M b = true) : brk M e a b x = !xchB M a b x := by
  unfold brk xchB
  rw [hM, Bool.true_and, sdf_bit]
  cases h1 : a.testBit x
  · rfl
  · cases h2 : b.testBit x
    · rw [Bool.not_false, Bool.true_and, Bool.true_and, Bool.not_true, Bool.false_or, Bool.eq_iff_iff, Bool.not_eq_true', beq_iff_eq, ← Bool.not_eq_true, anyB_iff]
      constructor
      · rintro z ⟨y, hy, q⟩
        rw [Bool.and_eq_true, sdf_bit, Bool.and_eq_true, Bool.not_eq_true'] at q
        have hye : y < e := by
          apply Classical.byContradiction
          intro g
          have := q.1.1
          rw [Nat.testBit_lt_two_pow (Nat.lt_of_lt_of_le hb (Nat.pow_le_pow_right (by decide) (by omega)))] at this
          cases this
        have r : (swpN M e a x &&& b).testBit y = true := by
          rw [Nat.testBit_and, swp_bit h1, decide_eq_true hye, sdf_bit, q.1.2, q.2, q.1.1]
          rfl
        rw [z, Nat.zero_testBit] at r
        cases r
      · intro hno
        refine Classical.byContradiction fun z => ?_
        obtain ⟨y, hy, q⟩ := some_bit (Nat.lt_of_le_of_lt Nat.and_le_right hb) z
        rw [Nat.testBit_and, swp_bit h1, Bool.and_eq_true, Bool.and_eq_true, Bool.and_eq_true, Bool.not_eq_true'] at q
        obtain ⟨⟨-, q1, q2⟩, q3⟩ := q
        refine hno ⟨y, by omega, ?_⟩
        rw [Bool.and_eq_true, sdf_bit, q3, Bool.true_and]
        refine ⟨?_, q2⟩
        rw [sdf_bit, p2_testBit] at q1
        by_cases g : x = y
        · subst g; rw [h2] at q3; cases q3
        · rw [decide_eq_false g, Bool.not_false, Bool.and_true] at q1
          rw [q1]
          rfl
    · rfl
end Af
