/-! The mathematics: bases that are checked make a matroid -/
section Ac
variable {e : Nat}
theorem mkB_iff {w : Nat → Nat} {c s : Nat} : mkB w c s = true ↔ ∃ j, j < c ∧ w j = s := by
  unfold mkB
  rw [anyB_iff]
  constructor
  · rintro ⟨j, hj, h⟩; exact ⟨j, hj, beq_iff_eq.mp h⟩
  · rintro ⟨j, hj, h⟩; exact ⟨j, hj, beq_iff_eq.mpr h⟩
theorem inB_iff {w : Nat → Nat} {c s : Nat} : inB w c s = true ↔ ∃ B, mkB w c B = true ∧ sbs s B := by
  unfold inB
  rw [anyB_iff]
  constructor
  · rintro ⟨j, hj, h⟩; exact ⟨w j, mkB_iff.mpr ⟨j, hj, rfl⟩, sbs_and.mpr (beq_iff_eq.mp h)⟩
  · rintro ⟨B, hB, h⟩
    obtain ⟨j, hj, rfl⟩ := mkB_iff.mp hB
    exact ⟨j, hj, beq_iff_eq.mpr (sbs_and.mp h)⟩
theorem swp_bit {M : Nat → Bool} {s el i : Nat} (h : s.testBit el = true) : (swpN M e s el).testBit i = (decide (i < e) && (!(sdf s (2 ^ el)).testBit i && M (sdf s (2 ^ el) ||| 2 ^ i))) := by
  unfold swpN
  rw [if_pos h, orB_bit]
theorem noBrk_x {w : Nat → Nat} {c : Nat} (he : e ≤ 10) (hw : ∀ j, j < c → w j < 2 ^ e) (h : noBrk w c e) {a b x : Nat} (ha : mkB w c a = true) (hb : mkB w c b = true) (hx : x < e) (h1 : a.testBit x = true) (h2 : ¬ b.testBit x = true) : ∃ y, y < e ∧ b.testBit y = true ∧ ¬ a.testBit y = true ∧ mkB w c (sdf a (2 ^ x) ||| 2 ^ y) = true := by
  obtain ⟨ja, hja, rfl⟩ := mkB_iff.mp ha
  obtain ⟨jb, hjb, rfl⟩ := mkB_iff.mp hb
  have q := h (w ja) (w jb) x (hw ja hja) ha (hw jb hjb) (by omega)
  unfold brk at q
  rw [Bool.not_eq_true] at h2
  rw [hb, h1, h2, Bool.not_false, Bool.true_and, Bool.true_and, Bool.true_and, beq_eq_false_iff_ne] at q
  obtain ⟨y, hy, z⟩ := some_bit (Nat.lt_of_le_of_lt Nat.and_le_right (hw jb hjb)) q
  rw [Nat.testBit_and, swp_bit h1, Bool.and_eq_true, Bool.and_eq_true, Bool.and_eq_true, Bool.not_eq_true'] at z
  obtain ⟨⟨-, z1, z2⟩, z3⟩ := z
  refine ⟨y, hy, z3, fun z4 => ?_, z2⟩
  rw [sdf_bit, z4, p2_testBit] at z1
  by_cases g : x = y
  · subst g; rw [h2] at z3; cases z3
  · rw [decide_eq_false g] at z1; cases z1
theorem basT_mtr {w : Nat → Nat} {c : Nat} (he : e ≤ 10) (hw : ∀ j, j < c → w j < 2 ^ e) (h1 : oneN (mkB w c) e) (h2 : noBrk w c e) : Mtr e (rkT (fun s => b2n (inB w c s)) e (2 ^ e)) := by
  have hlt : ∀ s, mkB w c s = true → s < 2 ^ e := fun s h => by
    obtain ⟨j, hj, rfl⟩ := mkB_iff.mp h
    exact hw j hj
  refine Mtr.ofInd (p := inB w c) he ?_ (fun a b hae hbe pa pb hab => ?_) (fun q s hs hq ps => ?_) (LrgT he)
  · obtain ⟨⟨B, -, hB⟩, -⟩ := h1
    exact inB_iff.mpr ⟨B, hB, sbs_zero B⟩
  · obtain ⟨B1, m1, s1⟩ := inB_iff.mp pa
    obtain ⟨B2, m2, s2⟩ := inB_iff.mp pb
    obtain ⟨y, hy, y1, y2, B, m3, s3⟩ := aug he hlt (fun s t hs ht => h1.2 s t (hlt s hs) (hlt t ht) hs ht) (fun a b x ha hb hx i1 i2 => noBrk_x he hw h2 ha hb hx i1 i2) s1 m1 hab (bc (sdf B2 (b ||| B1))) B2 m2 s2 (Nat.le_refl _)
    exact ⟨y, hy, y1, y2, inB_iff.mpr ⟨B, m3, s3⟩⟩
  · obtain ⟨B, m, sB⟩ := inB_iff.mp ps
    exact inB_iff.mpr ⟨B, m, sbs_tr hq sB⟩
end Ac
