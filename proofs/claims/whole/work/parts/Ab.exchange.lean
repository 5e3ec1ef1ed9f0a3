/-! The mathematics: sets inside bases that keep the exchange rule are a matroid's -/
section Ab
variable {e : Nat} {M : Nat → Bool}
theorem sbs_or_bit {I B y : Nat} (h : sbs I B) (hy : B.testBit y = true) : sbs (I ||| 2 ^ y) B := fun i hi => by
  rw [Nat.testBit_or, Bool.or_eq_true, p2_testBit, decide_eq_true_eq] at hi
  rcases hi with z | z
  · exact h i z
  · subst z; exact hy
theorem swap_sbs {I B x y : Nat} (h : sbs I B) (hx : ¬ I.testBit x = true) : sbs I (sdf B (2 ^ x) ||| 2 ^ y) := fun i hi => by
  rw [Nat.testBit_or, sdf_bit, p2_testBit, h i hi]
  by_cases g : x = i
  · subst g; exact absurd hi hx
  · rw [decide_eq_false g]; rfl
theorem swap_bit {B x y : Nat} : (sdf B (2 ^ x) ||| 2 ^ y).testBit y = true := by
  rw [Nat.testBit_or, p2_testBit, decide_eq_true rfl, Bool.or_true]
theorem swap_b {s y : Nat} : (s ||| 2 ^ y).testBit y = true := by
  rw [Nat.testBit_or, p2_testBit, decide_eq_true rfl, Bool.or_true]
theorem aug (he : e ≤ 10) (hlt : ∀ s, M s = true → s < 2 ^ e) (hN : ∀ s t, M s = true → M t = true → bc s = bc t) (hx : ∀ a b x, M a = true → M b = true → x < e → a.testBit x = true → ¬ b.testBit x = true → ∃ y, y < e ∧ b.testBit y = true ∧ ¬ a.testBit y = true ∧ M (sdf a (2 ^ x) ||| 2 ^ y) = true) {I J B1 : Nat} (hI : sbs I B1) (hB1 : M B1 = true) (hbc : bc I < bc J) : ∀ n B2, M B2 = true → sbs J B2 → bc (sdf B2 (J ||| B1)) ≤ n → ∃ y, y < e ∧ J.testBit y = true ∧ ¬ I.testBit y = true ∧ ∃ B, M B = true ∧ sbs (I ||| 2 ^ y) B := by
  intro n
  induction n with
  | zero =>
    intro B2 hB2 hJ hb
    have z := bc_ne he (sdf_lt (hlt B2 hB2) : sdf B2 (J ||| B1) < 2 ^ e) (by omega)
    have hin : ∀ i, B2.testBit i = true → J.testBit i = true ∨ B1.testBit i = true := fun i hi => by
      have b : (sdf B2 (J ||| B1)).testBit i = false := by rw [z, Nat.zero_testBit]
      rw [sdf_bit, hi, Nat.testBit_or] at b
      revert b
      cases J.testBit i <;> cases B1.testBit i <;> decide
    refine Classical.byContradiction fun hno => ?_
    have hJI : ∀ y, y < e → J.testBit y = true → ¬ I.testBit y = true → ¬ B1.testBit y = true := fun y hy h1 h2 h3 => hno ⟨y, hy, h1, h2, B1, hB1, sbs_or_bit hI h3⟩
    by_cases g : sdf B1 (I ||| B2) = 0
    · have hB1e := hlt B1 hB1
      have hB2e := hlt B2 hB2
      have hIe : I < 2 ^ e := Nat.lt_of_le_of_lt (sbs_le hI) hB1e
      have hJe : J < 2 ^ e := Nat.lt_of_le_of_lt (sbs_le hJ) hB2e
      have a1 := bc_dif (b := B2) he hB1e
      have a2 := bc_dif (b := B1) he hB2e
      have a3 := hN B1 B2 hB1 hB2
      rw [Nat.and_comm B2 B1] at a2
      have a4 : bc (sdf B1 B2) ≤ bc (sdf I J) := bc_sbs he (sdf_lt hIe) (fun i hi => by
        have b : (sdf B1 (I ||| B2)).testBit i = false := by rw [g, Nat.zero_testBit]
        rw [sdf_bit, Bool.and_eq_true, Bool.not_eq_true'] at hi
        rw [sdf_bit, Nat.testBit_or, hi.1, hi.2, Bool.or_false, Bool.true_and, Bool.not_eq_false'] at b
        have c : J.testBit i = false := by
          cases hb : J.testBit i
          · rfl
          · have := hJ i hb
            rw [hi.2] at this
            cases this
        rw [sdf_bit, b, c]
        rfl)
      have a5 : bc (sdf J I) ≤ bc (sdf B2 B1) := bc_sbs he (sdf_lt hB2e) (fun i hi => by
        rw [sdf_bit, Bool.and_eq_true, Bool.not_eq_true'] at hi
        have hie : i < e := by
          apply Classical.byContradiction
          intro q
          have := hi.1
          rw [Nat.testBit_lt_two_pow (Nat.lt_of_lt_of_le hJe (Nat.pow_le_pow_right (by decide) (by omega)))] at this
          cases this
        have c := hJI i hie hi.1 (by rw [hi.2]; exact Bool.false_ne_true)
        rw [Bool.not_eq_true] at c
        rw [sdf_bit, hJ i hi.1, c]
        rfl)
      have a6 := bc_dif (b := J) he hIe
      have a7 := bc_dif (b := I) he hJe
      rw [Nat.and_comm J I] at a7
      omega
    · obtain ⟨x, hxe, hb⟩ := some_bit (sdf_lt (hlt B1 hB1) : sdf B1 (I ||| B2) < 2 ^ e) g
      rw [sdf_bit, Bool.and_eq_true, Bool.not_eq_true', Nat.testBit_or, Bool.or_eq_false_iff] at hb
      obtain ⟨b1, b2, b3⟩ := hb
      obtain ⟨y, hy, y1, y2, y3⟩ := hx B1 B2 x hB1 hB2 hxe b1 (by rw [b3]; exact Bool.false_ne_true)
      have yJ : J.testBit y = true := (hin y y1).resolve_right y2
      have yI : ¬ I.testBit y = true := fun z => y2 (hI y z)
      exact hno ⟨y, hy, yJ, yI, _, y3, sbs_or_bit (swap_sbs hI (by rw [b2]; exact Bool.false_ne_true)) swap_bit⟩
  | succ n ih =>
    intro B2 hB2 hJ hb
    by_cases g : sdf B2 (J ||| B1) = 0
    · exact ih B2 hB2 hJ (by rw [g]; exact Nat.zero_le _)
    · have hde : sdf B2 (J ||| B1) < 2 ^ e := sdf_lt (hlt B2 hB2)
      obtain ⟨x, hxe, hb9⟩ := some_bit hde g
      have hbr := bc_rem he hde hxe hb9
      rw [sdf_bit, Bool.and_eq_true, Bool.not_eq_true', Nat.testBit_or, Bool.or_eq_false_iff] at hb9
      obtain ⟨b1, b2, b3⟩ := hb9
      obtain ⟨y, hy, y1, y2, y3⟩ := hx B2 B1 x hB2 hB1 hxe b1 (by rw [b3]; exact Bool.false_ne_true)
      refine ih _ y3 (swap_sbs hJ (by rw [b2]; exact Bool.false_ne_true)) ?_
      have e1 : sdf (sdf B2 (2 ^ x) ||| 2 ^ y) (J ||| B1) = sdf (sdf B2 (J ||| B1)) (2 ^ x) := by
        apply Nat.eq_of_testBit_eq
        intro i
        rw [sdf_bit, Nat.testBit_or, sdf_bit, Nat.testBit_or, sdf_bit, sdf_bit, Nat.testBit_or, p2_testBit, p2_testBit]
        by_cases gy : y = i
        · subst gy
          rw [y1, Bool.or_true]
          cases B2.testBit y <;> cases decide (x = y) <;> cases decide (y = y) <;> rfl
        · rw [decide_eq_false gy, Bool.or_false]
          cases B2.testBit i <;> cases decide (x = i) <;> cases (J.testBit i || B1.testBit i) <;> rfl
      rw [e1]
      omega
/-- marked sets that are closed downwards and can be augmented are a matroid's -/
theorem Mtr.ofInd {p : Nat → Bool} {r : Nat → Nat} (he : e ≤ 10) (p0 : p 0 = true) (ha : ∀ a b, a < 2 ^ e → b < 2 ^ e → p a = true → p b = true → bc a < bc b → ∃ y, y < e ∧ b.testBit y = true ∧ ¬ a.testBit y = true ∧ p (a ||| 2 ^ y) = true) (her : ∀ q s, s < 2 ^ e → sbs q s → p s = true → p q = true) (hL : Lrg p e r) : Mtr e r := by
  have b0 : bc 0 = 0 := rfl
  have pk : ∀ s, s < 2 ^ e → ∃ q, sbs q s ∧ p q = true ∧ bc q = r s := fun s hs => by
    obtain ⟨⟨q, q1, q2, q3⟩, -⟩ := hL s hs
    rcases q2 with z | z
    · exact ⟨q, q1, z, q3⟩
    · subst z; exact ⟨0, q1, p0, q3⟩
  have sup : ∀ s x, sbs s (s ||| 2 ^ x) := fun s x i hi => by rw [Nat.testBit_or, hi]; rfl
  refine ⟨he, ?_, fun s x hs hx => ?_, fun s x y hs hx hy q1 q2 => ?_⟩
  · obtain ⟨q, z1, z2, z3⟩ := pk 0 (p2_pos e)
    have := sbs_le z1
    have hq : q = 0 := by omega
    subst hq
    omega
  · have hsx : s ||| 2 ^ x < 2 ^ e := or_lt hs (bit_lt hx)
    obtain ⟨q, z1, z2, z3⟩ := pk s hs
    obtain ⟨t, t1, t2, t3⟩ := pk _ hsx
    have hte : t < 2 ^ e := Nat.lt_of_le_of_lt (sbs_le t1) hsx
    constructor
    · rw [← z3]; exact (hL _ hsx).2 q (sbs_tr z1 (sup s x)) z2
    · by_cases g : t.testBit x = true
      · have a := (hL s hs).2 (sdf t (2 ^ x)) (fun i hi => by
          have w := t1 i (sbs_rem t x i hi)
          rw [Nat.testBit_or, Bool.or_eq_true, p2_testBit, decide_eq_true_eq] at w
          rcases w with w | w
          · exact w
          · subst w; exact absurd hi rem_nt) (her _ t hte (sbs_rem t x) t2)
        have b := bc_rem he hte hx g
        omega
      · have a := (hL s hs).2 t (fun i hi => by
          have w := t1 i hi
          rw [Nat.testBit_or, Bool.or_eq_true, p2_testBit, decide_eq_true_eq] at w
          rcases w with w | w
          · exact w
          · subst w; exact absurd hi g) t2
        omega
  · have hsx : s ||| 2 ^ x < 2 ^ e := or_lt hs (bit_lt hx)
    have hsy : s ||| 2 ^ y < 2 ^ e := or_lt hs (bit_lt hy)
    have hsxy : s ||| 2 ^ x ||| 2 ^ y < 2 ^ e := or_lt hsx (bit_lt hy)
    obtain ⟨q, z1, z2, z3⟩ := pk s hs
    obtain ⟨t, t1, t2, t3⟩ := pk _ hsxy
    have hqe : q < 2 ^ e := Nat.lt_of_le_of_lt (sbs_le z1) hs
    have hte : t < 2 ^ e := Nat.lt_of_le_of_lt (sbs_le t1) hsxy
    have low := (hL _ hsxy).2 q (sbs_tr z1 (sbs_tr (sup s x) (sup _ y))) z2
    apply Classical.byContradiction
    intro hne
    obtain ⟨z, hz, w1, w2, w3⟩ := ha q t hqe hte z2 t2 (by omega)
    have bq := bc_add he hqe hz w2
    have wz := t1 z w1
    rw [Nat.testBit_or, Nat.testBit_or, p2_testBit, p2_testBit, Bool.or_eq_true, Bool.or_eq_true, decide_eq_true_eq, decide_eq_true_eq] at wz
    rcases wz with (wz | wz) | wz
    · have := (hL s hs).2 _ (sbs_or_bit z1 wz) w3
      omega
    · subst wz
      have := (hL _ hsx).2 _ (sbs_or_bit (sbs_tr z1 (sup s x)) swap_b) w3
      omega
    · subst wz
      have := (hL _ hsy).2 _ (sbs_or_bit (sbs_tr z1 (sup s y)) swap_b) w3
      omega
end Ab
