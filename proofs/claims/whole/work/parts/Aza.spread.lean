/-! The mathematics: minors: both sides find the same -/
section Aza
variable {e : Nat} {rk r1 r2 : Nat → Nat} {left con : Nat}
/-- a set spread over the elements that are left -/
theorem dep_bit : ∀ k j, j < 2 ^ cnt (fun t => left.testBit t) k → ∀ i, (depN left con k j).testBit i = true ↔ con.testBit i = true ∨ (i < k ∧ left.testBit i = true ∧ j.testBit (cnt (fun t => left.testBit t) i) = true) := by
  intro k
  induction k with
  | zero => intro j _ i; exact ⟨fun z => Or.inl z, fun z => z.elim id (fun y => absurd y.1 (Nat.not_lt_zero i))⟩
  | succ k ih =>
    intro j hj i
    have lt1 : ∀ i, i < k → left.testBit i = true → cnt (fun t => left.testBit t) i < cnt (fun t => left.testBit t) k := fun i hi hb => ix_lt (bs := left) hi hb
    unfold depN
    by_cases g : left.testBit k = true
    · rw [if_pos g]
      have pk : cnt (fun t => left.testBit t) (k + 1) = cnt (fun t => left.testBit t) k + 1 := by
        show cnt (fun t => left.testBit t) k + (if left.testBit k = true then 1 else 0) = _
        rw [if_pos g]
      rw [pk, Nat.pow_succ] at hj
      by_cases g2 : j < 2 ^ cnt (fun t => left.testBit t) k
      · rw [if_pos g2, ih j g2]
        constructor
        · rintro (z | ⟨z1, z2⟩)
          · exact Or.inl z
          · exact Or.inr ⟨by omega, z2⟩
        · rintro (z | ⟨z1, z2, z3⟩)
          · exact Or.inl z
          · by_cases gi : i = k
            · subst gi
              rw [Nat.testBit_lt_two_pow g2] at z3
              cases z3
            · exact Or.inr ⟨by omega, z2, z3⟩
      · have hj2 : j - 2 ^ cnt (fun t => left.testBit t) k < 2 ^ cnt (fun t => left.testBit t) k := by omega
        have ej : j = (j - 2 ^ cnt (fun t => left.testBit t) k) ||| 2 ^ cnt (fun t => left.testBit t) k := by
          rw [← sum_or hj2]; omega
        rw [if_neg g2, Nat.testBit_or, Bool.or_eq_true, ih _ hj2, p2_testBit, decide_eq_true_eq]
        have bj : ∀ i, j.testBit i = true ↔ (j - 2 ^ cnt (fun t => left.testBit t) k).testBit i = true ∨ cnt (fun t => left.testBit t) k = i := fun i => by
          rw [show j.testBit i = ((j - 2 ^ cnt (fun t => left.testBit t) k) ||| 2 ^ cnt (fun t => left.testBit t) k).testBit i by rw [← ej], Nat.testBit_or, Bool.or_eq_true, p2_testBit, decide_eq_true_eq]
        constructor
        · rintro ((z | ⟨z1, z2, z3⟩) | z)
          · exact Or.inl z
          · exact Or.inr ⟨by omega, z2, (bj _).mpr (Or.inl z3)⟩
          · subst z; exact Or.inr ⟨by omega, g, (bj _).mpr (Or.inr rfl)⟩
        · rintro (z | ⟨z1, z2, z3⟩)
          · exact Or.inl (Or.inl z)
          · by_cases gi : i = k
            · exact Or.inr gi.symm
            · have := lt1 i (by omega) z2
              rcases (bj _).mp z3 with y | y
              · exact Or.inl (Or.inr ⟨by omega, z2, y⟩)
              · omega
    · rw [if_neg g]
      have pk : cnt (fun t => left.testBit t) (k + 1) = cnt (fun t => left.testBit t) k := by
        show cnt (fun t => left.testBit t) k + (if left.testBit k = true then 1 else 0) = _
        rw [if_neg g]; rfl
      rw [pk] at hj
      rw [ih j hj]
      constructor
      · rintro (z | ⟨z1, z2⟩)
        · exact Or.inl z
        · exact Or.inr ⟨by omega, z2⟩
      · rintro (z | ⟨z1, z2, z3⟩)
        · exact Or.inl z
        · refine Or.inr ⟨?_, z2, z3⟩
          have : i ≠ k := fun y => g (by rw [← y]; exact z2)
          omega
theorem frM_bit {cd s : Nat} (hl : ∀ i, i < e → left.testBit i = !cd.testBit i) : ∀ k, k ≤ e → (frM cd s k).2 = cnt (fun t => left.testBit t) k ∧ ∀ i, (frM cd s k).1.testBit i = true ↔ (i < k ∧ left.testBit i = true ∧ s.testBit (cnt (fun t => left.testBit t) i) = true) := by
  intro k
  induction k with
  | zero => intro _; exact ⟨rfl, fun i => ⟨fun z => (by rw [show (frM cd s 0).1 = 0 from rfl, Nat.zero_testBit] at z; cases z), fun z => absurd z.1 (Nat.not_lt_zero i)⟩⟩
  | succ k ih =>
    intro hk
    obtain ⟨i1, i2⟩ := ih (by omega)
    have hk2 := hl k (by omega)
    unfold frM
    by_cases g : cd.testBit k = true
    · rw [if_pos g]
      have lk : ¬ left.testBit k = true := by rw [hk2, g]; exact Bool.false_ne_true
      refine ⟨?_, fun i => ?_⟩
      · show _ = cnt (fun t => left.testBit t) k + (if left.testBit k = true then 1 else 0)
        rw [if_neg lk]; exact i1
      · rw [i2]
        constructor
        · rintro ⟨z1, z2⟩; exact ⟨by omega, z2⟩
        · rintro ⟨z1, z2, z3⟩
          refine ⟨?_, z2, z3⟩
          have : i ≠ k := fun y => lk (by rw [← y]; exact z2)
          omega
    · rw [if_neg g]
      have lk : left.testBit k = true := by rw [hk2]; rw [Bool.not_eq_true] at g; rw [g]; rfl
      refine ⟨?_, fun i => ?_⟩
      · show (frM cd s k).2 + 1 = cnt (fun t => left.testBit t) k + (if left.testBit k = true then 1 else 0)
        rw [if_pos lk, i1]
      · show ((frM cd s k).1 ||| (b2n (s.testBit (frM cd s k).2)) <<< k).testBit i = true ↔ _
        have sh : ((b2n (s.testBit (frM cd s k).2)) <<< k).testBit i = true ↔ i = k ∧ s.testBit (cnt (fun t => left.testBit t) k) = true := by
          rw [i1]
          cases hb : s.testBit (cnt (fun t => left.testBit t) k)
          · rw [show b2n false = 0 from rfl, Nat.zero_shiftLeft, Nat.zero_testBit]
            exact ⟨fun z => absurd z Bool.false_ne_true, fun z => absurd z.2 Bool.false_ne_true⟩
          · rw [show b2n true = 1 from rfl, Nat.one_shiftLeft, p2_testBit, decide_eq_true_eq]
            exact ⟨fun z => ⟨z.symm, rfl⟩, fun z => z.1.symm⟩
        rw [Nat.testBit_or, Bool.or_eq_true, sh, i2]
        constructor
        · rintro (⟨z1, z2⟩ | ⟨z1, z2⟩)
          · exact ⟨by omega, z2⟩
          · subst z1; exact ⟨by omega, lk, z2⟩
        · rintro ⟨z1, z2, z3⟩
          by_cases gi : i = k
          · subst gi; exact Or.inr ⟨rfl, z3⟩
          · exact Or.inl ⟨by omega, z2, z3⟩
/-- the minor's ranks, by what is left -/
theorem dep_le {c d j : Nat} (hc : c < 2 ^ e) (hd : d < 2 ^ e) (hj : j < 2 ^ cnt (fun t => (lftN e c d).testBit t) e) : (frM (c ||| d) j e).1 ||| c = depN (lftN e c d) c e j := by
  have hl : ∀ i, i < e → (lftN e c d).testBit i = !(c ||| d).testBit i := fun i hi => by
    unfold lftN
    rw [sdf_bit, sdf_bit, all1 hi, Nat.testBit_or]
    cases c.testBit i <;> cases d.testBit i <;> rfl
  apply Nat.eq_of_testBit_eq
  intro i
  rw [Bool.eq_iff_iff, Nat.testBit_or, Bool.or_eq_true, (frM_bit hl e (Nat.le_refl e)).2, dep_bit e j hj]
  exact ⟨fun z => z.symm, fun z => z.symm⟩
/-- the spread sets: one more element -/
theorem dep_or {s x b : Nat} {n : Nat} (hn : cnt (fun t => left.testBit t) e = n) (hs : s < 2 ^ n) (hx : x < n) (hb : b < e) (hbl : left.testBit b = true) (hbx : cnt (fun t => left.testBit t) b = x) : depN left con e (s ||| 2 ^ x) = depN left con e s ||| 2 ^ b := by
  apply Nat.eq_of_testBit_eq
  intro i
  rw [Bool.eq_iff_iff, Nat.testBit_or, Bool.or_eq_true, dep_bit e _ (by rw [hn]; exact or_lt hs (bit_lt hx)), dep_bit e _ (by rw [hn]; exact hs), p2_testBit, decide_eq_true_eq]
  constructor
  · rintro (z | ⟨z1, z2, z3⟩)
    · exact Or.inl (Or.inl z)
    · rw [Nat.testBit_or, Bool.or_eq_true, p2_testBit, decide_eq_true_eq] at z3
      rcases z3 with y | y
      · exact Or.inl (Or.inr ⟨z1, z2, y⟩)
      · exact Or.inr (ix_inj (bs := left) hbl z2 (hbx.trans y))
  · rintro ((z | ⟨z1, z2, z3⟩) | z)
    · exact Or.inl z
    · exact Or.inr ⟨z1, z2, by rw [Nat.testBit_or, z3]; rfl⟩
    · subst z
      exact Or.inr ⟨hb, hbl, by rw [hbx, Nat.testBit_or, p2_testBit, decide_eq_true rfl, Bool.or_true]⟩
theorem dep_nt {s x b n : Nat} (hn : cnt (fun t => left.testBit t) e = n) (hs : s < 2 ^ n) (hbl : left.testBit b = true) (hbx : cnt (fun t => left.testBit t) b = x) (hbc : ¬ con.testBit b = true) (hsx : ¬ s.testBit x = true) : ¬ (depN left con e s).testBit b = true := fun z => by
  rcases (dep_bit e s (by rw [hn]; exact hs) b).mp z with y | ⟨-, -, y⟩
  · exact hbc y
  · rw [hbx] at y; exact hsx y
theorem dep_bc (he : e ≤ 10) (hcl : con < 2 ^ e) {n : Nat} (hn : cnt (fun t => left.testBit t) e = n) (hdis : ∀ i, left.testBit i = true → ¬ con.testBit i = true) : ∀ m s, bc s ≤ m → s < 2 ^ n → bc (depN left con e s) = bc con + bc s := by
  have hn10 : n ≤ 10 := by have := cnt_le (fun t => left.testBit t) e; omega
  intro m
  induction m with
  | zero =>
    intro s hm hs
    have : s = 0 := bc_ne hn10 hs (by omega)
    subst this
    have e0 : depN left con e 0 = con := by
      apply Nat.eq_of_testBit_eq
      intro i
      rw [Bool.eq_iff_iff, dep_bit e 0 (p2_pos _)]
      exact ⟨fun z => z.elim id (fun y => by have := y.2.2; rw [Nat.zero_testBit] at this; cases this), fun z => Or.inl z⟩
    rw [e0]; rfl
  | succ m ih =>
    intro s hm hs
    by_cases g : s = 0
    · exact ih s (by rw [g]; exact Nat.zero_le _) hs
    · obtain ⟨x, x1, x2⟩ := some_bit hs g
      obtain ⟨b, b1, b2, b3⟩ := ix_sur (bs := left) (r := x) e (by show x < cnt (fun t => left.testBit t) e; omega)
      have br := bc_rem hn10 hs x1 x2
      have i := ih (sdf s (2 ^ x)) (by omega) (sdf_lt hs)
      have o := dep_or (con := con) hn (sdf_lt hs : sdf s (2 ^ x) < 2 ^ n) x1 b1 b2 b3
      rw [rem_or x2] at o
      have nt := dep_nt (con := con) hn (sdf_lt hs : sdf s (2 ^ x) < 2 ^ n) b2 b3 (hdis b b2) rem_nt
      rw [o, bc_add he (depN_lt hcl e (Nat.le_refl e) _) b1 nt, i]
      omega
theorem dep_zero : depN left con e 0 = con := by
  apply Nat.eq_of_testBit_eq
  intro i
  rw [Bool.eq_iff_iff, dep_bit e 0 (p2_pos _)]
  exact ⟨fun z => z.elim id (fun y => by have := y.2.2; rw [Nat.zero_testBit] at this; cases this), fun z => Or.inl z⟩
theorem dep_full {n : Nat} (hn : cnt (fun t => left.testBit t) e = n) (hll : left < 2 ^ e) : depN left con e (2 ^ n - 1) = con ||| left := by
  have hp := p2_pos n
  apply Nat.eq_of_testBit_eq
  intro i
  rw [Bool.eq_iff_iff, dep_bit e _ (by rw [hn]; omega), Nat.testBit_or, Bool.or_eq_true]
  constructor
  · rintro (z | ⟨-, z, -⟩)
    · exact Or.inl z
    · exact Or.inr z
  · rintro (z | z)
    · exact Or.inl z
    · have hi := bit_lt10 hll z
      have := ix_lt (bs := left) hi z
      exact Or.inr ⟨hi, z, all1 (by rw [← hn]; exact this)⟩
theorem Mtr.dep (hM : Mtr e rk) {n : Nat} (hn : cnt (fun t => left.testBit t) e = n) (hcl : con < 2 ^ e) : Mtr n (fun s => rk (depN left con e s) - rk con) := by
  have he := hM.1
  have hn10 : n ≤ 10 := by have := cnt_le (fun t => left.testBit t) e; omega
  have dl : ∀ s, depN left con e s < 2 ^ e := fun s => depN_lt hcl e (Nat.le_refl e) s
  have ge : ∀ s, s < 2 ^ n → rk con ≤ rk (depN left con e s) := fun s hs => hM.mono (dl s) (fun i hi => (dep_bit e s (by rw [hn]; exact hs) i).mpr (Or.inl hi))
  have elm : ∀ x, x < n → ∃ b, b < e ∧ left.testBit b = true ∧ cnt (fun t => left.testBit t) b = x := fun x hx => by
    obtain ⟨b, b1, b2, b3⟩ := ix_sur (bs := left) (r := x) e (by show x < cnt (fun t => left.testBit t) e; omega)
    exact ⟨b, b1, b2, b3⟩
  refine Mtr.mk1 hn10 ?_ (fun s x hs hx g => ?_) (fun s x y hs hx hy hxy g1 g2 => ?_)
  · show rk (depN left con e 0) - rk con = 0
    rw [dep_zero, Nat.sub_self]
  · obtain ⟨b, b1, b2, b3⟩ := elm x hx
    show rk (depN left con e s) - rk con ≤ rk (depN left con e (s ||| 2 ^ x)) - rk con ∧ rk (depN left con e (s ||| 2 ^ x)) - rk con ≤ rk (depN left con e s) - rk con + 1
    rw [dep_or hn hs hx b1 b2 b3]
    have a := hM.2.2.1 _ b (dl s) b1
    have q := ge s hs
    omega
  · obtain ⟨b, b1, b2, b3⟩ := elm x hx
    obtain ⟨c, c1, c2, c3⟩ := elm y hy
    show rk (depN left con e (s ||| 2 ^ x ||| 2 ^ y)) - rk con + (rk (depN left con e s) - rk con) ≤ rk (depN left con e (s ||| 2 ^ x)) - rk con + (rk (depN left con e (s ||| 2 ^ y)) - rk con)
    rw [dep_or hn (or_lt hs (bit_lt hx)) hy c1 c2 c3, dep_or hn hs hx b1 b2 b3, dep_or hn hs hy c1 c2 c3]
    have d := hM.dim (dl s) (bit_lt b1) (bit_lt c1)
    have q := ge s hs
    have q1 := hM.2.2.1 _ b (dl s) b1
    have q2 := hM.2.2.1 _ c (dl s) c1
    have q3 := hM.2.2.1 _ c (or_lt (dl s) (bit_lt b1)) c1
    omega
end Aza
