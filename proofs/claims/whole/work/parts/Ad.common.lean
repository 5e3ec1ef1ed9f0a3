/-! The mathematics: common independent sets and their bound -/
section Ad
variable {e : Nat} {r1 r2 : Nat → Nat}
theorem mst_ok : ∀ n, (∀ q, q < n → frB r1 q = true → frB r2 q = true → bc q ≤ mstN r1 r2 n) ∧ (mstN r1 r2 n = 0 ∨ ∃ q, q < n ∧ frB r1 q = true ∧ frB r2 q = true ∧ bc q = mstN r1 r2 n) := by
  intro n
  induction n with
  | zero => exact ⟨fun q hq => absurd hq (Nat.not_lt_zero q), Or.inl rfl⟩
  | succ n ih =>
    obtain ⟨i1, i2⟩ := ih
    have q : mstN r1 r2 (n + 1) = if (frB r1 n && frB r2 n) = true then max (mstN r1 r2 n) (bc n) else mstN r1 r2 n := rfl
    rw [q]
    by_cases g : (frB r1 n && frB r2 n) = true
    · rw [if_pos g]
      rw [Bool.and_eq_true] at g
      refine ⟨fun s hs h1 h2 => ?_, ?_⟩
      · by_cases h : s = n
        · subst h; omega
        · have := i1 s (by omega) h1 h2
          omega
      · by_cases h : mstN r1 r2 n ≤ bc n
        · exact Or.inr ⟨n, by omega, g.1, g.2, by omega⟩
        · rcases i2 with z | ⟨s, z1, z2, z3, z4⟩
          · omega
          · exact Or.inr ⟨s, by omega, z2, z3, by omega⟩
    · rw [if_neg g]
      refine ⟨fun s hs h1 h2 => ?_, ?_⟩
      · by_cases h : s = n
        · subst h; exact absurd (by rw [h1, h2]; rfl) g
        · exact i1 s (by omega) h1 h2
      · rcases i2 with z | ⟨s, z1, z2, z3, z4⟩
        · exact Or.inl z
        · exact Or.inr ⟨s, by omega, z2, z3, z4⟩
theorem mst_weak (h1 : Mtr e r1) (h2 : Mtr e r2) {t : Nat} (ht : t < 2 ^ e) : mstN r1 r2 (2 ^ e) ≤ r1 t + r2 (sdf (2 ^ e - 1) t) := by
  rcases (mst_ok (r1 := r1) (r2 := r2) (2 ^ e)).2 with z | ⟨q, hq, q1, q2, q3⟩
  · omega
  · unfold frB at q1 q2
    rw [beq_iff_eq] at q1 q2
    have a1 := bc_dif (b := t) h1.1 hq
    have a2 := h1.her hq (sbs_al q t) q1
    have a3 := h1.mono ht (sbs_ar q t)
    have hs : sbs (sdf q t) q := fun i hi => by rw [sdf_bit, Bool.and_eq_true] at hi; exact hi.1
    have a4 := h2.her hq hs q2
    have a5 := h2.mono (s := sdf q t) (co_lt (s := t)) (fun i hi => by
      have hb := sbs_all hq i (hs i hi)
      rw [sdf_bit, Bool.and_eq_true] at hi
      rw [sdf_bit, hb, hi.2]
      rfl)
    omega
theorem mst_bound (h1 : Mtr e r1) (h2 : Mtr e r2) : ∃ t, t < 2 ^ e ∧ r1 t + r2 (sdf (2 ^ e - 1) t) = mstN r1 r2 (2 ^ e) := by
  refine Classical.byContradiction fun hno => ?_
  obtain ⟨q, q1, q2, q3, q4⟩ := inter_max h1 h2 (k := mstN r1 r2 (2 ^ e) + 1) (fun t ht => by
    have a := mst_weak h1 h2 ht
    have b : r1 t + r2 (sdf (2 ^ e - 1) t) ≠ mstN r1 r2 (2 ^ e) := fun z => hno ⟨t, ht, z⟩
    omega)
  have := (mst_ok (r1 := r1) (r2 := r2) (2 ^ e)).1 q q1 (by unfold frB; exact beq_iff_eq.mpr q3) (by unfold frB; exact beq_iff_eq.mpr q4)
  omega
theorem amx_ok {p : Nat → Bool} {v : Nat → Nat} {b0 v0 : Nat} : ∀ n, (amx p v b0 v0 n = (b0, v0) ∧ ∀ s, s < n → p s = true → v s ≤ v0) ∨ ((amx p v b0 v0 n).1 < n ∧ p (amx p v b0 v0 n).1 = true ∧ (amx p v b0 v0 n).2 = v (amx p v b0 v0 n).1 ∧ v0 < (amx p v b0 v0 n).2 ∧ (∀ s, s < n → p s = true → v s ≤ (amx p v b0 v0 n).2) ∧ ∀ s, s < (amx p v b0 v0 n).1 → p s = true → v s < (amx p v b0 v0 n).2) := by
  intro n
  induction n with
  | zero => exact Or.inl ⟨rfl, fun s hs => absurd hs (Nat.not_lt_zero s)⟩
  | succ n ih =>
    have q : amx p v b0 v0 (n + 1) = if p n = true ∧ (amx p v b0 v0 n).2 < v n then (n, v n) else amx p v b0 v0 n := rfl
    rw [q]
    by_cases g : p n = true ∧ (amx p v b0 v0 n).2 < v n
    · rw [if_pos g]
      have hl : v0 < v n ∧ ∀ s, s < n → p s = true → v s < v n := by
        rcases ih with ⟨z1, z2⟩ | ⟨z1, z2, z3, z4, z5, z6⟩
        · rw [z1] at g
          exact ⟨g.2, fun s hs hp => Nat.lt_of_le_of_lt (z2 s hs hp) g.2⟩
        · exact ⟨Nat.lt_trans z4 g.2, fun s hs hp => Nat.lt_of_le_of_lt (z5 s hs hp) g.2⟩
      refine Or.inr ⟨Nat.lt_succ_self n, g.1, rfl, hl.1, fun s hs hp => ?_, hl.2⟩
      show v s ≤ v n
      by_cases h : s = n
      · subst h; exact Nat.le_refl _
      · exact Nat.le_of_lt (hl.2 s (by omega) hp)
    · rw [if_neg g]
      have hn : p n = true → v n ≤ (amx p v b0 v0 n).2 := fun hp => Nat.le_of_not_lt fun z => g ⟨hp, z⟩
      rcases ih with ⟨z1, z2⟩ | ⟨z1, z2, z3, z4, z5, z6⟩
      · refine Or.inl ⟨z1, fun s hs hp => ?_⟩
        by_cases h : s = n
        · subst h
          have := hn hp
          rw [z1] at this
          exact this
        · exact z2 s (by omega) hp
      · refine Or.inr ⟨by omega, z2, z3, z4, fun s hs hp => ?_, z6⟩
        by_cases h : s = n
        · subst h; exact hn hp
        · exact z5 s (by omega) hp
theorem common_is (h1 : Mtr e r1) (h2 : Mtr e r2) {b : Nat} (hb : b = (amx (fun s => (sortN r1 e s &&& 1 != 0) && (sortN r2 e s &&& 1 != 0)) bc 0 0 (2 ^ e)).1) : b < 2 ^ e ∧ (frB r1 b = true ∧ frB r2 b = true ∧ bc b = mstN r1 r2 (2 ^ e)) ∧ ∀ u, u < b → ¬ (frB r1 u = true ∧ frB r2 u = true ∧ bc u = mstN r1 r2 (2 ^ e)) := by
  obtain ⟨m1, m2⟩ := mst_ok (r1 := r1) (r2 := r2) (2 ^ e)
  have b00 : bc 0 = 0 := rfl
  have f0 : ∀ r : Nat → Nat, Mtr e r → frB r 0 = true := fun r h => by unfold frB; rw [beq_iff_eq, h.2.1]; rfl
  have hp : ∀ s, ((sortN r1 e s &&& 1 != 0) && (sortN r2 e s &&& 1 != 0)) = true ↔ frB r1 s = true ∧ frB r2 s = true := fun s => by rw [sortI9, sortI9, Bool.and_eq_true]
  rcases amx_ok (p := fun s => (sortN r1 e s &&& 1 != 0) && (sortN r2 e s &&& 1 != 0)) (v := bc) (b0 := 0) (v0 := 0) (2 ^ e) with ⟨z1, z2⟩ | ⟨z1, z2, z3, z4, z5, z6⟩
  · rw [z1] at hb
    subst hb
    have hm : mstN r1 r2 (2 ^ e) = 0 := by
      rcases m2 with z | ⟨q, q0, q1, q2, q3⟩
      · exact z
      · have := z2 q q0 ((hp q).mpr ⟨q1, q2⟩)
        omega
    exact ⟨p2_pos e, ⟨f0 r1 h1, f0 r2 h2, by show bc 0 = _; omega⟩, fun u hu => absurd hu (Nat.not_lt_zero u)⟩
  · rw [← hb] at z1 z2 z3 z6
    have f := (hp b).mp z2
    have hm : bc b = mstN r1 r2 (2 ^ e) := by
      have a := m1 b z1 f.1 f.2
      rcases m2 with z | ⟨q, q0, q1, q2, q3⟩
      · omega
      · have := z5 q q0 ((hp q).mpr ⟨q1, q2⟩)
        omega
    refine ⟨z1, ⟨f.1, f.2, hm⟩, fun u hu z => ?_⟩
    have := z6 u hu ((hp u).mpr ⟨z.1, z.2.1⟩)
    omega
end Ad
