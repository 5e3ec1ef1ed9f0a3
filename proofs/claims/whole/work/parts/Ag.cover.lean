/-! The mathematics: covers -/
section Ag
variable {e : Nat} {rk : Nat → Nat}
theorem cvM_ok : ∀ n, (∀ s, 1 ≤ s → s < n → ndN rk s ≤ cvM rk n) ∧ (cvM rk n = 0 ∨ ∃ s, 1 ≤ s ∧ s < n ∧ ndN rk s = cvM rk n) := by
  intro n
  induction n with
  | zero => exact ⟨fun s _ hs => absurd hs (Nat.not_lt_zero s), Or.inl rfl⟩
  | succ n ih =>
    obtain ⟨i1, i2⟩ := ih
    have q : cvM rk (n + 1) = if n = 0 then 0 else max (cvM rk n) (ndN rk n) := rfl
    rw [q]
    by_cases g : n = 0
    · rw [if_pos g]
      exact ⟨fun s h1 h2 => by omega, Or.inl rfl⟩
    · rw [if_neg g]
      refine ⟨fun s h1 h2 => ?_, ?_⟩
      · by_cases h : s = n
        · subst h; omega
        · have := i1 s h1 (by omega)
          omega
      · by_cases h : cvM rk n ≤ ndN rk n
        · exact Or.inr ⟨n, by omega, by omega, by omega⟩
        · rcases i2 with z | ⟨s, z1, z2, z3⟩
          · omega
          · exact Or.inr ⟨s, z1, by omega, by omega⟩
theorem cover_is (hM : Mtr e rk) (hl : loopB rk e = false) {b : Nat} (hb : b = (amx (fun _ => true) (pfN rk) 0 0 (2 ^ e)).1) : pfN rk b = cvM rk (2 ^ e) ∧ (e ≠ 0 → 1 ≤ b ∧ b < 2 ^ e ∧ ndN rk b = cvM rk (2 ^ e) ∧ ∀ u, 1 ≤ u → u < b → ndN rk u ≠ cvM rk (2 ^ e)) := by
  obtain ⟨m1, m2⟩ := cvM_ok (rk := rk) (2 ^ e)
  have p0 : pfN rk 0 = 0 := by unfold pfN; rw [if_pos hM.2.1]
  have ps : ∀ s, 1 ≤ s → s < 2 ^ e → pfN rk s = ndN rk s := fun s h1 h2 => by
    unfold pfN ndN
    rw [if_neg (hM.noLoop hl (by omega) h2)]
  have pos : ∀ s, 1 ≤ s → s < 2 ^ e → 1 ≤ ndN rk s := fun s h1 h2 => by
    have a := hM.noLoop hl (by omega) h2
    have c := hM.le_bc h2
    unfold ndN
    exact (Nat.le_div_iff_mul_le (by omega)).mpr (by omega)
  rcases amx_ok (p := fun _ => true) (v := pfN rk) (b0 := 0) (v0 := 0) (2 ^ e) with ⟨z1, z2⟩ | ⟨z1, -, z3, z4, z5, z6⟩
  · have hb0 : b = 0 := by rw [hb, z1]
    subst hb0
    have hno : ∀ s, 1 ≤ s → s < 2 ^ e → False := fun s h1 h2 => by
      have a := z2 s h2 rfl
      have c := pos s h1 h2
      rw [ps s h1 h2] at a
      omega
    refine ⟨?_, fun he => ?_⟩
    · rw [p0]
      rcases m2 with z | ⟨s, s1, s2, s3⟩
      · exact z.symm
      · exact (hno s s1 s2).elim
    · exact (hno 1 (Nat.le_refl _) (by
        have : 2 ^ 1 ≤ 2 ^ e := Nat.pow_le_pow_right (by decide) (by omega)
        omega)).elim
  · rw [← hb] at z1 z3 z6
    have hb1 : 1 ≤ b := by
      apply Classical.byContradiction
      intro g
      have : b = 0 := by omega
      subst this
      omega
    have hv : pfN rk b = cvM rk (2 ^ e) := by
      have a := m1 b hb1 z1
      rw [ps b hb1 z1] at z3 ⊢
      rcases m2 with z | ⟨s, s1, s2, s3⟩
      · omega
      · have := z5 s s2 rfl
        rw [ps s s1 s2] at this
        omega
    refine ⟨hv, fun _ => ⟨hb1, z1, by rw [← ps b hb1 z1]; exact hv, fun u u1 u2 z => ?_⟩⟩
    have a := z6 u u2 rfl
    rw [ps u u1 (by omega)] at a
    omega
end Ag
