/-! The mathematics: packings -/
section Ah
variable {e : Nat} {rk : Nat → Nat}
theorem amnP_ok {p : Nat → Bool} {v : Nat → Nat} {b0 v0 : Nat} : ∀ n, (amn p v b0 v0 n = (b0, v0) ∧ ∀ s, s < n → p s = true → v0 ≤ v s) ∨ ((amn p v b0 v0 n).1 < n ∧ p (amn p v b0 v0 n).1 = true ∧ (amn p v b0 v0 n).2 = v (amn p v b0 v0 n).1 ∧ (amn p v b0 v0 n).2 < v0 ∧ (∀ s, s < n → p s = true → (amn p v b0 v0 n).2 ≤ v s) ∧ ∀ s, s < (amn p v b0 v0 n).1 → p s = true → (amn p v b0 v0 n).2 < v s) := by
  intro n
  induction n with
  | zero => exact Or.inl ⟨rfl, fun s hs => absurd hs (Nat.not_lt_zero s)⟩
  | succ n ih =>
    have q : amn p v b0 v0 (n + 1) = if p n = true ∧ v n < (amn p v b0 v0 n).2 then (n, v n) else amn p v b0 v0 n := rfl
    rw [q]
    by_cases g : p n = true ∧ v n < (amn p v b0 v0 n).2
    · rw [if_pos g]
      have hl : v n < v0 ∧ ∀ s, s < n → p s = true → v n < v s := by
        rcases ih with ⟨z1, z2⟩ | ⟨z1, z2, z3, z4, z5, z6⟩
        · rw [z1] at g
          exact ⟨g.2, fun s hs hp => Nat.lt_of_lt_of_le g.2 (z2 s hs hp)⟩
        · exact ⟨Nat.lt_trans g.2 z4, fun s hs hp => Nat.lt_of_lt_of_le g.2 (z5 s hs hp)⟩
      refine Or.inr ⟨Nat.lt_succ_self n, g.1, rfl, hl.1, fun s hs hp => ?_, hl.2⟩
      show v n ≤ v s
      by_cases h : s = n
      · subst h; exact Nat.le_refl _
      · exact Nat.le_of_lt (hl.2 s (by omega) hp)
    · rw [if_neg g]
      have hn : p n = true → (amn p v b0 v0 n).2 ≤ v n := fun hp => Nat.le_of_not_lt fun z => g ⟨hp, z⟩
      rcases ih with ⟨z1, z2⟩ | ⟨z1, z2, z3, z4, z5, z6⟩
      · refine Or.inl ⟨z1, fun s hs hp => ?_⟩
        by_cases h : s = n
        · subst h
          have := hn hp
          rw [z1] at this
          exact this
        · exact z2 s (by omega) hp
      · refine Or.inr ⟨by omega, z2, z3, z4, fun s hs hp => ?_, z6⟩
        by_cases h : s = n
        · subst h; exact hn hp
        · exact z5 s (by omega) hp
theorem pkM_ok : ∀ n, (∀ s, s < n → pkM rk e n ≤ alwN rk e s) ∧ (pkM rk e n = 2147483647 ∨ ∃ s, s < n ∧ alwN rk e s = pkM rk e n) := by
  intro n
  induction n with
  | zero => exact ⟨fun s hs => absurd hs (Nat.not_lt_zero s), Or.inl rfl⟩
  | succ n ih =>
    obtain ⟨i1, i2⟩ := ih
    have q : pkM rk e (n + 1) = min (pkM rk e n) (alwN rk e n) := rfl
    rw [q]
    refine ⟨fun s h2 => ?_, ?_⟩
    · by_cases h : s = n
      · subst h; omega
      · have := i1 s (by omega)
        omega
    · by_cases h : alwN rk e n ≤ pkM rk e n
      · exact Or.inr ⟨n, by omega, by omega⟩
      · rcases i2 with z | ⟨s, z2, z3⟩
        · exact Or.inl (by omega)
        · exact Or.inr ⟨s, by omega, by omega⟩
theorem packing_is (hM : Mtr e rk) (h0 : rk (2 ^ e - 1) ≠ 0) {b : Nat} (hb : b = (amn (fun s => decide (rk s < rk (2 ^ e - 1))) (bbN rk e (rk (2 ^ e - 1))) 0 (bbN rk e (rk (2 ^ e - 1)) 0) (2 ^ e)).1) : bbN rk e (rk (2 ^ e - 1)) b = pkM rk e (2 ^ e) ∧ b < 2 ^ e ∧ alwN rk e b = pkM rk e (2 ^ e) ∧ ∀ u, u < b → alwN rk e u ≠ pkM rk e (2 ^ e) := by
  have he := hM.1
  obtain ⟨m1, m2⟩ := pkM_ok (rk := rk) (e := e) (2 ^ e)
  have same : ∀ s, rk s < rk (2 ^ e - 1) → alwN rk e s = bbN rk e (rk (2 ^ e - 1)) s := fun s h => by
    unfold alwN bbN
    rw [if_neg (by omega), if_neg (by omega)]
  have sm : ∀ s, bbN rk e (rk (2 ^ e - 1)) s ≤ 10 := fun s => by
    unfold bbN
    split
    · omega
    · exact Nat.le_trans (Nat.div_le_self _ _) (by omega)
  have big : ∀ s, s < 2 ^ e → ¬ rk s < rk (2 ^ e - 1) → alwN rk e s = 2147483647 := fun s hs h => by
    have := hM.le_all hs
    unfold alwN
    rw [if_pos (by omega)]
  have z0 : rk 0 < rk (2 ^ e - 1) := by rw [hM.2.1]; omega
  have a0 := same 0 z0
  have s0 := sm 0
  have p0 := m1 0 (p2_pos e)
  have hex : ∃ s, s < 2 ^ e ∧ alwN rk e s = pkM rk e (2 ^ e) := by
    rcases m2 with z | z
    · omega
    · exact z
  obtain ⟨t, t1, t2⟩ := hex
  have ht : rk t < rk (2 ^ e - 1) := Classical.byContradiction fun g => by
    have := big t t1 g
    omega
  rw [same t ht] at t2
  rcases amnP_ok (p := fun s => decide (rk s < rk (2 ^ e - 1))) (v := bbN rk e (rk (2 ^ e - 1))) (b0 := 0) (v0 := bbN rk e (rk (2 ^ e - 1)) 0) (2 ^ e) with ⟨z1, z2⟩ | ⟨z1, z2, z3, z4, z5, z6⟩
  · have hb0 : b = 0 := by rw [hb, z1]
    subst hb0
    have a := z2 t t1 (decide_eq_true ht)
    exact ⟨by omega, p2_pos e, by omega, fun u hu => absurd hu (Nat.not_lt_zero u)⟩
  · rw [← hb] at z1 z2 z3 z6
    have zb : rk b < rk (2 ^ e - 1) := of_decide_eq_true z2
    have a := z5 t t1 (decide_eq_true ht)
    have c := m1 b z1
    have d := same b zb
    have ev : bbN rk e (rk (2 ^ e - 1)) b = pkM rk e (2 ^ e) := by omega
    refine ⟨ev, z1, by omega, fun u hu z => ?_⟩
    by_cases g : rk u < rk (2 ^ e - 1)
    · have f := z6 u hu (decide_eq_true g)
      rw [same u g] at z
      omega
    · have f := big u (by omega) g
      omega
end Ah
