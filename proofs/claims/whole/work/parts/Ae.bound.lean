/-! The mathematics: the bound of common sets is the same on both sides -/
section Ae
variable {e : Nat} {r1 r2 : Nat → Nat}
theorem amn_ok {v : Nat → Nat} {b0 v0 : Nat} : ∀ n, (amn (fun _ => true) v b0 v0 n = (b0, v0) ∧ ∀ s, s < n → v0 ≤ v s) ∨ ((amn (fun _ => true) v b0 v0 n).1 < n ∧ (amn (fun _ => true) v b0 v0 n).2 = v (amn (fun _ => true) v b0 v0 n).1 ∧ (amn (fun _ => true) v b0 v0 n).2 < v0 ∧ (∀ s, s < n → (amn (fun _ => true) v b0 v0 n).2 ≤ v s) ∧ ∀ s, s < (amn (fun _ => true) v b0 v0 n).1 → (amn (fun _ => true) v b0 v0 n).2 < v s) := by
  intro n
  induction n with
  | zero => exact Or.inl ⟨rfl, fun s hs => absurd hs (Nat.not_lt_zero s)⟩
  | succ n ih =>
    have q : amn (fun _ => true) v b0 v0 (n + 1) = if (fun _ : Nat => true) n = true ∧ v n < (amn (fun _ => true) v b0 v0 n).2 then (n, v n) else amn (fun _ => true) v b0 v0 n := rfl
    rw [q]
    by_cases g : (fun _ : Nat => true) n = true ∧ v n < (amn (fun _ => true) v b0 v0 n).2
    · rw [if_pos g]
      have hl : v n < v0 ∧ ∀ s, s < n → v n < v s := by
        rcases ih with ⟨z1, z2⟩ | ⟨z1, z3, z4, z5, z6⟩
        · rw [z1] at g
          exact ⟨g.2, fun s hs => Nat.lt_of_lt_of_le g.2 (z2 s hs)⟩
        · exact ⟨Nat.lt_trans g.2 z4, fun s hs => Nat.lt_of_lt_of_le g.2 (z5 s hs)⟩
      refine Or.inr ⟨Nat.lt_succ_self n, rfl, hl.1, fun s hs => ?_, hl.2⟩
      show v n ≤ v s
      by_cases h : s = n
      · subst h; exact Nat.le_refl _
      · exact Nat.le_of_lt (hl.2 s (by omega))
    · rw [if_neg g]
      have hn : (amn (fun _ => true) v b0 v0 n).2 ≤ v n := Nat.le_of_not_lt fun z => g ⟨rfl, z⟩
      rcases ih with ⟨z1, z2⟩ | ⟨z1, z3, z4, z5, z6⟩
      · refine Or.inl ⟨z1, fun s hs => ?_⟩
        by_cases h : s = n
        · subst h
          rw [z1] at hn
          exact hn
        · exact z2 s (by omega)
      · refine Or.inr ⟨by omega, z3, z4, fun s hs => ?_, z6⟩
        by_cases h : s = n
        · subst h; exact hn
        · exact z5 s (by omega)
theorem bound_is (h1 : Mtr e r1) (h2 : Mtr e r2) {b : Nat} (hb : b = (amn (fun _ => true) (fun s => r1 s + r2 (sdf (2 ^ e - 1) s)) 0 (r2 (2 ^ e - 1)) (2 ^ e)).1) : b < 2 ^ e ∧ r1 b + r2 (sdf (2 ^ e - 1) b) = mstN r1 r2 (2 ^ e) ∧ ∀ u, u < b → ¬ r1 u + r2 (sdf (2 ^ e - 1) u) = mstN r1 r2 (2 ^ e) := by
  obtain ⟨t, t1, t2⟩ := mst_bound h1 h2
  have v00 : r1 0 + r2 (sdf (2 ^ e - 1) 0) = r2 (2 ^ e - 1) := by
    rw [h1.2.1, show sdf (2 ^ e - 1) 0 = 2 ^ e - 1 by unfold sdf; rw [Nat.and_zero, Nat.xor_zero], Nat.zero_add]
  rcases amn_ok (v := fun s => r1 s + r2 (sdf (2 ^ e - 1) s)) (b0 := 0) (v0 := r2 (2 ^ e - 1)) (2 ^ e) with ⟨z1, z2⟩ | ⟨z1, z3, z4, z5, z6⟩
  · have hb0 : b = 0 := by rw [hb, z1]
    subst hb0
    have a : r2 (2 ^ e - 1) ≤ r1 t + r2 (sdf (2 ^ e - 1) t) := z2 t t1
    have b := mst_weak h1 h2 (p2_pos e)
    exact ⟨p2_pos e, by omega, fun u hu => absurd hu (Nat.not_lt_zero u)⟩
  · rw [← hb] at z1 z3 z6
    have a := z5 t t1
    have c := mst_weak h1 h2 z1
    refine ⟨z1, ?_, fun u hu z => ?_⟩
    · omega
    · have d := z6 u hu
      omega
end Ae
