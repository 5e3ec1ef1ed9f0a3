/-! Circuitfold$Drawing (X2): closeRing -/
/-- the way back: place, ring, sign after so many steps -/
def rgN (B N : Nat → Nat) (el row : Nat) : Nat → Nat × Nat × Bool
  | 0 => (row, 2 ^ row, false)
  | k + 1 => if (rgN B N el row k).1 = el then rgN B N el row k else (B (rgN B N el row k).1, (rgN B N el row k).2.1 ||| 2 ^ B (rgN B N el row k).1, xor (rgN B N el row k).2.2 ((N (rgN B N el row k).1).testBit (B (rgN B N el row k).1)))
theorem rgN_lt {B N : Nat → Nat} {el row : Nat} (hrow : row < 10) (hB : ∀ j, j < 10 → B j < 10) : ∀ k, (rgN B N el row k).1 < 10 ∧ (rgN B N el row k).2.1 < 1024 := by
  intro k
  induction k with
  | zero => exact ⟨hrow, bit_lt (e := 10) hrow⟩
  | succ k ih =>
    unfold rgN
    split
    · exact ih
    · exact ⟨hB _ ih.1, or_lt (e := 10) ih.2 (bit_lt (hB _ ih.1))⟩
theorem rgN_stay {B N : Nat → Nat} {el row k : Nat} (h : (rgN B N el row k).1 = el) : ∀ m, rgN B N el row (k + m) = rgN B N el row k := by
  intro m
  induction m with
  | zero => rfl
  | succ m ih =>
    have e1 : rgN B N el row (k + (m + 1)) = (if (rgN B N el row (k + m)).1 = el then rgN B N el row (k + m) else (B (rgN B N el row (k + m)).1, (rgN B N el row (k + m)).2.1 ||| 2 ^ B (rgN B N el row (k + m)).1, xor (rgN B N el row (k + m)).2.2 ((N (rgN B N el row (k + m)).1).testBit (B (rgN B N el row (k + m)).1)))) := rfl
    rw [e1, ih, if_pos h]
theorem walkB_lt {K : Nat → Nat} {to : Nat} : ∀ f rc front B, (∀ j, B j < 10) → ∀ j, (walkN K to f rc front B).2 j < 10 := by
  intro f
  induction f with
  | zero => intro _ _ B h; exact h
  | succ f ih =>
    intro rc front B h
    have hw : ∀ n, n ≤ 10 → ∀ j, (wkI K front rc B n).2.2 j < 10 := by
      intro n
      induction n with
      | zero => intro _; exact h
      | succ n ih2 =>
        intro hn j
        have := ih2 (by omega)
        unfold wkI
        split
        · dsimp only
          split
          · omega
          · exact this j
        · exact this j
    unfold walkN
    split
    · exact hw 10 (Nat.le_refl 10)
    · exact ih _ _ _ (hw 10 (Nat.le_refl 10))
