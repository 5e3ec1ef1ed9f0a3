/-! Circuitfold$Drawing (X2): setFreeSigns -/
def fsP (J : Nat → Nat) (bs : Nat) (s : (Nat → Nat) × (Nat → Nat)) (el row : Nat) : (Nat → Nat) × (Nat → Nat) := if (!bs.testBit el && (J el).testBit row) = true then (if 99 ≤ (walkN s.1 row 10 (2 ^ el) (2 ^ el) s.2).1 then lrn s.1 el row else s.1, (walkN s.1 row 10 (2 ^ el) (2 ^ el) s.2).2) else s
def fsR (J : Nat → Nat) (bs : Nat) (s : (Nat → Nat) × (Nat → Nat)) (el : Nat) : Nat → (Nat → Nat) × (Nat → Nat)
  | 0 => s
  | n + 1 => fsP J bs (fsR J bs s el n) el n
def fsO (J : Nat → Nat) (bs e : Nat) (s : (Nat → Nat) × (Nat → Nat)) : Nat → (Nat → Nat) × (Nat → Nat)
  | 0 => s
  | n + 1 => fsR J bs (fsO J bs e s n) n e
theorem lrn_lt {K : Nat → Nat} {x y : Nat} (hx : x < 10) (hy : y < 10) (h : ∀ j, K j < 1024) : ∀ j, lrn K x y j < 1024 := by
  have h1 : ∀ j, up K x (K x ||| 2 ^ y) j < 1024 := fun j => by
    rw [up_is]
    split
    · exact or_lt (e := 10) (h x) (bit_lt hy)
    · exact h j
  intro j
  unfold lrn
  rw [up_is]
  split
  · exact or_lt (e := 10) (h1 y) (bit_lt hx)
  · exact h1 j
theorem fsR_lt {J : Nat → Nat} {bs el : Nat} {s : (Nat → Nat) × (Nat → Nat)} (hel : el < 10) (h : ∀ j, s.1 j < 1024) : ∀ n, n ≤ 10 → ∀ j, (fsR J bs s el n).1 j < 1024 := by
  intro n
  induction n with
  | zero => intro _; exact h
  | succ n ih =>
    intro hn
    have h1 := ih (by omega)
    show ∀ j, (fsP J bs (fsR J bs s el n) el n).1 j < 1024
    unfold fsP
    split
    · dsimp only
      split
      · exact lrn_lt hel (by omega) h1
      · exact h1
    · exact h1
theorem fsO_lt {J : Nat → Nat} {bs e : Nat} {s : (Nat → Nat) × (Nat → Nat)} (he : e ≤ 10) (h : ∀ j, s.1 j < 1024) : ∀ n, n ≤ e → ∀ j, (fsO J bs e s n).1 j < 1024 := by
  intro n
  induction n with
  | zero => intro _; exact h
  | succ n ih => intro hn; exact fsR_lt (by omega) (ih (by omega)) e he
