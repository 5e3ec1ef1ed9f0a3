/-! The law: each operation: what both sides say goes together -/
section Ba
/-- both sides' states after a call -/
def Mg (S0 : State) (h1 h2 : AH) (x mo kk pc ps : Nat) : Prop := ∃ (w : Nat → Nat) (c m : Nat) (E : Nat → Nat) (R : Nat → Nat → Nat) (br bf bs be : Int) (D2 D3 : Nat → Bool) (so : Nat) (b0 b1 b2 : Int), HI h1 x w c m E R br bf bs be D2 D3 so ∧ RI (zA S0) DRp h2 mo kk c w m E R b0 b1 b2 ∧ BrR br bf bs be b0 b1 b2 ∧ pC so D2 ≤ pc ∧ pS so D2 ≤ ps
theorem iI {z v : Int} (h : some (I z) = some (I v)) : Int32.ofInt z = Int32.ofInt v := Value.int.inj (Option.some.inj h)
theorem ex1 {e e1 : String} {k : Nat} (h : [e1][k - 1]? = some e) (hk : 1 ≤ k) : k = 1 ∧ e = e1 := by
  obtain ⟨j, rfl⟩ : ∃ j, k = j + 1 := ⟨k - 1, by omega⟩
  rw [Nat.add_sub_cancel] at h
  match j, h with
  | 0, h => exact ⟨rfl, (Option.some.inj h).symm⟩
theorem ex2 {e e1 e2 : String} {k : Nat} (h : [e1, e2][k - 1]? = some e) (hk : 1 ≤ k) : (k = 1 ∧ e = e1) ∨ (k = 2 ∧ e = e2) := by
  obtain ⟨j, rfl⟩ : ∃ j, k = j + 1 := ⟨k - 1, by omega⟩
  rw [Nat.add_sub_cancel] at h
  match j, h with
  | 0, h => exact Or.inl ⟨rfl, (Option.some.inj h).symm⟩
  | 1, h => exact Or.inr ⟨rfl, (Option.some.inj h).symm⟩
theorem ex3 {e e1 e2 e3 : String} {k : Nat} (h : [e1, e2, e3][k - 1]? = some e) (hk : 1 ≤ k) : (k = 1 ∧ e = e1) ∨ (k = 2 ∧ e = e2) ∨ (k = 3 ∧ e = e3) := by
  obtain ⟨j, rfl⟩ : ∃ j, k = j + 1 := ⟨k - 1, by omega⟩
  rw [Nat.add_sub_cancel] at h
  match j, h with
  | 0, h => exact Or.inl ⟨rfl, (Option.some.inj h).symm⟩
  | 1, h => exact Or.inr (Or.inl ⟨rfl, (Option.some.inj h).symm⟩)
  | 2, h => exact Or.inr (Or.inr ⟨rfl, (Option.some.inj h).symm⟩)
theorem ex4 {e e1 e2 e3 e4 : String} {k : Nat} (h : [e1, e2, e3, e4][k - 1]? = some e) (hk : 1 ≤ k) : (k = 1 ∧ e = e1) ∨ (k = 2 ∧ e = e2) ∨ (k = 3 ∧ e = e3) ∨ (k = 4 ∧ e = e4) := by
  obtain ⟨j, rfl⟩ : ∃ j, k = j + 1 := ⟨k - 1, by omega⟩
  rw [Nat.add_sub_cancel] at h
  match j, h with
  | 0, h => exact Or.inl ⟨rfl, (Option.some.inj h).symm⟩
  | 1, h => exact Or.inr (Or.inl ⟨rfl, (Option.some.inj h).symm⟩)
  | 2, h => exact Or.inr (Or.inr (Or.inl ⟨rfl, (Option.some.inj h).symm⟩))
  | 3, h => exact Or.inr (Or.inr (Or.inr ⟨rfl, (Option.some.inj h).symm⟩))
/-- the made matroid's ranks, told otherwise -/
theorem RI.up {Z : Nat → Prop} {H : AH} {a th c m e : Nat} {w : Nat → Nat} {E : Nat → Nat} {R : Nat → Nat → Nat} {X Y : Nat → Nat} {b0 b1 b2 : Int} (q : RI Z DRp H a th c w (m + 1) (up E m e) (up R m X) b0 b1 b2) (h : ∀ s, s < 2 ^ e → X s = Y s) : RI Z DRp H a th c w (m + 1) (up E m e) (up R m Y) b0 b1 b2 := by
  refine RI_congr (fun j hj s hs => ?_) q
  by_cases g : j = m
  · subst g
    rw [up_s] at hs
    rw [up_s, up_s]
    exact h s hs
  · rw [up_n g, up_n g]
end Ba
