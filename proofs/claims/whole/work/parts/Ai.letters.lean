/-! The mathematics: circuits, sorts by their letters -/
section Ai
variable {e : Nat} {rk : Nat → Nat}
theorem cir_same {t k : Nat} : cirN (sortN rk e) e t k = cwM rk e t k e := by
  have key : ∀ n, cwM rk e t k n = 2 ^ k ||| orB (fun m => t.testBit m && bsB rk e (sdf t (2 ^ m) ||| 2 ^ k)) n := by
    intro n
    induction n with
    | zero => exact (Nat.or_zero _).symm
    | succ n ih =>
      show cwM rk e t k n ||| (if (t.testBit n && bsB rk e (sdf t (2 ^ n) ||| 2 ^ k)) = true then 2 ^ n else 0) = _
      rw [ih]
      by_cases g : (t.testBit n && bsB rk e (sdf t (2 ^ n) ||| 2 ^ k)) = true
      · rw [if_pos g, orB_y g, Nat.or_assoc]
      · rw [if_neg g, orB_n g, Nat.or_zero]
  rw [key]
  unfold cirN
  congr 2
  funext m
  rw [sortB9]
theorem Mtr.letter (hM : Mtr e rk) {ch : Int} {t s : Nat} (hs : s < 2 ^ e) (h : (ch = 105 ∧ t = 1) ∨ (ch = 98 ∧ t = 2) ∨ (ch = 99 ∧ t = 4) ∨ (ch = 102 ∧ t = 8) ∨ (ch = 104 ∧ t = 16)) : (sortN rk e s &&& t != 0) = isB rk e ch s := by
  unfold isB
  rcases h with ⟨rfl, rfl⟩ | ⟨rfl, rfl⟩ | ⟨rfl, rfl⟩ | ⟨rfl, rfl⟩ | ⟨rfl, rfl⟩
  · rw [if_pos rfl]; exact sortI9
  · rw [if_neg (by decide), if_pos rfl]; exact sortB9
  · rw [if_neg (by decide), if_neg (by decide), if_pos rfl]; exact hM.srtC hs
  · rw [if_neg (by decide), if_neg (by decide), if_neg (by decide), if_pos rfl]; exact hM.srtF hs
  · rw [if_neg (by decide), if_neg (by decide), if_neg (by decide), if_neg (by decide)]; exact hM.hyp hs
theorem cnt_same {p q : Nat → Bool} : ∀ n, (∀ s, s < n → p s = q s) → cnt p n = cnt q n := by
  intro n
  induction n with
  | zero => intro _; rfl
  | succ n ih =>
    intro h
    show cnt p n + (if p n = true then 1 else 0) = cnt q n + (if q n = true then 1 else 0)
    rw [ih (fun s hs => h s (by omega)), h n (Nat.lt_succ_self n)]
end Ai
