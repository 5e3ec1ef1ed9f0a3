/-! The mathematics: the union of both sides; sets that can be placed -/
section A8
variable {e : Nat} {rk r1 r2 : Nat → Nat}
theorem uni_same {r1 r2 : Nat → Nat} (he : e ≤ 10) {s : Nat} (hs : s < 2 ^ e) : rkT (fun s => b2n (parted (sortN r1 e) (sortN r2 e) s)) e (2 ^ e) s = uniM r1 r2 e s := by
  refine Lrg.same he (LrgT he) (LrgF he) (fun q hq => ?_) hs
  rw [decide_eq_true hq, Bool.true_and]
  unfold parted parM
  congr 1
  funext p
  rw [sortI9, sortI9, Bool.and_assoc]
theorem uniM_mtr (h1 : Mtr e r1) (h2 : Mtr e r2) : Mtr e (uniM r1 r2 e) := by
  have he := h1.1
  have hL : Lrg (fun j => decide (j < 2 ^ e) && parM r1 r2 j) e (uniM r1 r2 e) := LrgF he
  refine Mtr.union h1 h2 (fun s hs => ?_)
  obtain ⟨⟨q, q1, q2, q3⟩, hm⟩ := hL s hs
  refine ⟨⟨q, q1, ?_, q3⟩, fun q z1 z2 => hm q z1 (by show (decide (q < 2 ^ e) && parM r1 r2 q) = true; rw [decide_eq_true (Nat.lt_of_le_of_lt (sbs_le z1) hs), z2]; rfl)⟩
  rcases q2 with z | z
  · exact Or.inl ((Bool.and_eq_true _ _).mp z).2
  · exact Or.inr z
theorem uniT_mtr (h1 : Mtr e r1) (h2 : Mtr e r2) : Mtr e (rkT (fun s => b2n (parted (sortN r1 e) (sortN r2 e) s)) e (2 ^ e)) := (uniM_mtr h1 h2).congr (fun s hs => (uni_same h1.1 hs).symm)
end A8
