/-! The mathematics: a matroid's ranks are submodular; uniform, truncated, dual -/
section A0
variable {e : Nat} {rk : Nat → Nat}
theorem or_swap (u a b : Nat) : u ||| a ||| b = u ||| b ||| a := by rw [Nat.or_assoc, Nat.or_comm a b, ← Nat.or_assoc]
theorem Mtr.clo1 (hM : Mtr e rk) {u x y : Nat} (hu : u < 2 ^ e) (hx : x < e) (hy : y < e) (h : rk (u ||| 2 ^ x) = rk u) : rk (u ||| 2 ^ y ||| 2 ^ x) = rk (u ||| 2 ^ y) := by
  obtain ⟨he, h0, h1, h2⟩ := hM
  by_cases g : rk (u ||| 2 ^ y) = rk u
  · rw [h2 u y x hu hy hx g h, g]
  · have a1 := h1 u y hu hy
    have hux : u ||| 2 ^ x < 2 ^ e := or_lt hu (bit_lt hx)
    have huy : u ||| 2 ^ y < 2 ^ e := or_lt hu (bit_lt hy)
    have a2 := h1 (u ||| 2 ^ x) y hux hy
    have a3 := h1 (u ||| 2 ^ y) x huy hx
    rw [or_swap u (2 ^ y) (2 ^ x)] at a3 ⊢
    omega
theorem Mtr.cloK (hM : Mtr e rk) {u x t : Nat} (hu : u < 2 ^ e) (hx : x < e) (h : rk (u ||| 2 ^ x) = rk u) : ∀ k, k ≤ e → rk (u ||| t % 2 ^ k ||| 2 ^ x) = rk (u ||| t % 2 ^ k) := by
  intro k
  induction k with
  | zero =>
    intro _
    rw [Nat.pow_zero, Nat.mod_one, Nat.or_zero]
    exact h
  | succ k ih =>
    intro hk
    by_cases g : t.testBit k = true
    · rw [pre_y g, ← Nat.or_assoc]
      exact hM.clo1 (or_lt hu (mod_lt2 (by omega))) hx (by omega) (ih (by omega))
    · rw [pre_n g]
      exact ih (by omega)
theorem Mtr.cloT (hM : Mtr e rk) {u x t : Nat} (hu : u < 2 ^ e) (ht : t < 2 ^ e) (hx : x < e) (h : rk (u ||| 2 ^ x) = rk u) : rk (u ||| t ||| 2 ^ x) = rk (u ||| t) := by
  have q := hM.cloK (t := t) hu hx h e (Nat.le_refl e)
  rw [Nat.mod_eq_of_lt ht] at q
  exact q
theorem Mtr.dimK (hM : Mtr e rk) {u t s : Nat} (hu : u < 2 ^ e) (ht : t < 2 ^ e) : ∀ k, k ≤ e → rk (u ||| t ||| s % 2 ^ k) + rk u ≤ rk (u ||| t) + rk (u ||| s % 2 ^ k) := by
  intro k
  induction k with
  | zero =>
    intro _
    rw [Nat.pow_zero, Nat.mod_one, Nat.or_zero, Nat.or_zero]
    exact Nat.le_refl _
  | succ k ih =>
    intro hk
    have i := ih (by omega)
    by_cases g : s.testBit k = true
    · have hs9 : u ||| s % 2 ^ k < 2 ^ e := or_lt hu (mod_lt2 (by omega))
      have hu9 : u ||| t ||| s % 2 ^ k < 2 ^ e := or_lt (or_lt hu ht) (mod_lt2 (by omega))
      have a1 := hM.2.2.1 _ k hs9 (by omega)
      have a2 := hM.2.2.1 _ k hu9 (by omega)
      rw [pre_y g, ← Nat.or_assoc, ← Nat.or_assoc]
      by_cases g2 : rk (u ||| s % 2 ^ k ||| 2 ^ k) = rk (u ||| s % 2 ^ k)
      · have c := hM.cloT hs9 ht (by omega) g2
        rw [or_swap u (s % 2 ^ k) t] at c
        omega
      · omega
    · rw [pre_n g]
      exact i
theorem Mtr.dim (hM : Mtr e rk) {u t s : Nat} (hu : u < 2 ^ e) (ht : t < 2 ^ e) (hs : s < 2 ^ e) : rk (u ||| t ||| s) + rk u ≤ rk (u ||| t) + rk (u ||| s) := by
  have q := hM.dimK (s := s) hu ht e (Nat.le_refl e)
  rw [Nat.mod_eq_of_lt hs] at q
  exact q
theorem and_or_l (s t : Nat) : s &&& t ||| s = s := by
  apply Nat.eq_of_testBit_eq
  intro i
  rw [Nat.testBit_or, Nat.testBit_and]
  cases s.testBit i <;> cases t.testBit i <;> rfl
theorem and_or_r (s t : Nat) : s &&& t ||| t = t := by
  apply Nat.eq_of_testBit_eq
  intro i
  rw [Nat.testBit_or, Nat.testBit_and]
  cases s.testBit i <;> cases t.testBit i <;> rfl
theorem Mtr.sub (hM : Mtr e rk) {s t : Nat} (hs : s < 2 ^ e) (ht : t < 2 ^ e) : rk (s ||| t) + rk (s &&& t) ≤ rk s + rk t := by
  have q := hM.dim (u := s &&& t) (Nat.lt_of_le_of_lt Nat.and_le_left hs) hs ht
  rw [and_or_l, and_or_r] at q
  exact q
/-- enough to be a matroid's ranks -/
theorem Mtr.mk1 (he : e ≤ 10) (h0 : rk 0 = 0) (h1 : ∀ s x, s < 2 ^ e → x < e → ¬ s.testBit x = true → rk s ≤ rk (s ||| 2 ^ x) ∧ rk (s ||| 2 ^ x) ≤ rk s + 1) (h3 : ∀ s x y, s < 2 ^ e → x < e → y < e → x ≠ y → ¬ s.testBit x = true → ¬ s.testBit y = true → rk (s ||| 2 ^ x ||| 2 ^ y) + rk s ≤ rk (s ||| 2 ^ x) + rk (s ||| 2 ^ y)) : Mtr e rk := by
  have h1' : ∀ s x, s < 2 ^ e → x < e → rk s ≤ rk (s ||| 2 ^ x) ∧ rk (s ||| 2 ^ x) ≤ rk s + 1 := fun s x hs hx => by
    by_cases g : s.testBit x = true
    · rw [or_bit_same g]; omega
    · exact h1 s x hs hx g
  refine ⟨he, h0, h1', fun s x y hs hx hy q1 q2 => ?_⟩
  have b1 := h1' s x hs hx
  have b2 := h1' (s ||| 2 ^ x) y (or_lt hs (bit_lt hx)) hy
  by_cases g1 : s.testBit x = true
  · rw [or_bit_same g1]; exact q2
  · by_cases g2 : s.testBit y = true
    · rw [or_swap, or_bit_same g2]; exact q1
    · by_cases g3 : x = y
      · subst g3
        rw [Nat.or_assoc, Nat.or_self]
        exact q1
      · have := h3 s x y hs hx hy g3 g1 g2
        omega
theorem bc_add {s x : Nat} (he : e ≤ 10) (hs : s < 2 ^ e) (hx : x < e) (h : ¬ s.testBit x = true) : bc (s ||| 2 ^ x) = bc s + 1 := bc_add1 s (Nat.lt_of_lt_of_le hs (p2_le he)) x (by omega) h
theorem or_tb {s x y : Nat} (h : ¬ s.testBit y = true) (hxy : x ≠ y) : ¬ (s ||| 2 ^ x).testBit y = true := by
  rw [Nat.testBit_or, p2_testBit, decide_eq_false hxy, Bool.or_false]
  exact h
theorem Mtr.uni {k : Nat} (he : e ≤ 10) : Mtr e (fun s => min k (bc s)) := by
  have b0 : bc 0 = 0 := rfl
  refine Mtr.mk1 he (by show min k (bc 0) = 0; omega) (fun s x hs hx g => ?_) (fun s x y hs hx hy hxy g1 g2 => ?_)
  · have := bc_add he hs hx g
    show min k (bc s) ≤ min k (bc (s ||| 2 ^ x)) ∧ min k (bc (s ||| 2 ^ x)) ≤ min k (bc s) + 1
    omega
  · have a1 := bc_add he hs hx g1
    have a2 := bc_add he hs hy g2
    have a3 := bc_add he (or_lt hs (bit_lt hx)) hy (or_tb g2 hxy)
    show min k (bc (s ||| 2 ^ x ||| 2 ^ y)) + min k (bc s) ≤ min k (bc (s ||| 2 ^ x)) + min k (bc (s ||| 2 ^ y))
    omega
theorem Mtr.trunc (hM : Mtr e rk) (k : Nat) : Mtr e (fun s => min (rk s) k) := by
  have z0 := hM.2.1
  refine Mtr.mk1 hM.1 (by show min (rk 0) k = 0; omega) (fun s x hs hx g => ?_) (fun s x y hs hx hy hxy g1 g2 => ?_)
  · have := hM.2.2.1 s x hs hx
    show min (rk s) k ≤ min (rk (s ||| 2 ^ x)) k ∧ min (rk (s ||| 2 ^ x)) k ≤ min (rk s) k + 1
    omega
  · have a1 := hM.2.2.1 s x hs hx
    have a2 := hM.2.2.1 s y hs hy
    have a3 := hM.2.2.1 _ y (or_lt hs (bit_lt hx)) hy
    have a4 := hM.dim hs (bit_lt hx) (bit_lt hy)
    have a5 := hM.2.2.1 _ x (or_lt hs (bit_lt hy)) hx
    rw [or_swap] at a5
    show min (rk (s ||| 2 ^ x ||| 2 ^ y)) k + min (rk s) k ≤ min (rk (s ||| 2 ^ x)) k + min (rk (s ||| 2 ^ y)) k
    omega
theorem all_bit {i : Nat} : (2 ^ e - 1).testBit i = decide (i < e) := Nat.testBit_two_pow_sub_one e i
theorem co_or {s x : Nat} (hx : x < e) (g : ¬ s.testBit x = true) : sdf (2 ^ e - 1) (s ||| 2 ^ x) ||| 2 ^ x = sdf (2 ^ e - 1) s := by
  apply Nat.eq_of_testBit_eq
  intro i
  rw [Nat.testBit_or, sdf_bit, sdf_bit, Nat.testBit_or, p2_testBit, all_bit]
  by_cases h : x = i
  · subst h
    rw [decide_eq_true hx, decide_eq_true rfl]
    cases hb : s.testBit x
    · rfl
    · exact absurd hb g
  · rw [decide_eq_false h]
    cases s.testBit i <;> cases decide (i < e) <;> rfl
theorem co_lt {s : Nat} : sdf (2 ^ e - 1) s < 2 ^ e := sdf_lt (by have := p2_pos e; omega)
theorem co_full {s : Nat} (hs : s < 2 ^ e) : sdf (2 ^ e - 1) s ||| s = 2 ^ e - 1 := by
  apply Nat.eq_of_testBit_eq
  intro i
  rw [Nat.testBit_or, sdf_bit, all_bit]
  by_cases h : i < e
  · rw [decide_eq_true h]
    cases s.testBit i <;> rfl
  · rw [decide_eq_false h, Nat.testBit_lt_two_pow (Nat.lt_of_lt_of_le hs (Nat.pow_le_pow_right (by decide) (by omega)))]
    rfl
theorem Mtr.dualM (hM : Mtr e rk) : Mtr e (dualR rk e) := by
  have hge : ∀ s, s < 2 ^ e → rk (2 ^ e - 1) ≤ bc s + rk (sdf (2 ^ e - 1) s) := fun s hs => by
    have q := (hM.add (s := sdf (2 ^ e - 1) s) (t := s) co_lt hs).2
    rw [co_full hs] at q
    omega
  refine Mtr.mk1 hM.1 ?_ (fun s x hs hx g => ?_) (fun s x y hs hx hy hxy g1 g2 => ?_)
  · unfold dualR
    have e0 : sdf (2 ^ e - 1) 0 = 2 ^ e - 1 := by unfold sdf; rw [Nat.and_zero, Nat.xor_zero]
    rw [e0]
    have b0 : bc 0 = 0 := rfl
    omega
  · have a1 := bc_add hM.1 hs hx g
    have a2 := hM.2.2.1 (sdf (2 ^ e - 1) (s ||| 2 ^ x)) x co_lt hx
    rw [co_or hx g] at a2
    have a3 := hge s hs
    unfold dualR
    omega
  · have a1 := bc_add hM.1 hs hx g1
    have a2 := bc_add hM.1 hs hy g2
    have hsx : s ||| 2 ^ x < 2 ^ e := or_lt hs (bit_lt hx)
    have hsy : s ||| 2 ^ y < 2 ^ e := or_lt hs (bit_lt hy)
    have a3 := bc_add hM.1 hsx hy (or_tb g2 hxy)
    have c1 := co_or (e := e) hx g1
    have c2 := co_or (e := e) hy g2
    have c3 := co_or (e := e) hy (or_tb g2 hxy)
    have c4 := co_or (e := e) hx (or_tb g1 (Ne.symm hxy))
    rw [or_swap s (2 ^ y) (2 ^ x)] at c4
    have d := hM.dim (u := sdf (2 ^ e - 1) (s ||| 2 ^ x ||| 2 ^ y)) (t := 2 ^ y) (s := 2 ^ x) co_lt (bit_lt hy) (bit_lt hx)
    rw [c3, c4, c1] at d
    have g0 := hge s hs
    have g3 := hge _ hsx
    have g4 := hge _ hsy
    have g5 := hge _ (or_lt hsx (bit_lt hy))
    unfold dualR
    omega
theorem Mtr.congr {rk2 : Nat → Nat} (hM : Mtr e rk) (h : ∀ s, s < 2 ^ e → rk s = rk2 s) : Mtr e rk2 := by
  obtain ⟨he, h0, h1, h2⟩ := hM
  refine ⟨he, by rw [← h 0 (p2_pos e)]; exact h0, fun s x hs hx => ?_, fun s x y hs hx hy q1 q2 => ?_⟩
  · rw [← h s hs, ← h _ (or_lt hs (bit_lt hx))]
    exact h1 s x hs hx
  · rw [← h s hs, ← h _ (or_lt hs (bit_lt hx))] at q1
    rw [← h s hs, ← h _ (or_lt hs (bit_lt hy))] at q2
    rw [← h s hs, ← h _ (or_lt (or_lt hs (bit_lt hx)) (bit_lt hy))]
    exact h2 s x y hs hx hy q1 q2
end A0
