/-! A matroid's ranks: what follows from the local rules -/
def sbs (s t : Nat) : Prop := ∀ i, s.testBit i = true → t.testBit i = true
theorem sbs_or {s t : Nat} (h : sbs s t) : s ||| t = t := by
  apply Nat.eq_of_testBit_eq
  intro i
  rw [Nat.testBit_or]
  by_cases q : s.testBit i = true
  · rw [q, h i q]; rfl
  · rw [Bool.not_eq_true] at q
    rw [q, Bool.false_or]
theorem p2_testBit {k i : Nat} : (2 ^ k).testBit i = decide (k = i) := Nat.testBit_two_pow
theorem pre_y {t k : Nat} (h : t.testBit k = true) : t % 2 ^ (k + 1) = t % 2 ^ k ||| 2 ^ k := by
  apply Nat.eq_of_testBit_eq
  intro i
  rw [Nat.testBit_or, Nat.testBit_mod_two_pow, Nat.testBit_mod_two_pow, p2_testBit]
  by_cases e : k = i
  · subst e; rw [h]; simp
  · by_cases g : i < k
    · rw [decide_eq_true (show i < k + 1 by omega), decide_eq_true g, decide_eq_false e]; simp
    · rw [decide_eq_false (show ¬ i < k + 1 by omega), decide_eq_false g, decide_eq_false e]; simp
theorem pre_n {t k : Nat} (h : ¬ t.testBit k = true) : t % 2 ^ (k + 1) = t % 2 ^ k := by
  rw [Bool.not_eq_true] at h
  apply Nat.eq_of_testBit_eq
  intro i
  rw [Nat.testBit_mod_two_pow, Nat.testBit_mod_two_pow]
  by_cases e : k = i
  · subst e; rw [h]; simp
  · by_cases g : i < k
    · rw [decide_eq_true (show i < k + 1 by omega), decide_eq_true g]
    · rw [decide_eq_false (show ¬ i < k + 1 by omega), decide_eq_false g]
theorem mod_lt2 {t k e : Nat} (hk : k ≤ e) : t % 2 ^ k < 2 ^ e := Nat.lt_of_lt_of_le (Nat.mod_lt _ (Nat.two_pow_pos k)) (Nat.pow_le_pow_right (by decide) hk)
section Mt
variable {e : Nat} {rk : Nat → Nat}
theorem Mtr.up (hM : Mtr e rk) {s t : Nat} (hs : s < 2 ^ e) : ∀ k, k ≤ e → rk s ≤ rk (s ||| t % 2 ^ k) ∧ rk (s ||| t % 2 ^ k) ≤ rk s + cnt (fun i => t.testBit i) k := by
  intro k
  induction k with
  | zero =>
    intro _
    rw [show t % 2 ^ 0 = 0 by simp [Nat.mod_one], Nat.or_zero]
    exact ⟨Nat.le_refl _, Nat.le_add_right _ _⟩
  | succ k ih =>
    intro hk
    have h1 := ih (by omega)
    by_cases q : t.testBit k = true
    · rw [pre_y q, ← Nat.or_assoc, cnt_y (p := fun i => t.testBit i) q]
      have := hM.2.2.1 (s ||| t % 2 ^ k) k (or_lt hs (mod_lt2 (by omega))) (by omega)
      omega
    · rw [pre_n q, cnt_n (p := fun i => t.testBit i) q]
      exact h1
theorem Mtr.add (hM : Mtr e rk) {s t : Nat} (hs : s < 2 ^ e) (ht : t < 2 ^ e) : rk s ≤ rk (s ||| t) ∧ rk (s ||| t) ≤ rk s + bc t := by
  have h := hM.up (t := t) hs e (Nat.le_refl e)
  rw [Nat.mod_eq_of_lt ht, cnt_bc e (by have := hM.1; omega) t ht] at h
  exact h
theorem Mtr.mono (hM : Mtr e rk) {s t : Nat} (ht : t < 2 ^ e) (h : sbs s t) : rk s ≤ rk t := by
  have hs : s < 2 ^ e := by
    rw [← sbs_or h] at ht
    exact Nat.lt_of_le_of_lt (Nat.left_le_or) ht
  have := (hM.add hs ht).1
  rwa [sbs_or h] at this
theorem Mtr.le_bc (hM : Mtr e rk) {s : Nat} (hs : s < 2 ^ e) : rk s ≤ bc s := by
  have := (hM.add (s := 0) (Nat.two_pow_pos e) hs).2
  rw [Nat.zero_or, hM.2.1] at this
  omega
theorem sbs_all {e s : Nat} (hs : s < 2 ^ e) : sbs s (2 ^ e - 1) := by
  intro i hi
  rw [Nat.testBit_two_pow_sub_one]
  apply decide_eq_true
  apply Classical.byContradiction
  intro g
  rw [Nat.testBit_lt_two_pow (Nat.lt_of_lt_of_le hs (Nat.pow_le_pow_right (by decide) (by omega)))] at hi
  cases hi
theorem Mtr.le_all (hM : Mtr e rk) {s : Nat} (hs : s < 2 ^ e) : rk s ≤ rk (2 ^ e - 1) := hM.mono (by have := Nat.two_pow_pos e; omega) (sbs_all hs)
theorem Mtr.le10 (hM : Mtr e rk) {s : Nat} (hs : s < 2 ^ e) : rk s ≤ 10 := Nat.le_trans (hM.le_bc hs) (bc_le s)
/-- what spans elements one by one spans them all -/
theorem Mtr.span (hM : Mtr e rk) {u t : Nat} (hu : u < 2 ^ e) (h : ∀ x, x < e → t.testBit x = true → rk (u ||| 2 ^ x) = rk u) : ∀ k, k ≤ e → rk (u ||| t % 2 ^ k) = rk u ∧ ∀ y, y < e → rk (u ||| 2 ^ y) = rk u → rk (u ||| t % 2 ^ k ||| 2 ^ y) = rk u := by
  intro k
  induction k with
  | zero =>
    intro _
    rw [show t % 2 ^ 0 = 0 by simp [Nat.mod_one], Nat.or_zero]
    exact ⟨rfl, fun y _ hy => hy⟩
  | succ k ih =>
    intro hk
    obtain ⟨h1, h2⟩ := ih (by omega)
    by_cases q : t.testBit k = true
    · have h3 := h2 k (by omega) (h k (by omega) q)
      rw [pre_y q, ← Nat.or_assoc]
      refine ⟨h3, fun y hy hy2 => ?_⟩
      have h4 := h2 y hy hy2
      have := hM.2.2.2 (u ||| t % 2 ^ k) k y (or_lt hu (mod_lt2 (by omega))) (by omega) hy (by omega) (by omega)
      omega
    · rw [pre_n q]
      exact ⟨h1, h2⟩
theorem bc_add1 : ∀ u, u < 1024 → ∀ x, x < 10 → ¬ u.testBit x = true → bc (u ||| 2 ^ x) = bc u + 1 := by decide +kernel
theorem or_bit_same {u x : Nat} (h : u.testBit x = true) : u ||| 2 ^ x = u := by
  rw [Nat.or_comm]
  exact sbs_or (fun i hi => by
    rw [p2_testBit] at hi
    have := of_decide_eq_true hi
    subst this
    exact h)
/-- an independent set grows to one that has all of a set's rank -/
theorem Mtr.grow (hM : Mtr e rk) {s : Nat} (hs : s < 2 ^ e) : ∀ n u, u < 2 ^ e → 10 - bc u ≤ n → sbs u s → rk u = bc u → ∃ t, t < 2 ^ e ∧ sbs u t ∧ sbs t s ∧ rk t = bc t ∧ rk t = rk s := by
  have he := hM.1
  have hp := p2_le he
  intro n
  induction n with
  | zero =>
    intro u hu hn hus hru
    refine ⟨u, hu, fun _ h => h, hus, hru, Nat.le_antisymm (hM.mono hs hus) ?_⟩
    have := hM.le10 hs
    omega
  | succ n ih =>
    intro u hu hn hus hru
    by_cases hall : ∀ x, x < e → s.testBit x = true → rk (u ||| 2 ^ x) = rk u
    · refine ⟨u, hu, fun _ h => h, hus, hru, ?_⟩
      have h1 := (hM.span hu hall e (Nat.le_refl e)).1
      rw [Nat.mod_eq_of_lt hs, sbs_or hus] at h1
      exact h1.symm
    · obtain ⟨x, hx⟩ := Classical.not_forall.mp hall
      obtain ⟨hxe, hx2⟩ := Classical.not_imp.mp hx
      obtain ⟨hxs, hx3⟩ := Classical.not_imp.mp hx2
      have h1 := hM.2.2.1 u x hu hxe
      have hxu : ¬ u.testBit x = true := fun q => hx3 (by rw [or_bit_same q])
      have hb := bc_add1 u (by omega) x (by omega) hxu
      have hlt : u ||| 2 ^ x < 2 ^ e := or_lt hu (bit_lt hxe)
      have hle := bc_le (u ||| 2 ^ x)
      have hsub : sbs (u ||| 2 ^ x) s := fun i hi => by
        rw [Nat.testBit_or, Bool.or_eq_true] at hi
        rcases hi with hi | hi
        · exact hus i hi
        · rw [p2_testBit] at hi
          have := of_decide_eq_true hi
          subst this
          exact hxs
      obtain ⟨t, t1, t2, t3, t4, t5⟩ := ih (u ||| 2 ^ x) hlt (by omega) hsub (by omega)
      exact ⟨t, t1, fun i hi => t2 i (by rw [Nat.testBit_or, hi]; rfl), t3, t4, t5⟩
theorem Mtr.inner (hM : Mtr e rk) {s : Nat} (hs : s < 2 ^ e) : ∃ t, t < 2 ^ e ∧ sbs t s ∧ rk t = bc t ∧ rk t = rk s := by
  obtain ⟨t, t1, -, t3⟩ := hM.grow hs 10 0 (Nat.two_pow_pos e) (by omega) (fun i hi => by rw [Nat.zero_testBit] at hi; cases hi) (by rw [hM.2.1]; rfl)
  exact ⟨t, t1, t3⟩
end Mt
