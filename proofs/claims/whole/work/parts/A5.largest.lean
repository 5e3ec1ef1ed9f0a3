/-! The mathematics: the largest marked set inside: both fillings give it *-/
section A5
variable {e : Nat}
theorem sbs_and {q s : Nat} : sbs q s ↔ q &&& s = q := by
  constructor
  · intro h
    apply Nat.eq_of_testBit_eq
    intro i
    rw [Nat.testBit_and]
    cases hb : q.testBit i
    · rfl
    · rw [h i hb]; rfl
  · intro h i hi
    have q2 : (q &&& s).testBit i = true := by rw [h]; exact hi
    rw [Nat.testBit_and, Bool.and_eq_true] at q2
    exact q2.2
theorem sbs_refl (s : Nat) : sbs s s := fun _ h => h
theorem sbs_tr {a b c : Nat} (h : sbs a b) (h2 : sbs b c) : sbs a c := fun i hi => h2 i (h i hi)
theorem sbs_zero (s : Nat) : sbs 0 s := fun i hi => by rw [Nat.zero_testBit] at hi; cases hi
theorem sbs_rem (s k : Nat) : sbs (sdf s (2 ^ k)) s := fun i hi => by
  rw [sdf_bit, Bool.and_eq_true] at hi
  exact hi.1
theorem sbs_le {q s : Nat} (h : sbs q s) : q ≤ s := by rw [← sbs_and.mp h]; exact Nat.and_le_right
theorem sbs_step {q s : Nat} (hs : s < 2 ^ e) (h : sbs q s) (hne : q ≠ s) : ∃ k, k < e ∧ s.testBit k = true ∧ sbs q (sdf s (2 ^ k)) := by
  have h0 : sdf s q ≠ 0 := fun z => hne (Nat.eq_of_testBit_eq fun i => by
    have b : (sdf s q).testBit i = false := by rw [z, Nat.zero_testBit]
    rw [sdf_bit] at b
    cases hb : q.testBit i
    · rw [hb] at b
      cases hs2 : s.testBit i
      · rfl
      · rw [hs2] at b; cases b
    · exact (h i hb).symm)
  obtain ⟨k, hk, hb⟩ := some_bit (sdf_lt hs) h0
  rw [sdf_bit, Bool.and_eq_true, Bool.not_eq_true'] at hb
  refine ⟨k, hk, hb.1, fun i hi => ?_⟩
  rw [sdf_bit, h i hi, p2_testBit]
  by_cases g : k = i
  · subst g; rw [hb.2] at hi; cases hi
  · rw [decide_eq_false g]; rfl
theorem rem_lt {s k : Nat} (h : s.testBit k = true) : sdf s (2 ^ k) < s := by
  have a := sdf_le s (2 ^ k)
  have b : sdf s (2 ^ k) ≠ s := fun z => by
    have c := rem_nt (s := s) (k := k)
    rw [z] at c
    exact c h
  omega
/-- r s is the size of a largest marked set inside s (0 if none) -/
def Lrg (p : Nat → Bool) (e : Nat) (r : Nat → Nat) : Prop := ∀ s, s < 2 ^ e → (∃ q, sbs q s ∧ (p q = true ∨ q = 0) ∧ bc q = r s) ∧ ∀ q, sbs q s → p q = true → bc q ≤ r s
theorem Lrg.same {p p2 : Nat → Bool} {r r2 : Nat → Nat} (he : e ≤ 10) (h : Lrg p e r) (h2 : Lrg p2 e r2) (hp : ∀ s, s < 2 ^ e → p s = p2 s) {s : Nat} (hs : s < 2 ^ e) : r s = r2 s := by
  obtain ⟨⟨q, a1, a2, a3⟩, b⟩ := h s hs
  obtain ⟨⟨q2, c1, c2, c3⟩, d⟩ := h2 s hs
  have b0 : bc 0 = 0 := rfl
  have l1 : r s ≤ r2 s := by
    rcases a2 with z | z
    · rw [← a3]; exact d q a1 (by rw [← hp q (Nat.lt_of_le_of_lt (sbs_le a1) hs)]; exact z)
    · subst z; omega
  have l2 : r2 s ≤ r s := by
    rcases c2 with z | z
    · rw [← c3]; exact b q2 c1 (by rw [hp q2 (Nat.lt_of_le_of_lt (sbs_le c1) hs)]; exact z)
    · subst z; omega
  omega
theorem le_maxB {p : Nat → Nat} {n k : Nat} (hk : k < n) : p k ≤ maxB p n := by
  induction n with
  | zero => omega
  | succ n ih =>
    show p k ≤ max (maxB p n) (p n)
    by_cases g : k = n
    · subst g; omega
    · have := ih (by omega)
      omega
theorem maxB_at {p : Nat → Nat} : ∀ n, maxB p n = 0 ∨ ∃ k, k < n ∧ maxB p n = p k := by
  intro n
  induction n with
  | zero => exact Or.inl rfl
  | succ n ih =>
    have q : maxB p (n + 1) = max (maxB p n) (p n) := rfl
    by_cases g : maxB p n ≤ p n
    · exact Or.inr ⟨n, by omega, by omega⟩
    · rcases ih with z | ⟨k, z1, z2⟩
      · omega
      · exact Or.inr ⟨k, by omega, by omega⟩
theorem rkT_at {g : Nat → Nat} {j : Nat} : ∀ n, j < n → rkT g e n j = if g j ≠ 0 then bc j else maxB (fun k => if j.testBit k then rkT g e j (j ^^^ 2 ^ k) else 0) e := by
  intro n
  induction n with
  | zero => intro h; omega
  | succ n ih =>
    intro h
    show (if j = n then _ else rkT g e n j) = _
    by_cases q : j = n
    · subst q; rw [if_pos rfl]
    · rw [if_neg q]; exact ih (by omega)
theorem bc_sb2 {q s : Nat} (hs : s < 1024) (h : sbs q s) : bc q ≤ bc s := by
  induction s using Nat.strongRecOn generalizing q with
  | _ s ih =>
    by_cases g : q = s
    · subst g; exact Nat.le_refl _
    · obtain ⟨k, hk, hb, hq⟩ := sbs_step (e := 10) (s := s) hs h g
      have a := ih (sdf s (2 ^ k)) (rem_lt hb) (Nat.lt_of_le_of_lt (sdf_le _ _) hs) hq
      have b := bc_rem (e := 10) (Nat.le_refl _) hs hk hb
      omega
theorem bc_sbs (he : e ≤ 10) {q s : Nat} (hs : s < 2 ^ e) (h : sbs q s) : bc q ≤ bc s := bc_sb2 (Nat.lt_of_lt_of_le hs (p2_le he)) h
theorem LrgT {p : Nat → Bool} (he : e ≤ 10) : Lrg p e (rkT (fun s => b2n (p s)) e (2 ^ e)) := by
  have key : ∀ n s, s < n → n ≤ 2 ^ e → (∃ q, sbs q s ∧ (p q = true ∨ q = 0) ∧ bc q = rkT (fun s => b2n (p s)) e n s) ∧ ∀ q, sbs q s → p q = true → bc q ≤ rkT (fun s => b2n (p s)) e n s := by
    intro n
    induction n using Nat.strongRecOn with
    | _ n ih =>
      intro s hs hn
      have hse : s < 2 ^ e := by omega
      rw [rkT_at n hs]
      by_cases g : p s = true
      · rw [if_pos (show b2n (p s) ≠ 0 by rw [g]; decide)]
        exact ⟨⟨s, sbs_refl s, Or.inl g, rfl⟩, fun q h1 h2 => bc_sbs he hse h1⟩
      · rw [if_neg (show ¬ b2n (p s) ≠ 0 by rw [Bool.not_eq_true] at g; rw [g]; decide)]
        constructor
        · rcases maxB_at (p := fun k => if s.testBit k then rkT (fun s => b2n (p s)) e s (s ^^^ 2 ^ k) else 0) e with z | ⟨k, hk, z⟩
          · exact ⟨0, sbs_zero s, Or.inr rfl, by rw [z]; rfl⟩
          · rw [z]
            show ∃ q, _ ∧ _ ∧ bc q = (if s.testBit k then _ else 0)
            by_cases hb : s.testBit k = true
            · rw [if_pos hb, xor_in hb]
              obtain ⟨⟨q, q1, q2, q3⟩, -⟩ := ih s hs (sdf s (2 ^ k)) (rem_lt hb) (by omega)
              exact ⟨q, sbs_tr q1 (sbs_rem s k), q2, q3⟩
            · rw [if_neg hb]
              exact ⟨0, sbs_zero s, Or.inr rfl, rfl⟩
        · intro q h1 h2
          obtain ⟨k, hk, hb, hq⟩ := sbs_step hse h1 (fun z => g (by rw [← z]; exact h2))
          have a := (ih s hs (sdf s (2 ^ k)) (rem_lt hb) (by omega)).2 q hq h2
          have b := le_maxB (p := fun k => if s.testBit k then rkT (fun s => b2n (p s)) e s (s ^^^ 2 ^ k) else 0) hk
          rw [if_pos hb, xor_in hb] at b
          exact Nat.le_trans a b
  exact fun s hs => key (2 ^ e) s hs (Nat.le_refl _)
theorem filB_at {g : Nat → Nat} {s b0 : Nat} : ∀ n, (filB g s b0 n = b0 ∨ ∃ k, k < n ∧ s.testBit k = true ∧ filB g s b0 n = g (sdf s (2 ^ k))) ∧ b0 ≤ filB g s b0 n ∧ ∀ k, k < n → s.testBit k = true → g (sdf s (2 ^ k)) ≤ filB g s b0 n := by
  intro n
  induction n with
  | zero => exact ⟨Or.inl rfl, Nat.le_refl _, fun k hk => absurd hk (Nat.not_lt_zero k)⟩
  | succ n ih =>
    obtain ⟨i1, i2, i3⟩ := ih
    have q : filB g s b0 (n + 1) = if s.testBit n = true then max (filB g s b0 n) (g (sdf s (2 ^ n))) else filB g s b0 n := rfl
    rw [q]
    by_cases hb : s.testBit n = true
    · rw [if_pos hb]
      refine ⟨?_, by omega, fun k hk hk2 => ?_⟩
      · by_cases gg : filB g s b0 n ≤ g (sdf s (2 ^ n))
        · exact Or.inr ⟨n, by omega, hb, by omega⟩
        · rcases i1 with z | ⟨k, z1, z2, z3⟩
          · exact Or.inl (by omega)
          · exact Or.inr ⟨k, by omega, z2, by omega⟩
      · by_cases gk : k = n
        · subst gk; omega
        · have := i3 k (by omega) hk2
          omega
    · rw [if_neg hb]
      refine ⟨?_, i2, fun k hk hk2 => ?_⟩
      · rcases i1 with z | ⟨k, z1, z2, z3⟩
        · exact Or.inl z
        · exact Or.inr ⟨k, by omega, z2, z3⟩
      · by_cases gk : k = n
        · subst gk; exact absurd hk2 hb
        · exact i3 k (by omega) hk2
theorem filN_at {fr : Nat → Bool} {G0 : Nat → Nat} {j : Nat} : ∀ n, j < n → filN fr e G0 n j = filB (filN fr e G0 j) j (if fr j = true then bc j else 0) e := by
  intro n
  induction n with
  | zero => intro h; omega
  | succ n ih =>
    intro h
    show up (filN fr e G0 n) n (filB (filN fr e G0 n) n (if fr n = true then bc n else 0) e) j = _
    by_cases q : j = n
    · subst q; rw [up_s]
    · rw [up_n q]; exact ih (by omega)
theorem LrgF {p : Nat → Bool} {G0 : Nat → Nat} (he : e ≤ 10) : Lrg p e (filN p e G0 (2 ^ e)) := by
  have key : ∀ n s, s < n → n ≤ 2 ^ e → (∃ q, sbs q s ∧ (p q = true ∨ q = 0) ∧ bc q = filN p e G0 n s) ∧ ∀ q, sbs q s → p q = true → bc q ≤ filN p e G0 n s := by
    intro n
    induction n using Nat.strongRecOn with
    | _ n ih =>
      intro s hs hn
      have hse : s < 2 ^ e := by omega
      rw [filN_at n hs]
      obtain ⟨i1, i2, i3⟩ := filB_at (g := filN p e G0 s) (s := s) (b0 := if p s = true then bc s else 0) e
      constructor
      · rcases i1 with z | ⟨k, hk, hb, z⟩
        · rw [z]
          by_cases g : p s = true
          · rw [if_pos g]; exact ⟨s, sbs_refl s, Or.inl g, rfl⟩
          · rw [if_neg g]; exact ⟨0, sbs_zero s, Or.inr rfl, rfl⟩
        · rw [z]
          obtain ⟨⟨q, q1, q2, q3⟩, -⟩ := ih s hs (sdf s (2 ^ k)) (rem_lt hb) (by omega)
          exact ⟨q, sbs_tr q1 (sbs_rem s k), q2, q3⟩
      · intro q h1 h2
        by_cases g : q = s
        · subst g
          rw [if_pos h2] at i2 ⊢
          exact i2
        · obtain ⟨k, hk, hb, hq⟩ := sbs_step hse h1 g
          have a := (ih s hs (sdf s (2 ^ k)) (rem_lt hb) (by omega)).2 q hq h2
          exact Nat.le_trans a (i3 k hk hb)
  exact fun s hs => key (2 ^ e) s hs (Nat.le_refl _)
end A5
