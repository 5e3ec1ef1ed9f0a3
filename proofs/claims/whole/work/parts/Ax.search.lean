/-! The mathematics: what the class's search for images finds: the least ones *-/
section Ax
variable {e : Nat} {P Q : Nat → Int32} {C W : Nat → Nat}
def CExt (P Q : Nat → Int32) (C W : Nat → Nat) (e used many : Nat) (im : Nat → Nat) : Prop := ∀ k, many ≤ k → k < e → im k < e ∧ used.testBit (im k) = false ∧ (∀ j, many ≤ j → j < k → im j ≠ im k) ∧ P k = Q (im k) ∧ ∀ s, s < 2 ^ k → C (s + 2 ^ k) = W (imO im s (2 ^ im k) k)
theorem imO_cg {im im2 : Nat → Nat} {s b : Nat} : ∀ k, (∀ j, j < k → im j = im2 j) → imO im s b k = imO im2 s b k := by
  intro k
  induction k with
  | zero => intro _; rfl
  | succ k ih =>
    intro h
    unfold imO
    rw [ih (fun j hj => h j (by omega)), h k (by omega)]
theorem imO_base {im : Nat → Nat} {s b : Nat} : ∀ k, imO im s b k = imO im s 0 k ||| b := by
  intro k
  induction k with
  | zero => show b = 0 ||| b; rw [Nat.zero_or]
  | succ k ih =>
    unfold imO
    rw [ih, Nat.or_assoc, Nat.or_comm b, ← Nat.or_assoc]
theorem imO_next {im : Nat → Nat} {s b k : Nat} (hs : s < 2 ^ k) : imO im (s + 2 ^ k) b (k + 1) = imO im s b k ||| 2 ^ im k := by
  have e1 : s + 2 ^ k = s ||| 2 ^ k := by
    have q := Nat.two_pow_add_eq_or_of_lt hs 1
    rw [Nat.mul_one] at q
    rw [Nat.add_comm, q, Nat.or_comm]
  have e2 : ∀ n, n ≤ k → imO im (s + 2 ^ k) b n = imO im s b n := by
    intro n
    induction n with
    | zero => intro _; rfl
    | succ n ih =>
      intro hn
      unfold imO
      rw [ih (by omega), e1, Nat.testBit_or, p2_testBit, decide_eq_false (show ¬ k = n by omega), Bool.or_false]
  show imO im (s + 2 ^ k) b k ||| (if (s + 2 ^ k).testBit k = true then 2 ^ im k else 0) = _
  rw [e2 k (Nat.le_refl k), if_pos (by rw [e1, Nat.testBit_or, p2_testBit, decide_eq_true rfl, Bool.or_true])]
theorem imO_low {im : Nat → Nat} {s b k : Nat} (hs : s < 2 ^ k) : imO im s b (k + 1) = imO im s b k := by
  show imO im s b k ||| (if s.testBit k = true then 2 ^ im k else 0) = _
  rw [if_neg (by rw [Nat.testBit_lt_two_pow hs]; exact Bool.false_ne_true), Nat.or_zero]
theorem put_im {Im im : Nat → Nat} {el n : Nat} (h : ∀ s, s < 2 ^ el → Im s = imO im s 0 el) : ∀ s, s < 2 ^ (el + 1) → putN Im el n s = imO (up im el n) s 0 (el + 1) := by
  intro s hs
  have hp := p2_pos el
  have hs2 : s < 2 ^ el + 2 ^ el := by rw [Nat.pow_succ] at hs; omega
  have cg : ∀ s, imO (up im el n) s 0 el = imO im s 0 el := fun s => imO_cg el (fun j hj => up_n (by omega))
  unfold putN
  by_cases g : 2 ^ el ≤ s
  · rw [if_pos ⟨g, hs2⟩, h (s - 2 ^ el) (by omega)]
    have q := imO_next (im := up im el n) (s := s - 2 ^ el) (b := 0) (k := el) (by omega)
    rw [Nat.sub_add_cancel g, cg, up_s] at q
    exact q.symm
  · rw [if_neg (fun z => g z.1), h s (by omega), imO_low (by omega), cg]
theorem fit_is {Im im : Nat → Nat} {el n : Nat} (h : ∀ s, s < 2 ^ el → Im s = imO im s 0 el) : fitN P Q C W Im el n = true ↔ P el = Q n ∧ ∀ s, s < 2 ^ el → C (s + 2 ^ el) = W (imO im s (2 ^ n) el) := by
  unfold fitN
  rw [Bool.and_eq_true, decide_eq_true_eq, allB_iff]
  constructor
  · rintro ⟨h1, h2⟩
    refine ⟨h1, fun s hs => ?_⟩
    rw [imO_base, ← h s hs]
    exact of_decide_eq_true (h2 s hs)
  · rintro ⟨h1, h2⟩
    refine ⟨h1, fun s hs => ?_⟩
    have q := h2 s hs
    rw [imO_base, ← h s hs] at q
    exact decide_eq_true q
theorem CExt.cons {used el n : Nat} {im : Nat → Nat} (hn : n < e) (hu : used.testBit n = false) (hi : im el = n) (hp : P el = Q n) (hf : ∀ s, s < 2 ^ el → C (s + 2 ^ el) = W (imO im s (2 ^ n) el)) (h : CExt P Q C W e (used ||| 2 ^ n) (el + 1) im) : CExt P Q C W e used el im := by
  intro k hk1 hk2
  by_cases g : k = el
  · subst g
    exact ⟨by omega, by rw [hi]; exact hu, fun j h1 h2 => by omega, by rw [hi]; exact hp, by rw [hi]; exact hf⟩
  · obtain ⟨a1, a2, a3, a4⟩ := h k (by omega) hk2
    rw [Nat.testBit_or, p2_testBit, Bool.or_eq_false_iff] at a2
    refine ⟨a1, a2.1, fun j h1 h2 => ?_, a4⟩
    by_cases gj : j = el
    · subst gj
      rw [hi]
      exact of_decide_eq_false a2.2
    · exact a3 j (by omega) h2
theorem CExt.tail {used el : Nat} {im : Nat → Nat} (hel : el < e) (h : CExt P Q C W e used el im) : CExt P Q C W e (used ||| 2 ^ im el) (el + 1) im := by
  intro k hk1 hk2
  obtain ⟨a1, a2, a3, a4⟩ := h k (by omega) hk2
  refine ⟨a1, ?_, fun j h1 h2 => a3 j (by omega) h2, a4⟩
  rw [Nat.testBit_or, p2_testBit, a2, Bool.false_or]
  exact decide_eq_false (a3 el (Nat.le_refl _) (by omega))
theorem plc_ok : ∀ (f el used : Nat) (Im im : Nat → Nat), el + f = e → (∀ s, s < 2 ^ el → Im s = imO im s 0 el) → ((plcN P Q C W e f el used Im).1 = true ∧ ∃ im', (∀ j, j < el → im' j = im j) ∧ (∀ s, s < 2 ^ e → (plcN P Q C W e f el used Im).2 s = imO im' s 0 e) ∧ CExt P Q C W e used el im' ∧ ∀ im2 : Nat → Nat, (∀ j, j < el → im2 j = im j) → CExt P Q C W e used el im2 → LexLe e im' im2) ∨ ((plcN P Q C W e f el used Im).1 = false ∧ (∀ s, s < 2 ^ el → (plcN P Q C W e f el used Im).2 s = Im s) ∧ ∀ im2 : Nat → Nat, (∀ j, j < el → im2 j = im j) → ¬ CExt P Q C W e used el im2) := by
  intro f
  induction f with
  | zero =>
    intro el used Im im he h
    have hel : el = e := by omega
    subst hel
    exact Or.inl ⟨rfl, im, fun _ _ => rfl, h, fun k h1 h2 => by omega, fun im2 h2 _ => Or.inl (fun j hj => (h2 j hj).symm)⟩
  | succ f ih =>
    intro el used Im im he h
    have hel : el < e := by omega
    have key : ∀ n, n ≤ e → ((tryL (fun n I9 => plcN P Q C W e f (el + 1) (used ||| 2 ^ n) (putN I9 el n)) (fun n I9 => !used.testBit n && fitN P Q C W I9 el n) Im n).1 = true ∧ ∃ im', (∀ j, j < el → im' j = im j) ∧ (∀ s, s < 2 ^ e → (tryL (fun n I9 => plcN P Q C W e f (el + 1) (used ||| 2 ^ n) (putN I9 el n)) (fun n I9 => !used.testBit n && fitN P Q C W I9 el n) Im n).2 s = imO im' s 0 e) ∧ CExt P Q C W e used el im' ∧ ∀ im2 : Nat → Nat, (∀ j, j < el → im2 j = im j) → CExt P Q C W e used el im2 → LexLe e im' im2) ∨ ((tryL (fun n I9 => plcN P Q C W e f (el + 1) (used ||| 2 ^ n) (putN I9 el n)) (fun n I9 => !used.testBit n && fitN P Q C W I9 el n) Im n).1 = false ∧ (∀ s, s < 2 ^ el → (tryL (fun n I9 => plcN P Q C W e f (el + 1) (used ||| 2 ^ n) (putN I9 el n)) (fun n I9 => !used.testBit n && fitN P Q C W I9 el n) Im n).2 s = Im s) ∧ ∀ im2 : Nat → Nat, (∀ j, j < el → im2 j = im j) → CExt P Q C W e used el im2 → n ≤ im2 el) := by
      intro n
      induction n with
      | zero => intro _; exact Or.inr ⟨rfl, fun _ _ => rfl, fun _ _ _ => Nat.zero_le _⟩
      | succ n ihn =>
        intro hn
        have i := ihn (by omega)
        unfold tryL
        generalize hT : tryL (fun n I9 => plcN P Q C W e f (el + 1) (used ||| 2 ^ n) (putN I9 el n)) (fun n I9 => !used.testBit n && fitN P Q C W I9 el n) Im n = T at i ⊢
        rcases i with ⟨i1, i2⟩ | ⟨i1, i2, i3⟩
        · rw [if_pos i1]; exact Or.inl ⟨i1, i2⟩
        · rw [if_neg (by rw [i1]; exact Bool.false_ne_true)]
          have hT2 : ∀ s, s < 2 ^ el → T.2 s = imO im s 0 el := fun s hs => by rw [i2 s hs]; exact h s hs
          have ok1 : ∀ im2 : Nat → Nat, (∀ j, j < el → im2 j = im j) → (∀ s, s < 2 ^ el → imO im2 s (2 ^ n) el = imO im s (2 ^ n) el) := fun im2 h2 s _ => imO_cg el h2
          by_cases g : (!used.testBit n && fitN P Q C W T.2 el n) = true
          · rw [if_pos g]
            rw [Bool.and_eq_true, Bool.not_eq_true', fit_is hT2] at g
            obtain ⟨g1, g2, g3⟩ := g
            have q := ih (el + 1) (used ||| 2 ^ n) (putN T.2 el n) (up im el n) (by omega) (put_im hT2)
            have agr : ∀ im2 : Nat → Nat, (∀ j, j < el → im2 j = im j) → im2 el = n → ∀ j, j < el + 1 → im2 j = up im el n j := fun im2 h2 h3 j hj => by
              by_cases gj : j = el
              · subst gj; rw [up_s]; exact h3
              · rw [up_n gj]; exact h2 j (by omega)
            have tl : ∀ im2 : Nat → Nat, CExt P Q C W e used el im2 → im2 el = n → CExt P Q C W e (used ||| 2 ^ n) (el + 1) im2 := fun im2 h2 h3 => by
              have z := h2.tail hel
              rw [h3] at z
              exact z
            rcases q with ⟨q1, im', q2, q3, q4, q5⟩ | ⟨q1, q2, q3⟩
            · have e1 : ∀ j, j < el → im' j = im j := fun j hj => by rw [q2 j (by omega), up_n (by omega)]
              have e2 : im' el = n := by rw [q2 el (by omega), up_s]
              refine Or.inl ⟨q1, im', e1, q3, CExt.cons (by omega) g1 e2 g2 (fun s hs => by rw [g3 s hs, ok1 im' e1 s hs]) q4, fun im2 h2 h3 => ?_⟩
              have h4 := i3 im2 h2 h3
              by_cases gn : im2 el = n
              · exact q5 im2 (agr im2 h2 gn) (tl im2 h3 gn)
              · exact Or.inr ⟨el, hel, fun j hj => by rw [e1 j hj, h2 j hj], by omega⟩
            · refine Or.inr ⟨q1, fun s hs => ?_, fun im2 h2 h3 => ?_⟩
              · have hp := p2_pos el
                have e3 := q2 s (by rw [Nat.pow_succ]; omega)
                show (plcN P Q C W e f (el + 1) (used ||| 2 ^ n) (putN T.2 el n)).2 s = Im s
                rw [e3]
                unfold putN
                rw [if_neg (by omega)]
                exact i2 s hs
              · have h4 := i3 im2 h2 h3
                by_cases gn : im2 el = n
                · exact absurd (tl im2 h3 gn) (q3 im2 (agr im2 h2 gn))
                · omega
          · rw [if_neg g]
            refine Or.inr ⟨i1, i2, fun im2 h2 h3 => ?_⟩
            have h4 := i3 im2 h2 h3
            by_cases gn : im2 el = n
            · exfalso
              obtain ⟨a1, a2, a3, a4, a5⟩ := h3 el (Nat.le_refl _) hel
              rw [gn] at a2 a4 a5
              refine g ?_
              rw [Bool.and_eq_true, Bool.not_eq_true', fit_is hT2]
              exact ⟨a2, a4, fun s hs => by rw [a5 s hs, ok1 im2 h2 s hs]⟩
            · omega
    have k2 := key e (Nat.le_refl e)
    unfold plcN
    rcases k2 with z | ⟨z1, z2, z3⟩
    · exact Or.inl z
    · refine Or.inr ⟨z1, z2, fun im2 h2 h3 => ?_⟩
      have := z3 im2 h2 h3
      have := (h3 el (Nat.le_refl _) hel).1
      omega
end Ax
