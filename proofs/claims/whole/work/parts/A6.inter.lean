/-! The mathematics: two matroids' common independent sets -/
section A6
variable {e : Nat} {r1 r2 : Nat → Nat}
theorem Mtr.subm {rk : Nat → Nat} (hM : Mtr e rk) {A B P Q : Nat} (hA : A < 2 ^ e) (hB : B < 2 ^ e) (hP : sbs P (A ||| B)) (hQ : sbs Q (A &&& B)) : rk P + rk Q ≤ rk A + rk B := by
  have a := hM.sub hA hB
  have b := hM.mono (or_lt hA hB) hP
  have c := hM.mono (Nat.lt_of_le_of_lt Nat.and_le_left hA) hQ
  omega
theorem Mtr.spanAll {rk : Nat → Nat} (hM : Mtr e rk) {u t : Nat} (hu : u < 2 ^ e) (ht : t < 2 ^ e) (h : ∀ x, x < e → t.testBit x = true → rk (u ||| 2 ^ x) = rk u) : rk (u ||| t) = rk u := by
  have q := (hM.span (t := t) hu h e (Nat.le_refl e)).1
  rw [Nat.mod_eq_of_lt ht] at q
  exact q
theorem inter_ind (h1 : Mtr e r1) (h2 : Mtr e r2) : ∀ n g c k, bc g ≤ n → g < 2 ^ e → c < 2 ^ e → (∀ i, g.testBit i = true → c.testBit i = false) → r1 c = bc c → r2 c = bc c → (∀ t, sbs t g → k + 2 * bc c ≤ r1 (t ||| c) + r2 (sdf g t ||| c)) → ∃ q, sbs q g ∧ k ≤ bc q ∧ r1 (q ||| c) = bc q + bc c ∧ r2 (q ||| c) = bc q + bc c := by
  have he := h1.1
  have b0 : bc 0 = 0 := rfl
  intro n
  induction n with
  | zero =>
    intro g c k hg hge hce hd c1 c2 hk
    have g0 : g = 0 := Classical.byContradiction fun z => by
      obtain ⟨x, hx, hb⟩ := some_bit hge z
      have := bc_rem he hge hx hb
      omega
    subst g0
    have q := hk 0 (sbs_refl 0)
    have s0 : sdf 0 0 = 0 := rfl
    rw [s0, Nat.zero_or] at q
    exact ⟨0, sbs_refl 0, by omega, by rw [Nat.zero_or]; omega, by rw [Nat.zero_or]; omega⟩
  | succ n ih =>
    intro g c k hg hge hce hd c1 c2 hk
    by_cases hk0 : k = 0
    · exact ⟨0, sbs_zero g, by omega, by rw [Nat.zero_or]; omega, by rw [Nat.zero_or]; omega⟩
    by_cases hus : ∃ x, x < e ∧ g.testBit x = true ∧ r1 (c ||| 2 ^ x) ≠ r1 c ∧ r2 (c ||| 2 ^ x) ≠ r2 c
    · obtain ⟨x, hx, hgx, hx1, hx2⟩ := hus
      have hcx := hd x hgx
      have hcx' : ¬ c.testBit x = true := by rw [hcx]; exact Bool.false_ne_true
      have a1 := h1.2.2.1 c x hce hx
      have a2 := h2.2.2.1 c x hce hx
      have hcc : c ||| 2 ^ x < 2 ^ e := or_lt hce (bit_lt hx)
      have bcx := bc_add he hce hx hcx'
      have bg := bc_rem he hge hx hgx
      have hge' : sdf g (2 ^ x) < 2 ^ e := sdf_lt hge
      have hd1 : ∀ i, (sdf g (2 ^ x)).testBit i = true → c.testBit i = false := fun i hi => by
        rw [sdf_bit, Bool.and_eq_true] at hi
        exact hd i hi.1
      have hd2 : ∀ i, (sdf g (2 ^ x)).testBit i = true → (c ||| 2 ^ x).testBit i = false := fun i hi => by
        rw [sdf_bit, Bool.and_eq_true, p2_testBit] at hi
        rw [Nat.testBit_or, hd i hi.1, p2_testBit, Bool.false_or]
        cases hb : decide (x = i)
        · rfl
        · rw [hb] at hi; exact absurd hi.2 (by decide)
      by_cases p1 : ∀ t, sbs t (sdf g (2 ^ x)) → k + 2 * bc c ≤ r1 (t ||| c) + r2 (sdf (sdf g (2 ^ x)) t ||| c)
      · obtain ⟨q, q1, q2, q3, q4⟩ := ih (sdf g (2 ^ x)) c k (by omega) hge' hce hd1 c1 c2 p1
        exact ⟨q, sbs_tr q1 (sbs_rem g x), q2, q3, q4⟩
      · by_cases p2 : ∀ t, sbs t (sdf g (2 ^ x)) → k - 1 + 2 * bc (c ||| 2 ^ x) ≤ r1 (t ||| (c ||| 2 ^ x)) + r2 (sdf (sdf g (2 ^ x)) t ||| (c ||| 2 ^ x))
        · obtain ⟨q, q1, q2, q3, q4⟩ := ih (sdf g (2 ^ x)) (c ||| 2 ^ x) (k - 1) (by omega) hge' hcc hd2 (by omega) (by omega) p2
          have hqe : q < 2 ^ e := Nat.lt_of_le_of_lt (sbs_le q1) hge'
          have hqx : ¬ q.testBit x = true := fun z => by
            have := q1 x z
            exact rem_nt this
          have bq := bc_add he hqe hx hqx
          have eq9 : q ||| 2 ^ x ||| c = q ||| (c ||| 2 ^ x) := by rw [Nat.or_assoc, Nat.or_comm (2 ^ x) c]
          refine ⟨q ||| 2 ^ x, fun i hi => ?_, by omega, by rw [eq9]; omega, by rw [eq9]; omega⟩
          rw [Nat.testBit_or, Bool.or_eq_true, p2_testBit, decide_eq_true_eq] at hi
          rcases hi with z | z
          · exact sbs_rem g x i (q1 i z)
          · subst z; exact hgx
        · exfalso
          obtain ⟨t, p1⟩ := Classical.not_forall.mp p1
          obtain ⟨htg, p1⟩ := Classical.not_imp.mp p1
          obtain ⟨u, p2⟩ := Classical.not_forall.mp p2
          obtain ⟨hug, p2⟩ := Classical.not_imp.mp p2
          have hte : t < 2 ^ e := Nat.lt_of_le_of_lt (sbs_le htg) hge'
          have hue : u < 2 ^ e := Nat.lt_of_le_of_lt (sbs_le hug) hge'
          have htg' : ∀ i, t.testBit i = true → (g.testBit i && !decide (x = i)) = true := fun i hi => by
            have z := htg i hi
            rw [sdf_bit, p2_testBit] at z
            exact z
          have hug' : ∀ i, u.testBit i = true → (g.testBit i && !decide (x = i)) = true := fun i hi => by
            have z := hug i hi
            rw [sdf_bit, p2_testBit] at z
            exact z
          have hgx' : ∀ i, decide (x = i) = true → g.testBit i = true := fun i hi => by
            rw [decide_eq_true_eq] at hi
            subst hi
            exact hgx
          have key : ∀ {P Q : Nat}, (∀ i, (t.testBit i = true → (g.testBit i && !decide (x = i)) = true) → (u.testBit i = true → (g.testBit i && !decide (x = i)) = true) → (decide (x = i) = true → g.testBit i = true) → P.testBit i = true → Q.testBit i = true) → sbs P Q := fun hf i hi => hf i (htg' i) (hug' i) (hgx' i) hi
          have s1 : sbs (t ||| u ||| 2 ^ x ||| c) ((t ||| c) ||| (u ||| (c ||| 2 ^ x))) := key (fun i => by
            simp only [Nat.testBit_or, Nat.testBit_and, sdf_bit, p2_testBit]
            cases t.testBit i <;> cases u.testBit i <;> cases g.testBit i <;> cases c.testBit i <;> cases decide (x = i) <;> decide)
          have s2 : sbs ((t &&& u) ||| c) ((t ||| c) &&& (u ||| (c ||| 2 ^ x))) := key (fun i => by
            simp only [Nat.testBit_or, Nat.testBit_and, sdf_bit, p2_testBit]
            cases t.testBit i <;> cases u.testBit i <;> cases g.testBit i <;> cases c.testBit i <;> cases decide (x = i) <;> decide)
          have s3 : sbs (sdf g (t &&& u) ||| c) ((sdf (sdf g (2 ^ x)) t ||| c) ||| (sdf (sdf g (2 ^ x)) u ||| (c ||| 2 ^ x))) := key (fun i => by
            simp only [Nat.testBit_or, Nat.testBit_and, sdf_bit, p2_testBit]
            cases t.testBit i <;> cases u.testBit i <;> cases g.testBit i <;> cases c.testBit i <;> cases decide (x = i) <;> decide)
          have s4 : sbs (sdf g (t ||| u ||| 2 ^ x) ||| c) ((sdf (sdf g (2 ^ x)) t ||| c) &&& (sdf (sdf g (2 ^ x)) u ||| (c ||| 2 ^ x))) := key (fun i => by
            simp only [Nat.testBit_or, Nat.testBit_and, sdf_bit, p2_testBit]
            cases t.testBit i <;> cases u.testBit i <;> cases g.testBit i <;> cases c.testBit i <;> cases decide (x = i) <;> decide)
          have m1 := h1.subm (or_lt hte hce) (or_lt hue hcc) s1 s2
          have m2 := h2.subm (or_lt (sdf_lt hge' : sdf (sdf g (2 ^ x)) t < 2 ^ e) hce) (or_lt (sdf_lt hge' : sdf (sdf g (2 ^ x)) u < 2 ^ e) hcc) s3 s4
          have k1 := hk (t ||| u ||| 2 ^ x) (key (fun i => by
            simp only [Nat.testBit_or, Nat.testBit_and, sdf_bit, p2_testBit]
            cases t.testBit i <;> cases u.testBit i <;> cases g.testBit i <;> cases c.testBit i <;> cases decide (x = i) <;> decide))
          have k2 := hk (t &&& u) (key (fun i => by
            simp only [Nat.testBit_or, Nat.testBit_and, sdf_bit, p2_testBit]
            cases t.testBit i <;> cases u.testBit i <;> cases g.testBit i <;> cases c.testBit i <;> cases decide (x = i) <;> decide))
          omega
    · have hno : ∀ x, x < e → g.testBit x = true → r1 (c ||| 2 ^ x) ≠ r1 c → r2 (c ||| 2 ^ x) = r2 c := fun x hx hb z => Classical.byContradiction fun z2 => hus ⟨x, hx, hb, z, z2⟩
      have hT : ∀ i, (orB (fun x => g.testBit x && (r1 (c ||| 2 ^ x) == r1 c)) e).testBit i = (decide (i < e) && (g.testBit i && (r1 (c ||| 2 ^ i) == r1 c))) := fun i => orB_bit _ e i
      have hTe : orB (fun x => g.testBit x && (r1 (c ||| 2 ^ x) == r1 c)) e < 2 ^ e := orB_lt _ e e (Nat.le_refl e)
      have q := hk (orB (fun x => g.testBit x && (r1 (c ||| 2 ^ x) == r1 c)) e) (fun i hi => by
        rw [hT, Bool.and_eq_true, Bool.and_eq_true] at hi
        exact hi.2.1)
      rw [Nat.or_comm _ c, Nat.or_comm _ c] at q
      rw [h1.spanAll hce hTe (fun x hx hb => by
        rw [hT, Bool.and_eq_true, Bool.and_eq_true, beq_iff_eq] at hb
        exact hb.2.2), h2.spanAll hce (sdf_lt hge) (fun x hx hb => by
        rw [sdf_bit, hT, Bool.and_eq_true, Bool.not_eq_true', decide_eq_true hx, Bool.true_and] at hb
        refine hno x hx hb.1 (fun z => ?_)
        rw [hb.1, Bool.true_and, beq_eq_false_iff_ne] at hb
        exact hb.2 z)] at q
      exact ⟨0, sbs_zero g, by omega, by rw [Nat.zero_or]; omega, by rw [Nat.zero_or]; omega⟩
/-- the theorem of matroid intersection -/
theorem inter_max (h1 : Mtr e r1) (h2 : Mtr e r2) {k : Nat} (hk : ∀ t, t < 2 ^ e → k ≤ r1 t + r2 (sdf (2 ^ e - 1) t)) : ∃ q, q < 2 ^ e ∧ k ≤ bc q ∧ r1 q = bc q ∧ r2 q = bc q := by
  have hp := p2_pos e
  have b0 : bc 0 = 0 := rfl
  obtain ⟨q, q1, q2, q3, q4⟩ := inter_ind h1 h2 (bc (2 ^ e - 1)) (2 ^ e - 1) 0 k (Nat.le_refl _) (by omega) hp (fun i _ => Nat.zero_testBit i) (by rw [h1.2.1]; rfl) (by rw [h2.2.1]; rfl) (fun t ht => by
    have := hk t (Nat.lt_of_le_of_lt (sbs_le ht) (by omega))
    rw [Nat.or_zero, Nat.or_zero]
    omega)
  rw [Nat.or_zero] at q3 q4
  exact ⟨q, Nat.lt_of_le_of_lt (sbs_le q1) (by omega), q2, by omega, by omega⟩
end A6
