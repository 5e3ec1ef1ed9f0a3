/-! The mathematics: both sides find the same minor -/
section Azb
variable {r1 r2 : Nat → Nat} {e1 e2 : Nat}
/-- what the class takes: the contracted set c with the deleted set d -/
def AccP (r1 : Nat → Nat) (e1 : Nat) (r2 : Nat → Nat) (e2 : Nat) (W : Nat → Nat) (c d : Nat) : Prop := (r2 (2 ^ e2 - 1) ≤ r1 (2 ^ e1 - 1) ∧ e2 + (r1 (2 ^ e1 - 1) - r2 (2 ^ e2 - 1)) ≤ e1) ∧ (bc c = r1 (2 ^ e1 - 1) - r2 (2 ^ e2 - 1) ∧ (sortN r1 e1 c &&& 1 != 0) = true) ∧ delB r1 e1 (r1 (2 ^ e1 - 1)) (e1 - e2 - (r1 (2 ^ e1 - 1) - r2 (2 ^ e2 - 1))) d = true ∧ c &&& d = 0 ∧ alk0 (sortN r1 e1) (wntS (sortN r2 e2) W e2) (prfS (sortN r2 e2) W e2) e2 e1 c d = true
theorem del_iff {full nb d : Nat} : delB r1 e1 full nb d = true ↔ bc d = nb ∧ r1 (sdf (2 ^ e1 - 1) d) = full := by
  unfold delB
  rw [Bool.and_eq_true, decide_eq_true_eq, decide_eq_true_eq]
theorem acc_cand (h1 : Mtr e1 r1) (h2 : Mtr e2 r2) {W : Nat → Nat} {c d : Nat} (hc : c < 2 ^ e1) (hd : d < 2 ^ e1) : AccP r1 e1 r2 e2 W c d ↔ CandP r1 e1 r2 e2 c d := by
  have he1 := h1.1
  have hp1 := p2_pos e1
  have fl1 := h1.le_bc (show 2 ^ e1 - 1 < 2 ^ e1 by omega)
  -- what both ask of the numbers
  have core : (r2 (2 ^ e2 - 1) ≤ r1 (2 ^ e1 - 1) ∧ e2 + (r1 (2 ^ e1 - 1) - r2 (2 ^ e2 - 1)) ≤ e1) → bc c = r1 (2 ^ e1 - 1) - r2 (2 ^ e2 - 1) → r1 c = bc c → bc d = e1 - e2 - (r1 (2 ^ e1 - 1) - r2 (2 ^ e2 - 1)) → r1 (sdf (2 ^ e1 - 1) d) = r1 (2 ^ e1 - 1) → c &&& d = 0 → (alk0 (sortN r1 e1) (wntS (sortN r2 e2) W e2) (prfS (sortN r2 e2) W e2) e2 e1 c d = true ↔ ∃ im : Nat → Nat, IsoG (leM r1 e1 c d) (e1 - bc (c ||| d)) r2 e2 true im) := by
    intro a1 a2 a3 a4 a5 a6
    have dis : ∀ i, c.testBit i = true → d.testBit i = false := fun i hi => by
      have q : (c &&& d).testBit i = false := by rw [a6, Nat.zero_testBit]
      rw [Nat.testBit_and, hi, Bool.true_and] at q
      exact q
    have bcd : bc (c ||| d) = e1 - e2 := by
      have q := bc_mod he1 hc hd
      rw [a6] at q
      have : bc 0 = 0 := rfl
      omega
    have sz : e1 - bc (c ||| d) = e2 := by omega
    have hll : lftN e1 c d < 2 ^ e1 := sdf_lt (sdf_lt (by omega))
    have lb : ∀ i, (lftN e1 c d).testBit i = (decide (i < e1) && (!c.testBit i && !d.testBit i)) := fun i => by
      unfold lftN
      rw [sdf_bit, sdf_bit, all_bit, Bool.and_assoc]
    have bl : bc (lftN e1 c d) = e2 := by
      have q := bc_mod he1 hll (or_lt hc hd)
      have e0 : lftN e1 c d &&& (c ||| d) = 0 := by
        apply Nat.eq_of_testBit_eq
        intro i
        rw [Nat.testBit_and, lb, Nat.testBit_or, Nat.zero_testBit]
        cases c.testBit i <;> cases d.testBit i <;> cases decide (i < e1) <;> rfl
      have e9 : lftN e1 c d ||| (c ||| d) = 2 ^ e1 - 1 := by
        apply Nat.eq_of_testBit_eq
        intro i
        rw [Nat.testBit_or, lb, Nat.testBit_or, all_bit]
        by_cases g : i < e1
        · rw [decide_eq_true g]; cases c.testBit i <;> cases d.testBit i <;> rfl
        · rw [decide_eq_false g, Nat.testBit_lt_two_pow (Nat.lt_of_lt_of_le hc (Nat.pow_le_pow_right (by decide) (by omega))), Nat.testBit_lt_two_pow (Nat.lt_of_lt_of_le hd (Nat.pow_le_pow_right (by decide) (by omega)))]; rfl
      rw [e0, e9, bc_all e1 (by omega)] at q
      have : bc 0 = 0 := rfl
      omega
    have hn : cnt (fun t => (lftN e1 c d).testBit t) e1 = e2 := by rw [cnt_bc e1 (by omega) _ hll]; exact bl
    have hMd := h1.dep (con := c) hn hc
    have hdis : ∀ i, (lftN e1 c d).testBit i = true → ¬ c.testBit i = true := fun i hi z => by
      rw [lb, z] at hi
      rw [Bool.not_true, Bool.false_and, Bool.and_false] at hi
      cases hi
    have dbc : ∀ j, j < 2 ^ e2 → bc (depN (lftN e1 c d) c e1 j) = bc c + bc j := fun j hj => dep_bc he1 hc hn hdis (bc j) j (Nat.le_refl _) hj
    have full : depN (lftN e1 c d) c e1 (2 ^ e2 - 1) = sdf (2 ^ e1 - 1) d := by
      rw [dep_full hn hll]
      apply Nat.eq_of_testBit_eq
      intro i
      rw [Nat.testBit_or, lb, sdf_bit, all_bit]
      by_cases g : i < e1
      · rw [decide_eq_true g]
        cases hci : c.testBit i
        · rfl
        · rw [dis i hci]; rfl
      · rw [decide_eq_false g, Nat.testBit_lt_two_pow (Nat.lt_of_lt_of_le hc (Nat.pow_le_pow_right (by decide) (by omega)))]; rfl
    have dge : ∀ j, j < 2 ^ e2 → r1 c ≤ r1 (depN (lftN e1 c d) c e1 j) := fun j hj => h1.mono (depN_lt hc e1 (Nat.le_refl _) j) (fun i hi => (dep_bit e1 j (by rw [hn]; exact hj) i).mpr (Or.inl hi))
    have marks : ∀ j, j < 2 ^ e2 → (sortN r1 e1 (depN (lftN e1 c d) c e1 j) &&& 2 != 0) = bsB (fun s => r1 (depN (lftN e1 c d) c e1 s) - r1 c) e2 j := fun j hj => by
      rw [sortB9, Bool.eq_iff_iff, bsB_iff, bsB_iff]
      show _ ↔ (r1 (depN (lftN e1 c d) c e1 j) - r1 c = bc j ∧ r1 (depN (lftN e1 c d) c e1 (2 ^ e2 - 1)) - r1 c = bc j)
      rw [full, a5, dbc j hj]
      have := dge j hj
      omega
    have ff : (fun s => r1 (depN (lftN e1 c d) c e1 s) - r1 c) (2 ^ e2 - 1) = r2 (2 ^ e2 - 1) := by
      show r1 (depN (lftN e1 c d) c e1 (2 ^ e2 - 1)) - r1 c = _
      rw [full, a5]
      omega
    have al := alk_same hMd h2 (sf := sortN r1 e1) (C0 := fun _ => 0) (W0 := W) (Im0 := fun _ => 0) (e2 := e1) (con := c) (del := d) bl marks rfl
    have lem : ∀ s, s < 2 ^ e2 → leM r1 e1 c d s = r1 (depN (lftN e1 c d) c e1 s) - r1 c := fun s hs => by
      unfold leM
      rw [dep_le hc hd (by rw [hn]; exact hs)]
    have ep : ∀ im : Nat → Nat, ExtP (leM r1 e1 c d) r2 e2 0 0 im ↔ ExtP (fun s => r1 (depN (lftN e1 c d) c e1 s) - r1 c) r2 e2 0 0 im := fun im => by
      have ft : ∀ k, k < e2 → (FitP (leM r1 e1 c d) r2 im k ↔ FitP (fun s => r1 (depN (lftN e1 c d) c e1 s) - r1 c) r2 im k) := fun k hk => by
        have hle : 2 ^ (k + 1) ≤ 2 ^ e2 := Nat.pow_le_pow_right (by decide) hk
        rw [Nat.pow_succ] at hle
        constructor
        · intro z s hs
          have q := z s hs
          rw [lem _ (by rw [← sum_or hs]; omega)] at q
          exact q
        · intro z s hs
          have q := z s hs
          rw [lem _ (by rw [← sum_or hs]; omega)]
          exact q
      exact ⟨fun z k hk1 hk2 => ⟨(z k hk1 hk2).1, (z k hk1 hk2).2.1, (z k hk1 hk2).2.2.1, (ft k hk2).mp (z k hk1 hk2).2.2.2⟩, fun z k hk1 hk2 => ⟨(z k hk1 hk2).1, (z k hk1 hk2).2.1, (z k hk1 hk2).2.2.1, (ft k hk2).mpr (z k hk1 hk2).2.2.2⟩⟩
    have hp2 := p2_pos e2
    rw [sz]
    unfold alk0
    constructor
    · intro z
      rcases al with ⟨-, -, im, i1, i2, -⟩ | ⟨i1, -⟩
      · exact ⟨im, Or.inl ⟨rfl, rfl, by rw [lem _ (by omega)]; exact ff, (ep im).mpr i1, fun im2 h3 => i2 im2 ((ep im2).mp h3)⟩⟩
      · rw [z] at i1; cases i1
    · rintro ⟨im, z⟩
      rcases z with ⟨-, -, -, z4, -⟩ | ⟨z1, -⟩
      · rcases al with ⟨i1, -⟩ | ⟨-, i2⟩
        · exact i1
        · exact absurd ⟨ff, im, (ep im).mp z4⟩ i2
      · cases z1
  unfold AccP CandP
  constructor
  · rintro ⟨a1, ⟨a2, a3⟩, a4, a5, a6⟩
    obtain ⟨d1, d2⟩ := del_iff.mp a4
    have a3' := srt_ind.mp a3
    exact ⟨by omega, beq_iff_eq.mpr a3', by omega, a5, d2, (core a1 a2 a3' d1 d2 a5).mp a6⟩
  · rintro ⟨a1, a2, a3, a4, a5, a6⟩
    have a2' : r1 c = bc c := beq_iff_eq.mp a2
    have b1 : r2 (2 ^ e2 - 1) ≤ r1 (2 ^ e1 - 1) ∧ e2 + (r1 (2 ^ e1 - 1) - r2 (2 ^ e2 - 1)) ≤ e1 := by omega
    have b2 : bc c = r1 (2 ^ e1 - 1) - r2 (2 ^ e2 - 1) := by omega
    have b3 : bc d = e1 - e2 - (r1 (2 ^ e1 - 1) - r2 (2 ^ e2 - 1)) := by omega
    exact ⟨b1, ⟨b2, srt_ind.mpr a2'⟩, del_iff.mpr ⟨b3, a5⟩, a4, (core b1 b2 a2' b3 a5 a4).mpr a6⟩
/-- the place of a deleted set in the list -/
theorem del_at {full nb d : Nat} (hd : d < 2 ^ e1) (h : delB r1 e1 full nb d = true) : cnt (delB r1 e1 full nb) d < delN r1 e1 full nb ∧ delL r1 e1 full nb (cnt (delB r1 e1 full nb) d) = d := by
  have lt : cnt (delB r1 e1 full nb) d < cnt (delB r1 e1 full nb) (2 ^ e1) := by
    have q := cnt_mono (p := delB r1 e1 full nb) (show d + 1 ≤ 2 ^ e1 from hd)
    rw [cnt_y h] at q
    exact q
  obtain ⟨k1, k2, k3⟩ := kthN_is lt
  exact ⟨lt, cnt_inj (p := delB r1 e1 full nb) k2 h k3⟩
theorem with_ok {W : Nat → Nat} {Q : Nat → Int32} {e full nb con : Nat} : (withD r1 (sortN r1 e1) W Q e1 e full nb con = none ∧ ∀ d, d < 2 ^ e1 → delB r1 e1 full nb d = true → con &&& d = 0 → alk0 (sortN r1 e1) W Q e e1 con d = true → False) ∨ ∃ k d, withD r1 (sortN r1 e1) W Q e1 e full nb con = some k ∧ d = delL r1 e1 full nb k ∧ d < 2 ^ e1 ∧ delB r1 e1 full nb d = true ∧ con &&& d = 0 ∧ alk0 (sortN r1 e1) W Q e e1 con d = true ∧ ∀ d', d' < 2 ^ e1 → delB r1 e1 full nb d' = true → con &&& d' = 0 → alk0 (sortN r1 e1) W Q e e1 con d' = true → d ≤ d' := by
  unfold withD
  rcases fst_spec (p := fun k => (con &&& delL r1 e1 full nb k == 0) && alk0 (sortN r1 e1) W Q e e1 con (delL r1 e1 full nb k)) (n := delN r1 e1 full nb) with ⟨h1, h2⟩ | ⟨k, h1, h2, h3, h4⟩
  · rw [h1]
    refine Or.inl ⟨rfl, fun d hd a1 a2 a3 => ?_⟩
    obtain ⟨b1, b2⟩ := del_at hd a1
    have q := h2 _ b1
    rw [b2, a2, a3] at q
    cases q
  · rw [h2]
    obtain ⟨k1, k2, k3⟩ := kthN_is (p := delB r1 e1 full nb) (n := 2 ^ e1) (k := k) h1
    rw [Bool.and_eq_true, beq_iff_eq] at h3
    refine Or.inr ⟨k, delL r1 e1 full nb k, rfl, rfl, k1, k2, h3.1, h3.2, fun d' hd a1 a2 a3 => ?_⟩
    obtain ⟨b1, b2⟩ := del_at hd a1
    apply Classical.byContradiction
    intro hlt
    have hl : d' < delL r1 e1 full nb k := by omega
    have q := cnt_mono (p := delB r1 e1 full nb) (show d' + 1 ≤ delL r1 e1 full nb k from hl)
    rw [cnt_y a1] at q
    have k3' : cnt (delB r1 e1 full nb) (delL r1 e1 full nb k) = k := k3
    have z := h4 (cnt (delB r1 e1 full nb) d') (by omega)
    rw [b2, a2, a3] at z
    cases z
theorem minor_same (h1 : Mtr e1 r1) (h2 : Mtr e2 r2) {v co de z : Int} (h : MinP r1 e1 r2 e2 v co de) (h3 : MinG r1 e1 r2 e2 z) : (v = 0 ∧ z = -1) ∨ (v = 1 ∧ ∃ c d : Nat, z = ((1024 * c + d : Nat) : Int) ∧ c < 2 ^ e1 ∧ d < 2 ^ e1 ∧ co = (c : Int) ∧ de = (d : Int)) := by
  obtain ⟨W, co0, de0, h⟩ := h
  have ac : ∀ c d, c < 2 ^ e1 → d < 2 ^ e1 → (AccP r1 e1 r2 e2 W c d ↔ CandP r1 e1 r2 e2 c d) := fun c d hc hd => acc_cand h1 h2 hc hd
  have sB : ∀ con, srcB r1 (sortN r1 e1) (wntS (sortN r2 e2) W e2) (prfS (sortN r2 e2) W e2) e1 e2 (r1 (2 ^ e1 - 1)) (e1 - e2 - (r1 (2 ^ e1 - 1) - r2 (2 ^ e2 - 1))) (r1 (2 ^ e1 - 1) - r2 (2 ^ e2 - 1)) con = true ↔ bc con = r1 (2 ^ e1 - 1) - r2 (2 ^ e2 - 1) ∧ (sortN r1 e1 con &&& 1 != 0) = true ∧ (withD r1 (sortN r1 e1) (wntS (sortN r2 e2) W e2) (prfS (sortN r2 e2) W e2) e1 e2 (r1 (2 ^ e1 - 1)) (e1 - e2 - (r1 (2 ^ e1 - 1) - r2 (2 ^ e2 - 1))) con).isSome = true := fun con => by
    unfold srcB
    rw [Bool.and_eq_true, Bool.and_eq_true, decide_eq_true_eq, and_assoc]
  rcases h with ⟨v0, -, -, v1⟩ | ⟨v0, v1, con, k, v2, v3, v4, v5, v6, v7⟩
  · -- nothing was found
    have none : ∀ c d, c < 2 ^ e1 → d < 2 ^ e1 → ¬ CandP r1 e1 r2 e2 c d := fun c d hc hd hcand => by
      obtain ⟨a1, ⟨a2, a3⟩, a4, a5, a6⟩ := (ac c d hc hd).mpr hcand
      rcases v1 with v1 | v1
      · exact v1 a1
      · have q := v1 c hc
        rcases with_ok (r1 := r1) (e1 := e1) (W := wntS (sortN r2 e2) W e2) (Q := prfS (sortN r2 e2) W e2) (e := e2) (full := r1 (2 ^ e1 - 1)) (nb := e1 - e2 - (r1 (2 ^ e1 - 1) - r2 (2 ^ e2 - 1))) (con := c) with ⟨-, w2⟩ | ⟨k, d', w1, -⟩
        · exact w2 d hd a4 a5 a6
        · have := (sB c).mpr ⟨a2, a3, by rw [w1]; rfl⟩
          rw [q] at this
          cases this
    rcases h3 with ⟨g1, -⟩ | ⟨c, d, -, g2, g3, g4, -⟩
    · exact Or.inl ⟨v0, g1⟩
    · exact absurd g4 (none c d g2 g3)
  · obtain ⟨s1, s2, -⟩ := (sB con).mp v4
    rcases with_ok (r1 := r1) (e1 := e1) (W := wntS (sortN r2 e2) W e2) (Q := prfS (sortN r2 e2) W e2) (e := e2) (full := r1 (2 ^ e1 - 1)) (nb := e1 - e2 - (r1 (2 ^ e1 - 1) - r2 (2 ^ e2 - 1))) (con := con) with ⟨w1, -⟩ | ⟨k', d', w1, w2, w3, w4, w5, w6, w7⟩
    · rw [w1] at v5; cases v5
    · rw [w1] at v5
      cases v5
      have cand : CandP r1 e1 r2 e2 con d' := (ac con d' v2 w3).mp ⟨v1, ⟨s1, s2⟩, w4, w5, w6⟩
      rcases h3 with ⟨-, g2⟩ | ⟨c, d, g1, g2, g3, g4, g5⟩
      · exact absurd cand (g2 con d' v2 w3)
      · obtain ⟨a1, ⟨a2, a3⟩, a4, a5, a6⟩ := (ac c d g2 g3).mpr g4
        have sc : srcB r1 (sortN r1 e1) (wntS (sortN r2 e2) W e2) (prfS (sortN r2 e2) W e2) e1 e2 (r1 (2 ^ e1 - 1)) (e1 - e2 - (r1 (2 ^ e1 - 1) - r2 (2 ^ e2 - 1))) (r1 (2 ^ e1 - 1) - r2 (2 ^ e2 - 1)) c = true := by
          refine (sB c).mpr ⟨a2, a3, ?_⟩
          rcases with_ok (r1 := r1) (e1 := e1) (W := wntS (sortN r2 e2) W e2) (Q := prfS (sortN r2 e2) W e2) (e := e2) (full := r1 (2 ^ e1 - 1)) (nb := e1 - e2 - (r1 (2 ^ e1 - 1) - r2 (2 ^ e2 - 1))) (con := c) with ⟨-, y2⟩ | ⟨k2, d2, y1, -⟩
          · exact absurd a6 (fun z => y2 d g3 a4 a5 z)
          · rw [y1]; rfl
        have ge : con ≤ c := Classical.byContradiction fun z => by
          have := v3 c (by omega)
          rw [sc] at this
          cases this
        have le := g5 con d' v2 w3 cand
        have ec : c = con := by
          rcases le with z | ⟨z, -⟩
          · omega
          · exact z
        subst ec
        have ed : d = d' := by
          have b := w7 d g3 a4 a5 a6
          rcases le with z | ⟨-, z⟩
          · omega
          · omega
        subst ed
        exact Or.inr ⟨v0, c, d, g1, g2, g3, v6, by rw [v7, w2]⟩
end Azb
