/-! The law: operations: both sides agree (Bf) -/
section Bf
def PC_canBeDrawn (h : AH) (xo : Nat) (w : Nat → Nat) (c m : Nat) (E : Nat → Nat) (R : Nat → Nat → Nat) (br bf bs be : Int) (D2 D3 : Nat → Bool) (so : Nat) (a1 a2 : Int) (r : Option Value) (h' : AH) : Prop := ∃ (i fN : Nat) (tr : Int), i < m ∧ a1 = (i : Int) ∧ (fN = 2 ∨ fN = 3) ∧ a2 = (fN : Int) ∧ draP (R i) (E i) fN tr ∧ r = some (I tr) ∧ HI h' xo w c m E R br bf bs be (if fN = 2 then up D2 i true else D2) (if fN = 3 then up D3 i true else D3) so ∧ Fr HF h h'
def XC_canBeDrawn (h : AH) (xo : Nat) (w : Nat → Nat) (c m : Nat) (E : Nat → Nat) (R : Nat → Nat → Nat) (br bf bs be : Int) (D2 D3 : Nat → Bool) (so : Nat) (a1 a2 : Int) (E' : String) (h' : AH) : Prop := h' = h ∧ ((noM a1 m ∧ E' = eIOO) ∨ ∃ i, i < m ∧ a1 = (i : Int) ∧ a2 ≠ 2 ∧ a2 ≠ 3 ∧ E' = eIAE)
def PR_canBeDrawn (S0 : State) (h : AH) (mo : Nat) (w : Nat → Nat) (c m : Nat) (E : Nat → Nat) (R : Nat → Nat → Nat) (b0 b1 b2 : Int) (a1 a2 : Int) (r : Option Value) (h' : AH) : Prop := Fr (fun x => 120 ≤ x ∧ x ≤ 135) h h' ∧ ((noM a1 m ∧ (∃ z, r = some (I z)) ∧ RI (zA S0) DRp h' mo 1 c w m E R b0 b1 b2) ∨ ∃ i, i < m ∧ a1 = (i : Int) ∧ ((a2 ≠ 2 ∧ a2 ≠ 3 ∧ (∃ z, r = some (I z)) ∧ RI (zA S0) DRp h' mo 2 c w m E R b0 b1 b2) ∨ ∃ f : Nat, a2 = (f : Int) ∧ (f = 2 ∨ f = 3) ∧ ∃ o : Option (Nat → Nat), DRp (R i) (E i) f o ∧ r = some (I ((b2n o.isSome : Nat) : Int)) ∧ RI (zA S0) DRp h' mo 0 c w m E R b0 b1 b2))
theorem fP_canBeDrawn {h h1 : AH} {xo : Nat} {w : Nat → Nat} {c m : Nat} {E : Nat → Nat} {R : Nat → Nat → Nat} {br bf bs be : Int} {D2 D3 : Nat → Bool} {so : Nat} {a1 a2 : Int} {r : Option Value} (q : PC_canBeDrawn h xo w c m E R br bf bs be D2 D3 so a1 a2 r h1) : Fr HF h h1 := by
  unfold PC_canBeDrawn at q
  obtain ⟨i, fN, tr, p1, p2, p3, p4, p5, p6, p7, p8⟩ := q
  exact p8
theorem vP_canBeDrawn {h h1 : AH} {xo : Nat} {w : Nat → Nat} {c m : Nat} {E : Nat → Nat} {R : Nat → Nat → Nat} {br bf bs be : Int} {D2 D3 : Nat → Bool} {so : Nat} {a1 a2 : Int} {r : Option Value} (q : PC_canBeDrawn h xo w c m E R br bf bs be D2 D3 so a1 a2 r h1) : ∃ b : Bool, r = some (I ((b2n b : Nat) : Int)) := by
  unfold PC_canBeDrawn at q
  obtain ⟨i, fN, tr, p1, p2, p3, p4, p5, p6, p7, p8⟩ := q
  rcases p5.1 with z | z
  · exact ⟨false, by rw [p6, z]; rfl⟩
  · exact ⟨true, by rw [p6, z]; rfl⟩
theorem fX_canBeDrawn {h h1 : AH} {xo : Nat} {w : Nat → Nat} {c m : Nat} {E : Nat → Nat} {R : Nat → Nat → Nat} {br bf bs be : Int} {D2 D3 : Nat → Bool} {so : Nat} {a1 a2 : Int} {e : String} (q : XC_canBeDrawn h xo w c m E R br bf bs be D2 D3 so a1 a2 e h1) : Fr HF h h1 := by
  unfold XC_canBeDrawn at q
  rcases q with ⟨x1, (⟨x2, x3⟩ | ⟨i, x4, x5, x6, x7, x8⟩)⟩
  · rw [x1]; exact Fr.rf
  · rw [x1]; exact Fr.rf
theorem eX_canBeDrawn {h h1 : AH} {xo : Nat} {w : Nat → Nat} {c m : Nat} {E : Nat → Nat} {R : Nat → Nat → Nat} {br bf bs be : Int} {D2 D3 : Nat → Bool} {so : Nat} {a1 a2 : Int} {e : String} (q : XC_canBeDrawn h xo w c m E R br bf bs be D2 D3 so a1 a2 e h1) : e = eIOO ∨ e = eIAE := by
  unfold XC_canBeDrawn at q
  rcases q with ⟨x1, (⟨x2, x3⟩ | ⟨i, x4, x5, x6, x7, x8⟩)⟩
  · exact Or.inl x3
  · exact Or.inr (x8)
theorem fR_canBeDrawn {S0 : State} {h h1 : AH} {mo : Nat} {w : Nat → Nat} {c m : Nat} {E : Nat → Nat} {R : Nat → Nat → Nat} {b0 b1 b2 : Int} {a1 a2 : Int} {r : Option Value} (q : PR_canBeDrawn S0 h mo w c m E R b0 b1 b2 a1 a2 r h1) : Fr (fun x => 120 ≤ x ∧ x ≤ 139) h h1 := by
  unfold PR_canBeDrawn at q
  exact q.1.mono (fun l z => by omega)
theorem op_canBeDrawn {S0 : State} {h h1 h2 hb : AH} {g : Nat → Int64} {xo mo : Nat} {w : Nat → Nat} {c m : Nat} {E : Nat → Nat} {R : Nat → Nat → Nat} {br bf bs be b0 b1 b2 : Int} {D2 D3 : Nat → Bool} {so kk : Nat} {r2 : Option Value} {a1 a2 : Int} (hI : HI h xo w c m E R br bf bs be D2 D3 so) (hB : BrR br bf bs be b0 b1 b2) (hc : (kk = 0 ∧ ∃ z : Int, PC_canBeDrawn h xo w c m E R br bf bs be D2 D3 so a1 a2 (some (I z)) h1 ∧ g 0 = (Int32.ofInt z).toInt64) ∨ ∃ e : String, [eIOO, eIAE][kk - 1]? = some e ∧ 1 ≤ kk ∧ XC_canBeDrawn h xo w c m E R br bf bs be D2 D3 so a1 a2 e h1) (hr : PR_canBeDrawn S0 hb mo w c m E R b0 b1 b2 a1 a2 r2 h2) : ∃ z2 : Int, r2 = some (I z2) ∧ (kk = 0 → (z2 = 0 ∨ z2 = 1) ∧ g 0 = (Int32.ofInt z2).toInt64) ∧ kk ≤ 4 ∧ Mg S0 h1 h2 xo mo kk (pC so D2) (pS so D2) := by
  have hM := hI.mtr.2.2.2.2.2.2
  unfold PR_canBeDrawn at hr
  rcases hc with ⟨rfl, z, hp, hg⟩ | ⟨e, he, hk, hp⟩
  · unfold PC_canBeDrawn at hp
    rcases hp with ⟨i, fN, tr, p1, p2, p3, p4, p5, p6, p7, p8⟩
    rcases hr with ⟨q1, (⟨q2, ⟨z2, q3⟩, q4⟩ | ⟨i2, q5, q6, (⟨q7, q8, ⟨z2, q9⟩, q10⟩ | ⟨f2, q11, q12, o2, q13, q14, q15⟩)⟩)⟩
    · exfalso
      first | omega | (simp_all)
    · obtain rfl : i = i2 := by omega
      exfalso
      first | omega | (simp_all)
    · obtain rfl : i = i2 := by omega
      obtain rfl : fN = f2 := by omega
      refine ⟨_, q14, fun _ => ?_, by decide, ⟨_, _, _, _, _, _, _, _, _, _, _, _, _, _, _, p7, q15, hB, pC_up, pS_up⟩⟩
      refine ⟨b2n_01 _, ?_⟩
      rw [hg, iI p6]
      rw [show tr = ((b2n o2.isSome : Nat) : Int) from drw_none (hM i p1) p3 p5 q13]
  · unfold XC_canBeDrawn at hp
    rcases ex2 he hk with ⟨rfl, rfl⟩ | ⟨rfl, rfl⟩
    · rcases hp with ⟨x1, (⟨x2, x3⟩ | ⟨i, x4, x5, x6, x7, x8⟩)⟩
      · rcases hr with ⟨q1, (⟨q2, ⟨z2, q3⟩, q4⟩ | ⟨i2, q5, q6, (⟨q7, q8, ⟨z2, q9⟩, q10⟩ | ⟨f2, q11, q12, o2, q13, q14, q15⟩)⟩)⟩
        · subst x1
          exact ⟨_, q3, fun q => absurd q (by decide), by decide, ⟨_, _, _, _, _, _, _, _, _, _, _, _, _, _, _, hI, q4, hB, Nat.le_refl _, Nat.le_refl _⟩⟩
        · exfalso
          first | omega | (simp_all)
        · exfalso
          first | omega | (simp_all)
      · exact absurd x8 (by decide)
    · rcases hp with ⟨x1, (⟨x2, x3⟩ | ⟨i, x4, x5, x6, x7, x8⟩)⟩
      · exact absurd x3 (by decide)
      · rcases hr with ⟨q1, (⟨q2, ⟨z2, q3⟩, q4⟩ | ⟨i2, q5, q6, (⟨q7, q8, ⟨z2, q9⟩, q10⟩ | ⟨f2, q11, q12, o2, q13, q14, q15⟩)⟩)⟩
        · exfalso
          first | omega | (simp_all)
        · subst x1
          obtain rfl : i = i2 := by omega
          exact ⟨_, q9, fun q => absurd q (by decide), by decide, ⟨_, _, _, _, _, _, _, _, _, _, _, _, _, _, _, hI, q10, hB, Nat.le_refl _, Nat.le_refl _⟩⟩
        · obtain rfl : i = i2 := by omega
          exfalso
          first | omega | (simp_all)
def PC_entry (h : AH) (xo : Nat) (w : Nat → Nat) (c m : Nat) (E : Nat → Nat) (R : Nat → Nat → Nat) (br bf bs be : Int) (D2 D3 : Nat → Bool) (so : Nat) (a1 a2 a3 a4 : Int) (r : Option Value) (h' : AH) : Prop := ∃ (i fN t k : Nat), i < m ∧ a1 = (i : Int) ∧ (fN = 2 ∨ fN = 3) ∧ a2 = (fN : Int) ∧ k < E i ∧ a4 = (k : Int) ∧ t < R i (2 ^ E i - 1) ∧ a3 = (t : Int) ∧ draP (R i) (E i) fN 1 ∧ r = some (I (drG (sortN (R i) (E i)) (E i) (bsN (R i) (E i)) fN k t : Nat)) ∧ HI h' xo w c m E R br bf bs be (if fN = 2 then up D2 i true else D2) (if fN = 3 then up D3 i true else D3) so ∧ Fr HF h h'
def XC_entry (h : AH) (xo : Nat) (w : Nat → Nat) (c m : Nat) (E : Nat → Nat) (R : Nat → Nat → Nat) (br bf bs be : Int) (D2 D3 : Nat → Bool) (so : Nat) (a1 a2 a3 a4 : Int) (E' : String) (h' : AH) : Prop := (h' = h ∧ ((noM a1 m ∧ E' = eIOO) ∨ ∃ i, i < m ∧ a1 = (i : Int) ∧ ((¬ (0 ≤ a4 ∧ a4 < ((E i : Nat) : Int)) ∧ E' = eIOO) ∨ (0 ≤ a4 ∧ a4 < ((E i : Nat) : Int) ∧ a2 ≠ 2 ∧ a2 ≠ 3 ∧ E' = eIAE)))) ∨ ∃ (i fN : Nat) (tr : Int), i < m ∧ a1 = (i : Int) ∧ (fN = 2 ∨ fN = 3) ∧ a2 = (fN : Int) ∧ 0 ≤ a4 ∧ a4 < ((E i : Nat) : Int) ∧ draP (R i) (E i) fN tr ∧ ¬ (0 ≤ a3 ∧ a3 < ((R i (2 ^ E i - 1) : Nat) : Int) ∧ tr = 1) ∧ E' = eNSE ∧ HI h' xo w c m E R br bf bs be (if fN = 2 then up D2 i true else D2) (if fN = 3 then up D3 i true else D3) so ∧ Fr HF h h'
def PR_entry (S0 : State) (h : AH) (mo : Nat) (w : Nat → Nat) (c m : Nat) (E : Nat → Nat) (R : Nat → Nat → Nat) (b0 b1 b2 : Int) (a1 a2 a3 a4 : Int) (r : Option Value) (h' : AH) : Prop := Fr (fun x => 120 ≤ x ∧ x ≤ 135) h h' ∧ (((noM a1 m ∨ ∃ i, i < m ∧ a1 = (i : Int) ∧ ¬ (0 ≤ a4 ∧ a4 < ((E i : Nat) : Int))) ∧ (∃ z, r = some (I z)) ∧ RI (zA S0) DRp h' mo 1 c w m E R b0 b1 b2) ∨ ∃ i k : Nat, i < m ∧ a1 = (i : Int) ∧ k < E i ∧ a4 = (k : Int) ∧ ((a2 ≠ 2 ∧ a2 ≠ 3 ∧ (∃ z, r = some (I z)) ∧ RI (zA S0) DRp h' mo 2 c w m E R b0 b1 b2) ∨ ∃ f : Nat, a2 = (f : Int) ∧ (f = 2 ∨ f = 3) ∧ ∃ o : Option (Nat → Nat), DRp (R i) (E i) f o ∧ (((o = none ∨ ¬ (0 ≤ a3 ∧ a3 < ((R i (2 ^ E i - 1) : Nat) : Int))) ∧ (∃ z, r = some (I z)) ∧ RI (zA S0) DRp h' mo 3 c w m E R b0 b1 b2) ∨ ∃ (g : Nat → Nat) (t : Nat), o = some g ∧ a3 = (t : Int) ∧ t < R i (2 ^ E i - 1) ∧ r = some (I (g (R i (2 ^ E i - 1) * k + t) : Nat)) ∧ RI (zA S0) DRp h' mo 0 c w m E R b0 b1 b2)))
theorem fP_entry {h h1 : AH} {xo : Nat} {w : Nat → Nat} {c m : Nat} {E : Nat → Nat} {R : Nat → Nat → Nat} {br bf bs be : Int} {D2 D3 : Nat → Bool} {so : Nat} {a1 a2 a3 a4 : Int} {r : Option Value} (q : PC_entry h xo w c m E R br bf bs be D2 D3 so a1 a2 a3 a4 r h1) : Fr HF h h1 := by
  unfold PC_entry at q
  obtain ⟨i, fN, t, k, p1, p2, p3, p4, p5, p6, p7, p8, p9, p10, p11, p12⟩ := q
  exact p12
theorem vP_entry {h h1 : AH} {xo : Nat} {w : Nat → Nat} {c m : Nat} {E : Nat → Nat} {R : Nat → Nat → Nat} {br bf bs be : Int} {D2 D3 : Nat → Bool} {so : Nat} {a1 a2 a3 a4 : Int} {r : Option Value} (q : PC_entry h xo w c m E R br bf bs be D2 D3 so a1 a2 a3 a4 r h1) : ∃ z : Int, r = some (I z) := by
  unfold PC_entry at q
  obtain ⟨i, fN, t, k, p1, p2, p3, p4, p5, p6, p7, p8, p9, p10, p11, p12⟩ := q
  exact ⟨_, p10⟩
theorem fX_entry {h h1 : AH} {xo : Nat} {w : Nat → Nat} {c m : Nat} {E : Nat → Nat} {R : Nat → Nat → Nat} {br bf bs be : Int} {D2 D3 : Nat → Bool} {so : Nat} {a1 a2 a3 a4 : Int} {e : String} (q : XC_entry h xo w c m E R br bf bs be D2 D3 so a1 a2 a3 a4 e h1) : Fr HF h h1 := by
  unfold XC_entry at q
  rcases q with (⟨x1, (⟨x2, x3⟩ | ⟨i, x4, x5, (⟨x6, x7⟩ | ⟨x8, x9, x10, x11, x12⟩)⟩)⟩ | ⟨i, fN, tr, x13, x14, x15, x16, x17, x18, x19, x20, x21, x22, x23⟩)
  · rw [x1]; exact Fr.rf
  · rw [x1]; exact Fr.rf
  · rw [x1]; exact Fr.rf
  · exact x23
theorem eX_entry {h h1 : AH} {xo : Nat} {w : Nat → Nat} {c m : Nat} {E : Nat → Nat} {R : Nat → Nat → Nat} {br bf bs be : Int} {D2 D3 : Nat → Bool} {so : Nat} {a1 a2 a3 a4 : Int} {e : String} (q : XC_entry h xo w c m E R br bf bs be D2 D3 so a1 a2 a3 a4 e h1) : e = eIOO ∨ e = eIAE ∨ e = eNSE := by
  unfold XC_entry at q
  rcases q with (⟨x1, (⟨x2, x3⟩ | ⟨i, x4, x5, (⟨x6, x7⟩ | ⟨x8, x9, x10, x11, x12⟩)⟩)⟩ | ⟨i, fN, tr, x13, x14, x15, x16, x17, x18, x19, x20, x21, x22, x23⟩)
  · exact Or.inl x3
  · exact Or.inl x7
  · exact Or.inr (Or.inl x12)
  · exact Or.inr (Or.inr (x21))
theorem fR_entry {S0 : State} {h h1 : AH} {mo : Nat} {w : Nat → Nat} {c m : Nat} {E : Nat → Nat} {R : Nat → Nat → Nat} {b0 b1 b2 : Int} {a1 a2 a3 a4 : Int} {r : Option Value} (q : PR_entry S0 h mo w c m E R b0 b1 b2 a1 a2 a3 a4 r h1) : Fr (fun x => 120 ≤ x ∧ x ≤ 139) h h1 := by
  unfold PR_entry at q
  exact q.1.mono (fun l z => by omega)
theorem op_entry {S0 : State} {h h1 h2 hb : AH} {g : Nat → Int64} {xo mo : Nat} {w : Nat → Nat} {c m : Nat} {E : Nat → Nat} {R : Nat → Nat → Nat} {br bf bs be b0 b1 b2 : Int} {D2 D3 : Nat → Bool} {so kk : Nat} {r2 : Option Value} {a1 a2 a3 a4 : Int} (hI : HI h xo w c m E R br bf bs be D2 D3 so) (hB : BrR br bf bs be b0 b1 b2) (hc : (kk = 0 ∧ ∃ z : Int, PC_entry h xo w c m E R br bf bs be D2 D3 so a1 a2 a3 a4 (some (I z)) h1 ∧ g 0 = (Int32.ofInt z).toInt64) ∨ ∃ e : String, [eIOO, eIAE, eNSE][kk - 1]? = some e ∧ 1 ≤ kk ∧ XC_entry h xo w c m E R br bf bs be D2 D3 so a1 a2 a3 a4 e h1) (hr : PR_entry S0 hb mo w c m E R b0 b1 b2 a1 a2 a3 a4 r2 h2) : ∃ z2 : Int, r2 = some (I z2) ∧ (kk = 0 → g 0 = (Int32.ofInt z2).toInt64) ∧ kk ≤ 4 ∧ Mg S0 h1 h2 xo mo kk (pC so D2) (pS so D2) := by
  have hM := hI.mtr.2.2.2.2.2.2
  unfold PR_entry at hr
  rcases hc with ⟨rfl, z, hp, hg⟩ | ⟨e, he, hk, hp⟩
  · unfold PC_entry at hp
    rcases hp with ⟨i, fN, t, k, p1, p2, p3, p4, p5, p6, p7, p8, p9, p10, p11, p12⟩
    rcases hr with ⟨q1, (⟨(q2 | ⟨i2, q3, q4, q5⟩), ⟨z2, q6⟩, q7⟩ | ⟨i2, k2, q8, q9, q10, q11, (⟨q12, q13, ⟨z2, q14⟩, q15⟩ | ⟨f2, q16, q17, o2, q18, (⟨q19, ⟨z2, q20⟩, q21⟩ | ⟨g2, t2, q22, q23, q24, q25, q26⟩)⟩)⟩)⟩
    · exfalso
      first | omega | (first | (rcases q19 with zz | zz <;> first | exact absurd zz (entry_c1 (hM i p1) p3 p9 q18) | omega) | (have z2 := entry_c2 (hM i x13) x15 x19 q18 q22; omega))
    · obtain rfl : i = i2 := by omega
      exfalso
      first | omega | (first | (rcases q19 with zz | zz <;> first | exact absurd zz (entry_c1 (hM i p1) p3 p9 q18) | omega) | (have z2 := entry_c2 (hM i x13) x15 x19 q18 q22; omega))
    · obtain rfl : i = i2 := by omega
      obtain rfl : k = k2 := by omega
      exfalso
      first | omega | (first | (rcases q19 with zz | zz <;> first | exact absurd zz (entry_c1 (hM i p1) p3 p9 q18) | omega) | (have z2 := entry_c2 (hM i x13) x15 x19 q18 q22; omega))
    · obtain rfl : i = i2 := by omega
      obtain rfl : k = k2 := by omega
      obtain rfl : fN = f2 := by omega
      exfalso
      first | omega | (first | (rcases q19 with zz | zz <;> first | exact absurd zz (entry_c1 (hM i p1) p3 p9 q18) | omega) | (have z2 := entry_c2 (hM i x13) x15 x19 q18 q22; omega))
    · obtain rfl : i = i2 := by omega
      obtain rfl : k = k2 := by omega
      obtain rfl : fN = f2 := by omega
      obtain rfl : t = t2 := by omega
      refine ⟨_, q25, fun _ => ?_, by decide, ⟨_, _, _, _, _, _, _, _, _, _, _, _, _, _, _, p11, q26, hB, pC_up, pS_up⟩⟩
      rw [hg, iI p10]
      subst q22
      rw [drw_val (hM i p1) p3 p9 q18 p5 p7]
  · unfold XC_entry at hp
    rcases ex3 he hk with ⟨rfl, rfl⟩ | ⟨rfl, rfl⟩ | ⟨rfl, rfl⟩
    · rcases hp with (⟨x1, (⟨x2, x3⟩ | ⟨i, x4, x5, (⟨x6, x7⟩ | ⟨x8, x9, x10, x11, x12⟩)⟩)⟩ | ⟨i, fN, tr, x13, x14, x15, x16, x17, x18, x19, x20, x21, x22, x23⟩)
      · rcases hr with ⟨q1, (⟨(q2 | ⟨i2, q3, q4, q5⟩), ⟨z2, q6⟩, q7⟩ | ⟨i2, k2, q8, q9, q10, q11, (⟨q12, q13, ⟨z2, q14⟩, q15⟩ | ⟨f2, q16, q17, o2, q18, (⟨q19, ⟨z2, q20⟩, q21⟩ | ⟨g2, t2, q22, q23, q24, q25, q26⟩)⟩)⟩)⟩
        · subst x1
          exact ⟨_, q6, fun q => absurd q (by decide), by decide, ⟨_, _, _, _, _, _, _, _, _, _, _, _, _, _, _, hI, q7, hB, Nat.le_refl _, Nat.le_refl _⟩⟩
        · subst x1
          exact ⟨_, q6, fun q => absurd q (by decide), by decide, ⟨_, _, _, _, _, _, _, _, _, _, _, _, _, _, _, hI, q7, hB, Nat.le_refl _, Nat.le_refl _⟩⟩
        · exfalso
          first | omega | (first | (rcases q19 with zz | zz <;> first | exact absurd zz (entry_c1 (hM i p1) p3 p9 q18) | omega) | (have z2 := entry_c2 (hM i x13) x15 x19 q18 q22; omega))
        · exfalso
          first | omega | (first | (rcases q19 with zz | zz <;> first | exact absurd zz (entry_c1 (hM i p1) p3 p9 q18) | omega) | (have z2 := entry_c2 (hM i x13) x15 x19 q18 q22; omega))
        · exfalso
          first | omega | (first | (rcases q19 with zz | zz <;> first | exact absurd zz (entry_c1 (hM i p1) p3 p9 q18) | omega) | (have z2 := entry_c2 (hM i x13) x15 x19 q18 q22; omega))
      · rcases hr with ⟨q1, (⟨(q2 | ⟨i2, q3, q4, q5⟩), ⟨z2, q6⟩, q7⟩ | ⟨i2, k2, q8, q9, q10, q11, (⟨q12, q13, ⟨z2, q14⟩, q15⟩ | ⟨f2, q16, q17, o2, q18, (⟨q19, ⟨z2, q20⟩, q21⟩ | ⟨g2, t2, q22, q23, q24, q25, q26⟩)⟩)⟩)⟩
        · subst x1
          exact ⟨_, q6, fun q => absurd q (by decide), by decide, ⟨_, _, _, _, _, _, _, _, _, _, _, _, _, _, _, hI, q7, hB, Nat.le_refl _, Nat.le_refl _⟩⟩
        · subst x1
          obtain rfl : i = i2 := by omega
          exact ⟨_, q6, fun q => absurd q (by decide), by decide, ⟨_, _, _, _, _, _, _, _, _, _, _, _, _, _, _, hI, q7, hB, Nat.le_refl _, Nat.le_refl _⟩⟩
        · obtain rfl : i = i2 := by omega
          exfalso
          first | omega | (first | (rcases q19 with zz | zz <;> first | exact absurd zz (entry_c1 (hM i p1) p3 p9 q18) | omega) | (have z2 := entry_c2 (hM i x13) x15 x19 q18 q22; omega))
        · obtain rfl : i = i2 := by omega
          exfalso
          first | omega | (first | (rcases q19 with zz | zz <;> first | exact absurd zz (entry_c1 (hM i p1) p3 p9 q18) | omega) | (have z2 := entry_c2 (hM i x13) x15 x19 q18 q22; omega))
        · obtain rfl : i = i2 := by omega
          exfalso
          first | omega | (first | (rcases q19 with zz | zz <;> first | exact absurd zz (entry_c1 (hM i p1) p3 p9 q18) | omega) | (have z2 := entry_c2 (hM i x13) x15 x19 q18 q22; omega))
      · exact absurd x12 (by decide)
      · exact absurd x21 (by decide)
    · rcases hp with (⟨x1, (⟨x2, x3⟩ | ⟨i, x4, x5, (⟨x6, x7⟩ | ⟨x8, x9, x10, x11, x12⟩)⟩)⟩ | ⟨i, fN, tr, x13, x14, x15, x16, x17, x18, x19, x20, x21, x22, x23⟩)
      · exact absurd x3 (by decide)
      · exact absurd x7 (by decide)
      · rcases hr with ⟨q1, (⟨(q2 | ⟨i2, q3, q4, q5⟩), ⟨z2, q6⟩, q7⟩ | ⟨i2, k2, q8, q9, q10, q11, (⟨q12, q13, ⟨z2, q14⟩, q15⟩ | ⟨f2, q16, q17, o2, q18, (⟨q19, ⟨z2, q20⟩, q21⟩ | ⟨g2, t2, q22, q23, q24, q25, q26⟩)⟩)⟩)⟩
        · exfalso
          first | omega | (first | (rcases q19 with zz | zz <;> first | exact absurd zz (entry_c1 (hM i p1) p3 p9 q18) | omega) | (have z2 := entry_c2 (hM i x13) x15 x19 q18 q22; omega))
        · obtain rfl : i = i2 := by omega
          exfalso
          first | omega | (first | (rcases q19 with zz | zz <;> first | exact absurd zz (entry_c1 (hM i p1) p3 p9 q18) | omega) | (have z2 := entry_c2 (hM i x13) x15 x19 q18 q22; omega))
        · subst x1
          obtain rfl : i = i2 := by omega
          exact ⟨_, q14, fun q => absurd q (by decide), by decide, ⟨_, _, _, _, _, _, _, _, _, _, _, _, _, _, _, hI, q15, hB, Nat.le_refl _, Nat.le_refl _⟩⟩
        · obtain rfl : i = i2 := by omega
          exfalso
          first | omega | (first | (rcases q19 with zz | zz <;> first | exact absurd zz (entry_c1 (hM i p1) p3 p9 q18) | omega) | (have z2 := entry_c2 (hM i x13) x15 x19 q18 q22; omega))
        · obtain rfl : i = i2 := by omega
          exfalso
          first | omega | (first | (rcases q19 with zz | zz <;> first | exact absurd zz (entry_c1 (hM i p1) p3 p9 q18) | omega) | (have z2 := entry_c2 (hM i x13) x15 x19 q18 q22; omega))
      · exact absurd x21 (by decide)
    · rcases hp with (⟨x1, (⟨x2, x3⟩ | ⟨i, x4, x5, (⟨x6, x7⟩ | ⟨x8, x9, x10, x11, x12⟩)⟩)⟩ | ⟨i, fN, tr, x13, x14, x15, x16, x17, x18, x19, x20, x21, x22, x23⟩)
      · exact absurd x3 (by decide)
      · exact absurd x7 (by decide)
      · exact absurd x12 (by decide)
      · rcases hr with ⟨q1, (⟨(q2 | ⟨i2, q3, q4, q5⟩), ⟨z2, q6⟩, q7⟩ | ⟨i2, k2, q8, q9, q10, q11, (⟨q12, q13, ⟨z2, q14⟩, q15⟩ | ⟨f2, q16, q17, o2, q18, (⟨q19, ⟨z2, q20⟩, q21⟩ | ⟨g2, t2, q22, q23, q24, q25, q26⟩)⟩)⟩)⟩
        · exfalso
          first | omega | (first | (rcases q19 with zz | zz <;> first | exact absurd zz (entry_c1 (hM i p1) p3 p9 q18) | omega) | (have z2 := entry_c2 (hM i x13) x15 x19 q18 q22; omega))
        · obtain rfl : i = i2 := by omega
          exfalso
          first | omega | (first | (rcases q19 with zz | zz <;> first | exact absurd zz (entry_c1 (hM i p1) p3 p9 q18) | omega) | (have z2 := entry_c2 (hM i x13) x15 x19 q18 q22; omega))
        · obtain rfl : i = i2 := by omega
          exfalso
          first | omega | (first | (rcases q19 with zz | zz <;> first | exact absurd zz (entry_c1 (hM i p1) p3 p9 q18) | omega) | (have z2 := entry_c2 (hM i x13) x15 x19 q18 q22; omega))
        · obtain rfl : i = i2 := by omega
          obtain rfl : fN = f2 := by omega
          exact ⟨_, q20, fun q => absurd q (by decide), by decide, ⟨_, _, _, _, _, _, _, _, _, _, _, _, _, _, _, x22, q21, hB, pC_up, pS_up⟩⟩
        · obtain rfl : i = i2 := by omega
          obtain rfl : fN = f2 := by omega
          exfalso
          first | omega | (first | (rcases q19 with zz | zz <;> first | exact absurd zz (entry_c1 (hM i p1) p3 p9 q18) | omega) | (have z2 := entry_c2 (hM i x13) x15 x19 q18 q22; omega))
end Bf
