/-! The law: operations: both sides agree (Bc) -/
section Bc
def PC_greedy (h : AH) (xo : Nat) (w : Nat → Nat) (c m : Nat) (E : Nat → Nat) (R : Nat → Nat → Nat) (br bf bs be : Int) (D2 D3 : Nat → Bool) (so : Nat) (a1 : Int) (r : Option Value) (h' : AH) : Prop := h' = h ∧ ∃ i, i < m ∧ a1 = (i : Int) ∧ c = E i ∧ r = some (I ((grdN (sortN (R i) (E i)) w (E i) (E i)).1 : Nat))
def XC_greedy (h : AH) (xo : Nat) (w : Nat → Nat) (c m : Nat) (E : Nat → Nat) (R : Nat → Nat → Nat) (br bf bs be : Int) (D2 D3 : Nat → Bool) (so : Nat) (a1 : Int) (E' : String) (h' : AH) : Prop := h' = h ∧ ((noM a1 m ∧ E' = eIOO) ∨ ∃ i, i < m ∧ a1 = (i : Int) ∧ c ≠ E i ∧ E' = eUOE)
def PR_greedy (S0 : State) (h : AH) (mo : Nat) (w : Nat → Nat) (c m : Nat) (E : Nat → Nat) (R : Nat → Nat → Nat) (b0 b1 b2 : Int) (a1 : Int) (r : Option Value) (h' : AH) : Prop := Fr (fun x => x = 120) h h' ∧ ((noM a1 m ∧ (∃ z, r = some (I z)) ∧ RI (zA S0) DRp h' mo 1 c w m E R b0 b1 b2) ∨ ∃ i, i < m ∧ a1 = (i : Int) ∧ ((c ≠ E i ∧ (∃ z, r = some (I z)) ∧ RI (zA S0) DRp h' mo 2 c w m E R b0 b1 b2) ∨ (c = E i ∧ r = some (I (grO (R i) w (E i) 1024 : Nat)) ∧ RI (zA S0) DRp h' mo 0 c w m E R b0 b1 b2)))
theorem fP_greedy {h h1 : AH} {xo : Nat} {w : Nat → Nat} {c m : Nat} {E : Nat → Nat} {R : Nat → Nat → Nat} {br bf bs be : Int} {D2 D3 : Nat → Bool} {so : Nat} {a1 : Int} {r : Option Value} (q : PC_greedy h xo w c m E R br bf bs be D2 D3 so a1 r h1) : Fr HF h h1 := by
  unfold PC_greedy at q
  obtain ⟨p1, i, p2, p3, p4, p5⟩ := q
  rw [p1]; exact Fr.rf
theorem vP_greedy {h h1 : AH} {xo : Nat} {w : Nat → Nat} {c m : Nat} {E : Nat → Nat} {R : Nat → Nat → Nat} {br bf bs be : Int} {D2 D3 : Nat → Bool} {so : Nat} {a1 : Int} {r : Option Value} (q : PC_greedy h xo w c m E R br bf bs be D2 D3 so a1 r h1) : ∃ z : Int, r = some (I z) := by
  unfold PC_greedy at q
  obtain ⟨p1, i, p2, p3, p4, p5⟩ := q
  exact ⟨_, p5⟩
theorem fX_greedy {h h1 : AH} {xo : Nat} {w : Nat → Nat} {c m : Nat} {E : Nat → Nat} {R : Nat → Nat → Nat} {br bf bs be : Int} {D2 D3 : Nat → Bool} {so : Nat} {a1 : Int} {e : String} (q : XC_greedy h xo w c m E R br bf bs be D2 D3 so a1 e h1) : Fr HF h h1 := by
  unfold XC_greedy at q
  rcases q with ⟨x1, (⟨x2, x3⟩ | ⟨i, x4, x5, x6, x7⟩)⟩
  · rw [x1]; exact Fr.rf
  · rw [x1]; exact Fr.rf
theorem eX_greedy {h h1 : AH} {xo : Nat} {w : Nat → Nat} {c m : Nat} {E : Nat → Nat} {R : Nat → Nat → Nat} {br bf bs be : Int} {D2 D3 : Nat → Bool} {so : Nat} {a1 : Int} {e : String} (q : XC_greedy h xo w c m E R br bf bs be D2 D3 so a1 e h1) : e = eIOO ∨ e = eUOE := by
  unfold XC_greedy at q
  rcases q with ⟨x1, (⟨x2, x3⟩ | ⟨i, x4, x5, x6, x7⟩)⟩
  · exact Or.inl x3
  · exact Or.inr (x7)
theorem fR_greedy {S0 : State} {h h1 : AH} {mo : Nat} {w : Nat → Nat} {c m : Nat} {E : Nat → Nat} {R : Nat → Nat → Nat} {b0 b1 b2 : Int} {a1 : Int} {r : Option Value} (q : PR_greedy S0 h mo w c m E R b0 b1 b2 a1 r h1) : Fr (fun x => 120 ≤ x ∧ x ≤ 139) h h1 := by
  unfold PR_greedy at q
  exact q.1.mono (fun l z => by omega)
theorem op_greedy {S0 : State} {h h1 h2 hb : AH} {g : Nat → Int64} {xo mo : Nat} {w : Nat → Nat} {c m : Nat} {E : Nat → Nat} {R : Nat → Nat → Nat} {br bf bs be b0 b1 b2 : Int} {D2 D3 : Nat → Bool} {so kk : Nat} {r2 : Option Value} {a1 : Int} (hI : HI h xo w c m E R br bf bs be D2 D3 so) (hB : BrR br bf bs be b0 b1 b2) (hc : (kk = 0 ∧ ∃ z : Int, PC_greedy h xo w c m E R br bf bs be D2 D3 so a1 (some (I z)) h1 ∧ g 0 = (Int32.ofInt z).toInt64) ∨ ∃ e : String, [eIOO, eUOE][kk - 1]? = some e ∧ 1 ≤ kk ∧ XC_greedy h xo w c m E R br bf bs be D2 D3 so a1 e h1) (hr : PR_greedy S0 hb mo w c m E R b0 b1 b2 a1 r2 h2) : ∃ z2 : Int, r2 = some (I z2) ∧ (kk = 0 → g 0 = (Int32.ofInt z2).toInt64) ∧ kk ≤ 4 ∧ Mg S0 h1 h2 xo mo kk (pC so D2) (pS so D2) := by
  have hM := hI.mtr.2.2.2.2.2.2
  unfold PR_greedy at hr
  rcases hc with ⟨rfl, z, hp, hg⟩ | ⟨e, he, hk, hp⟩
  · unfold PC_greedy at hp
    rcases hp with ⟨p1, i, p2, p3, p4, p5⟩
    rcases hr with ⟨q1, (⟨q2, ⟨z2, q3⟩, q4⟩ | ⟨i2, q5, q6, (⟨q7, ⟨z2, q8⟩, q9⟩ | ⟨q10, q11, q12⟩)⟩)⟩
    · exfalso
      first | omega | (simp_all)
    · obtain rfl : i = i2 := by omega
      exfalso
      first | omega | (simp_all)
    · subst p1
      obtain rfl : i = i2 := by omega
      refine ⟨_, q11, fun _ => ?_, by decide, ⟨_, _, _, _, _, _, _, _, _, _, _, _, _, _, _, hI, q12, hB, Nat.le_refl _, Nat.le_refl _⟩⟩
      rw [hg, iI p5]
      rw [greedy_same (hM i (by assumption)).1 (fun j _ => hI.mtr.2.1 j)]
  · unfold XC_greedy at hp
    rcases ex2 he hk with ⟨rfl, rfl⟩ | ⟨rfl, rfl⟩
    · rcases hp with ⟨x1, (⟨x2, x3⟩ | ⟨i, x4, x5, x6, x7⟩)⟩
      · rcases hr with ⟨q1, (⟨q2, ⟨z2, q3⟩, q4⟩ | ⟨i2, q5, q6, (⟨q7, ⟨z2, q8⟩, q9⟩ | ⟨q10, q11, q12⟩)⟩)⟩
        · subst x1
          exact ⟨_, q3, fun q => absurd q (by decide), by decide, ⟨_, _, _, _, _, _, _, _, _, _, _, _, _, _, _, hI, q4, hB, Nat.le_refl _, Nat.le_refl _⟩⟩
        · exfalso
          first | omega | (simp_all)
        · exfalso
          first | omega | (simp_all)
      · exact absurd x7 (by decide)
    · rcases hp with ⟨x1, (⟨x2, x3⟩ | ⟨i, x4, x5, x6, x7⟩)⟩
      · exact absurd x3 (by decide)
      · rcases hr with ⟨q1, (⟨q2, ⟨z2, q3⟩, q4⟩ | ⟨i2, q5, q6, (⟨q7, ⟨z2, q8⟩, q9⟩ | ⟨q10, q11, q12⟩)⟩)⟩
        · exfalso
          first | omega | (simp_all)
        · subst x1
          obtain rfl : i = i2 := by omega
          exact ⟨_, q8, fun q => absurd q (by decide), by decide, ⟨_, _, _, _, _, _, _, _, _, _, _, _, _, _, _, hI, q9, hB, Nat.le_refl _, Nat.le_refl _⟩⟩
        · obtain rfl : i = i2 := by omega
          exfalso
          first | omega | (simp_all)
def PC_common (h : AH) (xo : Nat) (w : Nat → Nat) (c m : Nat) (E : Nat → Nat) (R : Nat → Nat → Nat) (br bf bs be : Int) (D2 D3 : Nat → Bool) (so : Nat) (a1 a2 : Int) (r : Option Value) (h' : AH) : Prop := h' = h ∧ ∃ i j, i < m ∧ a1 = (i : Int) ∧ j < m ∧ a2 = (j : Int) ∧ E i = E j ∧ r = some (I (bc (amx (fun s => (sortN (R i) (E i) s &&& 1 != 0) && (sortN (R j) (E i) s &&& 1 != 0)) bc 0 0 (2 ^ E i)).1 : Nat))
def XC_common (h : AH) (xo : Nat) (w : Nat → Nat) (c m : Nat) (E : Nat → Nat) (R : Nat → Nat → Nat) (br bf bs be : Int) (D2 D3 : Nat → Bool) (so : Nat) (a1 a2 : Int) (E' : String) (h' : AH) : Prop := h' = h ∧ (((noM a1 m ∨ noM a2 m) ∧ E' = eIOO) ∨ ∃ i j, i < m ∧ a1 = (i : Int) ∧ j < m ∧ a2 = (j : Int) ∧ E i ≠ E j ∧ E' = eUOE)
def PR_common (S0 : State) (h : AH) (mo : Nat) (w : Nat → Nat) (c m : Nat) (E : Nat → Nat) (R : Nat → Nat → Nat) (b0 b1 b2 : Int) (a1 a2 : Int) (r : Option Value) (h' : AH) : Prop := Fr (fun x => x = 120) h h' ∧ (((∃ z, r = some (I z)) ∧ (((noM a1 m ∨ noM a2 m) ∧ RI (zA S0) DRp h' mo 1 c w m E R b0 b1 b2) ∨ ∃ i j : Nat, i < m ∧ a1 = (i : Int) ∧ j < m ∧ a2 = (j : Int) ∧ E i ≠ E j ∧ RI (zA S0) DRp h' mo 2 c w m E R b0 b1 b2)) ∨ ∃ i j : Nat, i < m ∧ a1 = (i : Int) ∧ j < m ∧ a2 = (j : Int) ∧ E i = E j ∧ r = some (I (mstN (R i) (R j) (2 ^ E i) : Nat)) ∧ RI (zA S0) DRp h' mo 0 c w m E R b0 b1 b2)
theorem fP_common {h h1 : AH} {xo : Nat} {w : Nat → Nat} {c m : Nat} {E : Nat → Nat} {R : Nat → Nat → Nat} {br bf bs be : Int} {D2 D3 : Nat → Bool} {so : Nat} {a1 a2 : Int} {r : Option Value} (q : PC_common h xo w c m E R br bf bs be D2 D3 so a1 a2 r h1) : Fr HF h h1 := by
  unfold PC_common at q
  obtain ⟨p1, i, j, p2, p3, p4, p5, p6, p7⟩ := q
  rw [p1]; exact Fr.rf
theorem vP_common {h h1 : AH} {xo : Nat} {w : Nat → Nat} {c m : Nat} {E : Nat → Nat} {R : Nat → Nat → Nat} {br bf bs be : Int} {D2 D3 : Nat → Bool} {so : Nat} {a1 a2 : Int} {r : Option Value} (q : PC_common h xo w c m E R br bf bs be D2 D3 so a1 a2 r h1) : ∃ z : Int, r = some (I z) := by
  unfold PC_common at q
  obtain ⟨p1, i, j, p2, p3, p4, p5, p6, p7⟩ := q
  exact ⟨_, p7⟩
theorem fX_common {h h1 : AH} {xo : Nat} {w : Nat → Nat} {c m : Nat} {E : Nat → Nat} {R : Nat → Nat → Nat} {br bf bs be : Int} {D2 D3 : Nat → Bool} {so : Nat} {a1 a2 : Int} {e : String} (q : XC_common h xo w c m E R br bf bs be D2 D3 so a1 a2 e h1) : Fr HF h h1 := by
  unfold XC_common at q
  rcases q with ⟨x1, (⟨x2, x3⟩ | ⟨i, j, x4, x5, x6, x7, x8, x9⟩)⟩
  · rw [x1]; exact Fr.rf
  · rw [x1]; exact Fr.rf
theorem eX_common {h h1 : AH} {xo : Nat} {w : Nat → Nat} {c m : Nat} {E : Nat → Nat} {R : Nat → Nat → Nat} {br bf bs be : Int} {D2 D3 : Nat → Bool} {so : Nat} {a1 a2 : Int} {e : String} (q : XC_common h xo w c m E R br bf bs be D2 D3 so a1 a2 e h1) : e = eIOO ∨ e = eUOE := by
  unfold XC_common at q
  rcases q with ⟨x1, (⟨x2, x3⟩ | ⟨i, j, x4, x5, x6, x7, x8, x9⟩)⟩
  · exact Or.inl x3
  · exact Or.inr (x9)
theorem fR_common {S0 : State} {h h1 : AH} {mo : Nat} {w : Nat → Nat} {c m : Nat} {E : Nat → Nat} {R : Nat → Nat → Nat} {b0 b1 b2 : Int} {a1 a2 : Int} {r : Option Value} (q : PR_common S0 h mo w c m E R b0 b1 b2 a1 a2 r h1) : Fr (fun x => 120 ≤ x ∧ x ≤ 139) h h1 := by
  unfold PR_common at q
  exact q.1.mono (fun l z => by omega)
theorem op_common {S0 : State} {h h1 h2 hb : AH} {g : Nat → Int64} {xo mo : Nat} {w : Nat → Nat} {c m : Nat} {E : Nat → Nat} {R : Nat → Nat → Nat} {br bf bs be b0 b1 b2 : Int} {D2 D3 : Nat → Bool} {so kk : Nat} {r2 : Option Value} {a1 a2 : Int} (hI : HI h xo w c m E R br bf bs be D2 D3 so) (hB : BrR br bf bs be b0 b1 b2) (hc : (kk = 0 ∧ ∃ z : Int, PC_common h xo w c m E R br bf bs be D2 D3 so a1 a2 (some (I z)) h1 ∧ g 0 = (Int32.ofInt z).toInt64) ∨ ∃ e : String, [eIOO, eUOE][kk - 1]? = some e ∧ 1 ≤ kk ∧ XC_common h xo w c m E R br bf bs be D2 D3 so a1 a2 e h1) (hr : PR_common S0 hb mo w c m E R b0 b1 b2 a1 a2 r2 h2) : ∃ z2 : Int, r2 = some (I z2) ∧ (kk = 0 → g 0 = (Int32.ofInt z2).toInt64) ∧ kk ≤ 4 ∧ Mg S0 h1 h2 xo mo kk (pC so D2) (pS so D2) := by
  have hM := hI.mtr.2.2.2.2.2.2
  unfold PR_common at hr
  rcases hc with ⟨rfl, z, hp, hg⟩ | ⟨e, he, hk, hp⟩
  · unfold PC_common at hp
    rcases hp with ⟨p1, i, j, p2, p3, p4, p5, p6, p7⟩
    rcases hr with ⟨q1, (⟨⟨z2, q2⟩, (⟨q3, q4⟩ | ⟨i2, j2, q5, q6, q7, q8, q9, q10⟩)⟩ | ⟨i2, j2, q11, q12, q13, q14, q15, q16, q17⟩)⟩
    · exfalso
      first | omega | (simp_all)
    · obtain rfl : i = i2 := by omega
      obtain rfl : j = j2 := by omega
      exfalso
      first | omega | (simp_all)
    · subst p1
      obtain rfl : i = i2 := by omega
      obtain rfl : j = j2 := by omega
      refine ⟨_, q16, fun _ => ?_, by decide, ⟨_, _, _, _, _, _, _, _, _, _, _, _, _, _, _, hI, q17, hB, Nat.le_refl _, Nat.le_refl _⟩⟩
      rw [hg, iI p7]
      rw [common_v (hM i (by assumption)) (hM j (by assumption)) (by assumption)]
  · unfold XC_common at hp
    rcases ex2 he hk with ⟨rfl, rfl⟩ | ⟨rfl, rfl⟩
    · rcases hp with ⟨x1, (⟨x2, x3⟩ | ⟨i, j, x4, x5, x6, x7, x8, x9⟩)⟩
      · rcases hr with ⟨q1, (⟨⟨z2, q2⟩, (⟨q3, q4⟩ | ⟨i2, j2, q5, q6, q7, q8, q9, q10⟩)⟩ | ⟨i2, j2, q11, q12, q13, q14, q15, q16, q17⟩)⟩
        · subst x1
          exact ⟨_, q2, fun q => absurd q (by decide), by decide, ⟨_, _, _, _, _, _, _, _, _, _, _, _, _, _, _, hI, q4, hB, Nat.le_refl _, Nat.le_refl _⟩⟩
        · exfalso
          first | omega | (simp_all)
        · exfalso
          first | omega | (simp_all)
      · exact absurd x9 (by decide)
    · rcases hp with ⟨x1, (⟨x2, x3⟩ | ⟨i, j, x4, x5, x6, x7, x8, x9⟩)⟩
      · exact absurd x3 (by decide)
      · rcases hr with ⟨q1, (⟨⟨z2, q2⟩, (⟨q3, q4⟩ | ⟨i2, j2, q5, q6, q7, q8, q9, q10⟩)⟩ | ⟨i2, j2, q11, q12, q13, q14, q15, q16, q17⟩)⟩
        · exfalso
          first | omega | (simp_all)
        · subst x1
          obtain rfl : i = i2 := by omega
          obtain rfl : j = j2 := by omega
          exact ⟨_, q2, fun q => absurd q (by decide), by decide, ⟨_, _, _, _, _, _, _, _, _, _, _, _, _, _, _, hI, q10, hB, Nat.le_refl _, Nat.le_refl _⟩⟩
        · obtain rfl : i = i2 := by omega
          obtain rfl : j = j2 := by omega
          exfalso
          first | omega | (simp_all)
def PC_commonSet (h : AH) (xo : Nat) (w : Nat → Nat) (c m : Nat) (E : Nat → Nat) (R : Nat → Nat → Nat) (br bf bs be : Int) (D2 D3 : Nat → Bool) (so : Nat) (a1 a2 : Int) (r : Option Value) (h' : AH) : Prop := h' = h ∧ ∃ i j, i < m ∧ a1 = (i : Int) ∧ j < m ∧ a2 = (j : Int) ∧ E i = E j ∧ r = some (I ((amx (fun s => (sortN (R i) (E i) s &&& 1 != 0) && (sortN (R j) (E i) s &&& 1 != 0)) bc 0 0 (2 ^ E i)).1 : Nat))
def XC_commonSet (h : AH) (xo : Nat) (w : Nat → Nat) (c m : Nat) (E : Nat → Nat) (R : Nat → Nat → Nat) (br bf bs be : Int) (D2 D3 : Nat → Bool) (so : Nat) (a1 a2 : Int) (E' : String) (h' : AH) : Prop := h' = h ∧ (((noM a1 m ∨ noM a2 m) ∧ E' = eIOO) ∨ ∃ i j, i < m ∧ a1 = (i : Int) ∧ j < m ∧ a2 = (j : Int) ∧ E i ≠ E j ∧ E' = eUOE)
def PR_commonSet (S0 : State) (h : AH) (mo : Nat) (w : Nat → Nat) (c m : Nat) (E : Nat → Nat) (R : Nat → Nat → Nat) (b0 b1 b2 : Int) (a1 a2 : Int) (r : Option Value) (h' : AH) : Prop := Fr (fun x => x = 120) h h' ∧ (((∃ z, r = some (I z)) ∧ (((noM a1 m ∨ noM a2 m) ∧ RI (zA S0) DRp h' mo 1 c w m E R b0 b1 b2) ∨ ∃ i j : Nat, i < m ∧ a1 = (i : Int) ∧ j < m ∧ a2 = (j : Int) ∧ E i ≠ E j ∧ RI (zA S0) DRp h' mo 2 c w m E R b0 b1 b2)) ∨ ∃ i j : Nat, i < m ∧ a1 = (i : Int) ∧ j < m ∧ a2 = (j : Int) ∧ E i = E j ∧ (∃ t : Nat, t < 2 ^ E i ∧ (fun u => frB (R i) u = true ∧ frB (R j) u = true ∧ bc u = mstN (R i) (R j) (2 ^ E i)) t ∧ (∀ u, u < t → ¬ (fun u => frB (R i) u = true ∧ frB (R j) u = true ∧ bc u = mstN (R i) (R j) (2 ^ E i)) u) ∧ r = some (I (t : Int))) ∧ RI (zA S0) DRp h' mo 0 c w m E R b0 b1 b2)
theorem fP_commonSet {h h1 : AH} {xo : Nat} {w : Nat → Nat} {c m : Nat} {E : Nat → Nat} {R : Nat → Nat → Nat} {br bf bs be : Int} {D2 D3 : Nat → Bool} {so : Nat} {a1 a2 : Int} {r : Option Value} (q : PC_commonSet h xo w c m E R br bf bs be D2 D3 so a1 a2 r h1) : Fr HF h h1 := by
  unfold PC_commonSet at q
  obtain ⟨p1, i, j, p2, p3, p4, p5, p6, p7⟩ := q
  rw [p1]; exact Fr.rf
theorem vP_commonSet {h h1 : AH} {xo : Nat} {w : Nat → Nat} {c m : Nat} {E : Nat → Nat} {R : Nat → Nat → Nat} {br bf bs be : Int} {D2 D3 : Nat → Bool} {so : Nat} {a1 a2 : Int} {r : Option Value} (q : PC_commonSet h xo w c m E R br bf bs be D2 D3 so a1 a2 r h1) : ∃ z : Int, r = some (I z) := by
  unfold PC_commonSet at q
  obtain ⟨p1, i, j, p2, p3, p4, p5, p6, p7⟩ := q
  exact ⟨_, p7⟩
theorem fX_commonSet {h h1 : AH} {xo : Nat} {w : Nat → Nat} {c m : Nat} {E : Nat → Nat} {R : Nat → Nat → Nat} {br bf bs be : Int} {D2 D3 : Nat → Bool} {so : Nat} {a1 a2 : Int} {e : String} (q : XC_commonSet h xo w c m E R br bf bs be D2 D3 so a1 a2 e h1) : Fr HF h h1 := by
  unfold XC_commonSet at q
  rcases q with ⟨x1, (⟨x2, x3⟩ | ⟨i, j, x4, x5, x6, x7, x8, x9⟩)⟩
  · rw [x1]; exact Fr.rf
  · rw [x1]; exact Fr.rf
theorem eX_commonSet {h h1 : AH} {xo : Nat} {w : Nat → Nat} {c m : Nat} {E : Nat → Nat} {R : Nat → Nat → Nat} {br bf bs be : Int} {D2 D3 : Nat → Bool} {so : Nat} {a1 a2 : Int} {e : String} (q : XC_commonSet h xo w c m E R br bf bs be D2 D3 so a1 a2 e h1) : e = eIOO ∨ e = eUOE := by
  unfold XC_commonSet at q
  rcases q with ⟨x1, (⟨x2, x3⟩ | ⟨i, j, x4, x5, x6, x7, x8, x9⟩)⟩
  · exact Or.inl x3
  · exact Or.inr (x9)
theorem fR_commonSet {S0 : State} {h h1 : AH} {mo : Nat} {w : Nat → Nat} {c m : Nat} {E : Nat → Nat} {R : Nat → Nat → Nat} {b0 b1 b2 : Int} {a1 a2 : Int} {r : Option Value} (q : PR_commonSet S0 h mo w c m E R b0 b1 b2 a1 a2 r h1) : Fr (fun x => 120 ≤ x ∧ x ≤ 139) h h1 := by
  unfold PR_commonSet at q
  exact q.1.mono (fun l z => by omega)
theorem op_commonSet {S0 : State} {h h1 h2 hb : AH} {g : Nat → Int64} {xo mo : Nat} {w : Nat → Nat} {c m : Nat} {E : Nat → Nat} {R : Nat → Nat → Nat} {br bf bs be b0 b1 b2 : Int} {D2 D3 : Nat → Bool} {so kk : Nat} {r2 : Option Value} {a1 a2 : Int} (hI : HI h xo w c m E R br bf bs be D2 D3 so) (hB : BrR br bf bs be b0 b1 b2) (hc : (kk = 0 ∧ ∃ z : Int, PC_commonSet h xo w c m E R br bf bs be D2 D3 so a1 a2 (some (I z)) h1 ∧ g 0 = (Int32.ofInt z).toInt64) ∨ ∃ e : String, [eIOO, eUOE][kk - 1]? = some e ∧ 1 ≤ kk ∧ XC_commonSet h xo w c m E R br bf bs be D2 D3 so a1 a2 e h1) (hr : PR_commonSet S0 hb mo w c m E R b0 b1 b2 a1 a2 r2 h2) : ∃ z2 : Int, r2 = some (I z2) ∧ (kk = 0 → g 0 = (Int32.ofInt z2).toInt64) ∧ kk ≤ 4 ∧ Mg S0 h1 h2 xo mo kk (pC so D2) (pS so D2) := by
  have hM := hI.mtr.2.2.2.2.2.2
  unfold PR_commonSet at hr
  rcases hc with ⟨rfl, z, hp, hg⟩ | ⟨e, he, hk, hp⟩
  · unfold PC_commonSet at hp
    rcases hp with ⟨p1, i, j, p2, p3, p4, p5, p6, p7⟩
    rcases hr with ⟨q1, (⟨⟨z2, q2⟩, (⟨q3, q4⟩ | ⟨i2, j2, q5, q6, q7, q8, q9, q10⟩)⟩ | ⟨i2, j2, q11, q12, q13, q14, q15, ⟨t2, q16, q17, q18, q19⟩, q20⟩)⟩
    · exfalso
      first | omega | (simp_all)
    · obtain rfl : i = i2 := by omega
      obtain rfl : j = j2 := by omega
      exfalso
      first | omega | (simp_all)
    · subst p1
      obtain rfl : i = i2 := by omega
      obtain rfl : j = j2 := by omega
      refine ⟨_, q19, fun _ => ?_, by decide, ⟨_, _, _, _, _, _, _, _, _, _, _, _, _, _, _, hI, q20, hB, Nat.le_refl _, Nat.le_refl _⟩⟩
      rw [hg, iI p7]
      rw [commonSet_v (hM i (by assumption)) (hM j (by assumption)) (by assumption) (by assumption) (by assumption)]
  · unfold XC_commonSet at hp
    rcases ex2 he hk with ⟨rfl, rfl⟩ | ⟨rfl, rfl⟩
    · rcases hp with ⟨x1, (⟨x2, x3⟩ | ⟨i, j, x4, x5, x6, x7, x8, x9⟩)⟩
      · rcases hr with ⟨q1, (⟨⟨z2, q2⟩, (⟨q3, q4⟩ | ⟨i2, j2, q5, q6, q7, q8, q9, q10⟩)⟩ | ⟨i2, j2, q11, q12, q13, q14, q15, ⟨t2, q16, q17, q18, q19⟩, q20⟩)⟩
        · subst x1
          exact ⟨_, q2, fun q => absurd q (by decide), by decide, ⟨_, _, _, _, _, _, _, _, _, _, _, _, _, _, _, hI, q4, hB, Nat.le_refl _, Nat.le_refl _⟩⟩
        · exfalso
          first | omega | (simp_all)
        · exfalso
          first | omega | (simp_all)
      · exact absurd x9 (by decide)
    · rcases hp with ⟨x1, (⟨x2, x3⟩ | ⟨i, j, x4, x5, x6, x7, x8, x9⟩)⟩
      · exact absurd x3 (by decide)
      · rcases hr with ⟨q1, (⟨⟨z2, q2⟩, (⟨q3, q4⟩ | ⟨i2, j2, q5, q6, q7, q8, q9, q10⟩)⟩ | ⟨i2, j2, q11, q12, q13, q14, q15, ⟨t2, q16, q17, q18, q19⟩, q20⟩)⟩
        · exfalso
          first | omega | (simp_all)
        · subst x1
          obtain rfl : i = i2 := by omega
          obtain rfl : j = j2 := by omega
          exact ⟨_, q2, fun q => absurd q (by decide), by decide, ⟨_, _, _, _, _, _, _, _, _, _, _, _, _, _, _, hI, q10, hB, Nat.le_refl _, Nat.le_refl _⟩⟩
        · obtain rfl : i = i2 := by omega
          obtain rfl : j = j2 := by omega
          exfalso
          first | omega | (simp_all)
def PC_commonBound (h : AH) (xo : Nat) (w : Nat → Nat) (c m : Nat) (E : Nat → Nat) (R : Nat → Nat → Nat) (br bf bs be : Int) (D2 D3 : Nat → Bool) (so : Nat) (a1 a2 : Int) (r : Option Value) (h' : AH) : Prop := h' = h ∧ ∃ i j, i < m ∧ a1 = (i : Int) ∧ j < m ∧ a2 = (j : Int) ∧ E i = E j ∧ r = some (I ((amn (fun _ => true) (fun s => R i s + R j (sdf (2 ^ E i - 1) s)) 0 (R j (2 ^ E i - 1)) (2 ^ E i)).1 : Nat))
def XC_commonBound (h : AH) (xo : Nat) (w : Nat → Nat) (c m : Nat) (E : Nat → Nat) (R : Nat → Nat → Nat) (br bf bs be : Int) (D2 D3 : Nat → Bool) (so : Nat) (a1 a2 : Int) (E' : String) (h' : AH) : Prop := h' = h ∧ (((noM a1 m ∨ noM a2 m) ∧ E' = eIOO) ∨ ∃ i j, i < m ∧ a1 = (i : Int) ∧ j < m ∧ a2 = (j : Int) ∧ E i ≠ E j ∧ E' = eUOE)
def PR_commonBound (S0 : State) (h : AH) (mo : Nat) (w : Nat → Nat) (c m : Nat) (E : Nat → Nat) (R : Nat → Nat → Nat) (b0 b1 b2 : Int) (a1 a2 : Int) (r : Option Value) (h' : AH) : Prop := Fr (fun x => x = 120) h h' ∧ (((∃ z, r = some (I z)) ∧ (((noM a1 m ∨ noM a2 m) ∧ RI (zA S0) DRp h' mo 1 c w m E R b0 b1 b2) ∨ ∃ i j : Nat, i < m ∧ a1 = (i : Int) ∧ j < m ∧ a2 = (j : Int) ∧ E i ≠ E j ∧ RI (zA S0) DRp h' mo 2 c w m E R b0 b1 b2)) ∨ ∃ i j : Nat, i < m ∧ a1 = (i : Int) ∧ j < m ∧ a2 = (j : Int) ∧ E i = E j ∧ (∃ t : Nat, t < 2 ^ E i ∧ (fun u => R i u + R j (sdf (2 ^ E i - 1) u) = mstN (R i) (R j) (2 ^ E i)) t ∧ (∀ u, u < t → ¬ (fun u => R i u + R j (sdf (2 ^ E i - 1) u) = mstN (R i) (R j) (2 ^ E i)) u) ∧ r = some (I (t : Int))) ∧ RI (zA S0) DRp h' mo 0 c w m E R b0 b1 b2)
theorem fP_commonBound {h h1 : AH} {xo : Nat} {w : Nat → Nat} {c m : Nat} {E : Nat → Nat} {R : Nat → Nat → Nat} {br bf bs be : Int} {D2 D3 : Nat → Bool} {so : Nat} {a1 a2 : Int} {r : Option Value} (q : PC_commonBound h xo w c m E R br bf bs be D2 D3 so a1 a2 r h1) : Fr HF h h1 := by
  unfold PC_commonBound at q
  obtain ⟨p1, i, j, p2, p3, p4, p5, p6, p7⟩ := q
  rw [p1]; exact Fr.rf
theorem vP_commonBound {h h1 : AH} {xo : Nat} {w : Nat → Nat} {c m : Nat} {E : Nat → Nat} {R : Nat → Nat → Nat} {br bf bs be : Int} {D2 D3 : Nat → Bool} {so : Nat} {a1 a2 : Int} {r : Option Value} (q : PC_commonBound h xo w c m E R br bf bs be D2 D3 so a1 a2 r h1) : ∃ z : Int, r = some (I z) := by
  unfold PC_commonBound at q
  obtain ⟨p1, i, j, p2, p3, p4, p5, p6, p7⟩ := q
  exact ⟨_, p7⟩
theorem fX_commonBound {h h1 : AH} {xo : Nat} {w : Nat → Nat} {c m : Nat} {E : Nat → Nat} {R : Nat → Nat → Nat} {br bf bs be : Int} {D2 D3 : Nat → Bool} {so : Nat} {a1 a2 : Int} {e : String} (q : XC_commonBound h xo w c m E R br bf bs be D2 D3 so a1 a2 e h1) : Fr HF h h1 := by
  unfold XC_commonBound at q
  rcases q with ⟨x1, (⟨x2, x3⟩ | ⟨i, j, x4, x5, x6, x7, x8, x9⟩)⟩
  · rw [x1]; exact Fr.rf
  · rw [x1]; exact Fr.rf
theorem eX_commonBound {h h1 : AH} {xo : Nat} {w : Nat → Nat} {c m : Nat} {E : Nat → Nat} {R : Nat → Nat → Nat} {br bf bs be : Int} {D2 D3 : Nat → Bool} {so : Nat} {a1 a2 : Int} {e : String} (q : XC_commonBound h xo w c m E R br bf bs be D2 D3 so a1 a2 e h1) : e = eIOO ∨ e = eUOE := by
  unfold XC_commonBound at q
  rcases q with ⟨x1, (⟨x2, x3⟩ | ⟨i, j, x4, x5, x6, x7, x8, x9⟩)⟩
  · exact Or.inl x3
  · exact Or.inr (x9)
theorem fR_commonBound {S0 : State} {h h1 : AH} {mo : Nat} {w : Nat → Nat} {c m : Nat} {E : Nat → Nat} {R : Nat → Nat → Nat} {b0 b1 b2 : Int} {a1 a2 : Int} {r : Option Value} (q : PR_commonBound S0 h mo w c m E R b0 b1 b2 a1 a2 r h1) : Fr (fun x => 120 ≤ x ∧ x ≤ 139) h h1 := by
  unfold PR_commonBound at q
  exact q.1.mono (fun l z => by omega)
theorem op_commonBound {S0 : State} {h h1 h2 hb : AH} {g : Nat → Int64} {xo mo : Nat} {w : Nat → Nat} {c m : Nat} {E : Nat → Nat} {R : Nat → Nat → Nat} {br bf bs be b0 b1 b2 : Int} {D2 D3 : Nat → Bool} {so kk : Nat} {r2 : Option Value} {a1 a2 : Int} (hI : HI h xo w c m E R br bf bs be D2 D3 so) (hB : BrR br bf bs be b0 b1 b2) (hc : (kk = 0 ∧ ∃ z : Int, PC_commonBound h xo w c m E R br bf bs be D2 D3 so a1 a2 (some (I z)) h1 ∧ g 0 = (Int32.ofInt z).toInt64) ∨ ∃ e : String, [eIOO, eUOE][kk - 1]? = some e ∧ 1 ≤ kk ∧ XC_commonBound h xo w c m E R br bf bs be D2 D3 so a1 a2 e h1) (hr : PR_commonBound S0 hb mo w c m E R b0 b1 b2 a1 a2 r2 h2) : ∃ z2 : Int, r2 = some (I z2) ∧ (kk = 0 → g 0 = (Int32.ofInt z2).toInt64) ∧ kk ≤ 4 ∧ Mg S0 h1 h2 xo mo kk (pC so D2) (pS so D2) := by
  have hM := hI.mtr.2.2.2.2.2.2
  unfold PR_commonBound at hr
  rcases hc with ⟨rfl, z, hp, hg⟩ | ⟨e, he, hk, hp⟩
  · unfold PC_commonBound at hp
    rcases hp with ⟨p1, i, j, p2, p3, p4, p5, p6, p7⟩
    rcases hr with ⟨q1, (⟨⟨z2, q2⟩, (⟨q3, q4⟩ | ⟨i2, j2, q5, q6, q7, q8, q9, q10⟩)⟩ | ⟨i2, j2, q11, q12, q13, q14, q15, ⟨t2, q16, q17, q18, q19⟩, q20⟩)⟩
    · exfalso
      first | omega | (simp_all)
    · obtain rfl : i = i2 := by omega
      obtain rfl : j = j2 := by omega
      exfalso
      first | omega | (simp_all)
    · subst p1
      obtain rfl : i = i2 := by omega
      obtain rfl : j = j2 := by omega
      refine ⟨_, q19, fun _ => ?_, by decide, ⟨_, _, _, _, _, _, _, _, _, _, _, _, _, _, _, hI, q20, hB, Nat.le_refl _, Nat.le_refl _⟩⟩
      rw [hg, iI p7]
      rw [commonBound_v (hM i (by assumption)) (hM j (by assumption)) (by assumption) (by assumption) (by assumption)]
  · unfold XC_commonBound at hp
    rcases ex2 he hk with ⟨rfl, rfl⟩ | ⟨rfl, rfl⟩
    · rcases hp with ⟨x1, (⟨x2, x3⟩ | ⟨i, j, x4, x5, x6, x7, x8, x9⟩)⟩
      · rcases hr with ⟨q1, (⟨⟨z2, q2⟩, (⟨q3, q4⟩ | ⟨i2, j2, q5, q6, q7, q8, q9, q10⟩)⟩ | ⟨i2, j2, q11, q12, q13, q14, q15, ⟨t2, q16, q17, q18, q19⟩, q20⟩)⟩
        · subst x1
          exact ⟨_, q2, fun q => absurd q (by decide), by decide, ⟨_, _, _, _, _, _, _, _, _, _, _, _, _, _, _, hI, q4, hB, Nat.le_refl _, Nat.le_refl _⟩⟩
        · exfalso
          first | omega | (simp_all)
        · exfalso
          first | omega | (simp_all)
      · exact absurd x9 (by decide)
    · rcases hp with ⟨x1, (⟨x2, x3⟩ | ⟨i, j, x4, x5, x6, x7, x8, x9⟩)⟩
      · exact absurd x3 (by decide)
      · rcases hr with ⟨q1, (⟨⟨z2, q2⟩, (⟨q3, q4⟩ | ⟨i2, j2, q5, q6, q7, q8, q9, q10⟩)⟩ | ⟨i2, j2, q11, q12, q13, q14, q15, ⟨t2, q16, q17, q18, q19⟩, q20⟩)⟩
        · exfalso
          first | omega | (simp_all)
        · subst x1
          obtain rfl : i = i2 := by omega
          obtain rfl : j = j2 := by omega
          exact ⟨_, q2, fun q => absurd q (by decide), by decide, ⟨_, _, _, _, _, _, _, _, _, _, _, _, _, _, _, hI, q10, hB, Nat.le_refl _, Nat.le_refl _⟩⟩
        · obtain rfl : i = i2 := by omega
          obtain rfl : j = j2 := by omega
          exfalso
          first | omega | (simp_all)
def PC_cover (h : AH) (xo : Nat) (w : Nat → Nat) (c m : Nat) (E : Nat → Nat) (R : Nat → Nat → Nat) (br bf bs be : Int) (D2 D3 : Nat → Bool) (so : Nat) (a1 : Int) (r : Option Value) (h' : AH) : Prop := h' = h ∧ ∃ i, i < m ∧ a1 = (i : Int) ∧ loopB (R i) (E i) = false ∧ r = some (I (pfN (R i) (amx (fun _ => true) (pfN (R i)) 0 0 (2 ^ E i)).1 : Nat))
def XC_cover (h : AH) (xo : Nat) (w : Nat → Nat) (c m : Nat) (E : Nat → Nat) (R : Nat → Nat → Nat) (br bf bs be : Int) (D2 D3 : Nat → Bool) (so : Nat) (a1 : Int) (E' : String) (h' : AH) : Prop := h' = h ∧ ((noM a1 m ∧ E' = eIOO) ∨ ∃ i, i < m ∧ a1 = (i : Int) ∧ loopB (R i) (E i) = true ∧ E' = eUOE)
def PR_cover (S0 : State) (h : AH) (mo : Nat) (w : Nat → Nat) (c m : Nat) (E : Nat → Nat) (R : Nat → Nat → Nat) (b0 b1 b2 : Int) (a1 : Int) (r : Option Value) (h' : AH) : Prop := Fr (fun x => x = 120) h h' ∧ ((noM a1 m ∧ (∃ z, r = some (I z)) ∧ RI (zA S0) DRp h' mo 1 c w m E R b0 b1 b2) ∨ ∃ i, i < m ∧ a1 = (i : Int) ∧ ((loopB (R i) (E i) = true ∧ (∃ z, r = some (I z)) ∧ RI (zA S0) DRp h' mo 2 c w m E R b0 b1 b2) ∨ (loopB (R i) (E i) = false ∧ r = some (I (cvM (R i) (2 ^ E i) : Nat)) ∧ RI (zA S0) DRp h' mo 0 c w m E R b0 b1 b2)))
theorem fP_cover {h h1 : AH} {xo : Nat} {w : Nat → Nat} {c m : Nat} {E : Nat → Nat} {R : Nat → Nat → Nat} {br bf bs be : Int} {D2 D3 : Nat → Bool} {so : Nat} {a1 : Int} {r : Option Value} (q : PC_cover h xo w c m E R br bf bs be D2 D3 so a1 r h1) : Fr HF h h1 := by
  unfold PC_cover at q
  obtain ⟨p1, i, p2, p3, p4, p5⟩ := q
  rw [p1]; exact Fr.rf
theorem vP_cover {h h1 : AH} {xo : Nat} {w : Nat → Nat} {c m : Nat} {E : Nat → Nat} {R : Nat → Nat → Nat} {br bf bs be : Int} {D2 D3 : Nat → Bool} {so : Nat} {a1 : Int} {r : Option Value} (q : PC_cover h xo w c m E R br bf bs be D2 D3 so a1 r h1) : ∃ z : Int, r = some (I z) := by
  unfold PC_cover at q
  obtain ⟨p1, i, p2, p3, p4, p5⟩ := q
  exact ⟨_, p5⟩
theorem fX_cover {h h1 : AH} {xo : Nat} {w : Nat → Nat} {c m : Nat} {E : Nat → Nat} {R : Nat → Nat → Nat} {br bf bs be : Int} {D2 D3 : Nat → Bool} {so : Nat} {a1 : Int} {e : String} (q : XC_cover h xo w c m E R br bf bs be D2 D3 so a1 e h1) : Fr HF h h1 := by
  unfold XC_cover at q
  rcases q with ⟨x1, (⟨x2, x3⟩ | ⟨i, x4, x5, x6, x7⟩)⟩
  · rw [x1]; exact Fr.rf
  · rw [x1]; exact Fr.rf
theorem eX_cover {h h1 : AH} {xo : Nat} {w : Nat → Nat} {c m : Nat} {E : Nat → Nat} {R : Nat → Nat → Nat} {br bf bs be : Int} {D2 D3 : Nat → Bool} {so : Nat} {a1 : Int} {e : String} (q : XC_cover h xo w c m E R br bf bs be D2 D3 so a1 e h1) : e = eIOO ∨ e = eUOE := by
  unfold XC_cover at q
  rcases q with ⟨x1, (⟨x2, x3⟩ | ⟨i, x4, x5, x6, x7⟩)⟩
  · exact Or.inl x3
  · exact Or.inr (x7)
theorem fR_cover {S0 : State} {h h1 : AH} {mo : Nat} {w : Nat → Nat} {c m : Nat} {E : Nat → Nat} {R : Nat → Nat → Nat} {b0 b1 b2 : Int} {a1 : Int} {r : Option Value} (q : PR_cover S0 h mo w c m E R b0 b1 b2 a1 r h1) : Fr (fun x => 120 ≤ x ∧ x ≤ 139) h h1 := by
  unfold PR_cover at q
  exact q.1.mono (fun l z => by omega)
theorem op_cover {S0 : State} {h h1 h2 hb : AH} {g : Nat → Int64} {xo mo : Nat} {w : Nat → Nat} {c m : Nat} {E : Nat → Nat} {R : Nat → Nat → Nat} {br bf bs be b0 b1 b2 : Int} {D2 D3 : Nat → Bool} {so kk : Nat} {r2 : Option Value} {a1 : Int} (hI : HI h xo w c m E R br bf bs be D2 D3 so) (hB : BrR br bf bs be b0 b1 b2) (hc : (kk = 0 ∧ ∃ z : Int, PC_cover h xo w c m E R br bf bs be D2 D3 so a1 (some (I z)) h1 ∧ g 0 = (Int32.ofInt z).toInt64) ∨ ∃ e : String, [eIOO, eUOE][kk - 1]? = some e ∧ 1 ≤ kk ∧ XC_cover h xo w c m E R br bf bs be D2 D3 so a1 e h1) (hr : PR_cover S0 hb mo w c m E R b0 b1 b2 a1 r2 h2) : ∃ z2 : Int, r2 = some (I z2) ∧ (kk = 0 → g 0 = (Int32.ofInt z2).toInt64) ∧ kk ≤ 4 ∧ Mg S0 h1 h2 xo mo kk (pC so D2) (pS so D2) := by
  have hM := hI.mtr.2.2.2.2.2.2
  unfold PR_cover at hr
  rcases hc with ⟨rfl, z, hp, hg⟩ | ⟨e, he, hk, hp⟩
  · unfold PC_cover at hp
    rcases hp with ⟨p1, i, p2, p3, p4, p5⟩
    rcases hr with ⟨q1, (⟨q2, ⟨z2, q3⟩, q4⟩ | ⟨i2, q5, q6, (⟨q7, ⟨z2, q8⟩, q9⟩ | ⟨q10, q11, q12⟩)⟩)⟩
    · exfalso
      first | omega | (simp_all)
    · obtain rfl : i = i2 := by omega
      exfalso
      first | omega | (simp_all)
    · subst p1
      obtain rfl : i = i2 := by omega
      refine ⟨_, q11, fun _ => ?_, by decide, ⟨_, _, _, _, _, _, _, _, _, _, _, _, _, _, _, hI, q12, hB, Nat.le_refl _, Nat.le_refl _⟩⟩
      rw [hg, iI p5]
      rw [(cover_is (hM i (by assumption)) (by assumption) rfl).1]
  · unfold XC_cover at hp
    rcases ex2 he hk with ⟨rfl, rfl⟩ | ⟨rfl, rfl⟩
    · rcases hp with ⟨x1, (⟨x2, x3⟩ | ⟨i, x4, x5, x6, x7⟩)⟩
      · rcases hr with ⟨q1, (⟨q2, ⟨z2, q3⟩, q4⟩ | ⟨i2, q5, q6, (⟨q7, ⟨z2, q8⟩, q9⟩ | ⟨q10, q11, q12⟩)⟩)⟩
        · subst x1
          exact ⟨_, q3, fun q => absurd q (by decide), by decide, ⟨_, _, _, _, _, _, _, _, _, _, _, _, _, _, _, hI, q4, hB, Nat.le_refl _, Nat.le_refl _⟩⟩
        · exfalso
          first | omega | (simp_all)
        · exfalso
          first | omega | (simp_all)
      · exact absurd x7 (by decide)
    · rcases hp with ⟨x1, (⟨x2, x3⟩ | ⟨i, x4, x5, x6, x7⟩)⟩
      · exact absurd x3 (by decide)
      · rcases hr with ⟨q1, (⟨q2, ⟨z2, q3⟩, q4⟩ | ⟨i2, q5, q6, (⟨q7, ⟨z2, q8⟩, q9⟩ | ⟨q10, q11, q12⟩)⟩)⟩
        · exfalso
          first | omega | (simp_all)
        · subst x1
          obtain rfl : i = i2 := by omega
          exact ⟨_, q8, fun q => absurd q (by decide), by decide, ⟨_, _, _, _, _, _, _, _, _, _, _, _, _, _, _, hI, q9, hB, Nat.le_refl _, Nat.le_refl _⟩⟩
        · obtain rfl : i = i2 := by omega
          exfalso
          first | omega | (simp_all)
def PC_coverBound (h : AH) (xo : Nat) (w : Nat → Nat) (c m : Nat) (E : Nat → Nat) (R : Nat → Nat → Nat) (br bf bs be : Int) (D2 D3 : Nat → Bool) (so : Nat) (a1 : Int) (r : Option Value) (h' : AH) : Prop := h' = h ∧ ∃ i, i < m ∧ a1 = (i : Int) ∧ loopB (R i) (E i) = false ∧ E i ≠ 0 ∧ r = some (I ((amx (fun _ => true) (pfN (R i)) 0 0 (2 ^ E i)).1 : Nat))
def XC_coverBound (h : AH) (xo : Nat) (w : Nat → Nat) (c m : Nat) (E : Nat → Nat) (R : Nat → Nat → Nat) (br bf bs be : Int) (D2 D3 : Nat → Bool) (so : Nat) (a1 : Int) (E' : String) (h' : AH) : Prop := h' = h ∧ ((noM a1 m ∧ E' = eIOO) ∨ ∃ i, i < m ∧ a1 = (i : Int) ∧ ((loopB (R i) (E i) = true ∧ E' = eUOE) ∨ (loopB (R i) (E i) = false ∧ E i = 0 ∧ E' = eNSE)))
def PR_coverBound (S0 : State) (h : AH) (mo : Nat) (w : Nat → Nat) (c m : Nat) (E : Nat → Nat) (R : Nat → Nat → Nat) (b0 b1 b2 : Int) (a1 : Int) (r : Option Value) (h' : AH) : Prop := Fr (fun x => x = 120) h h' ∧ ((noM a1 m ∧ (∃ z, r = some (I z)) ∧ RI (zA S0) DRp h' mo 1 c w m E R b0 b1 b2) ∨ ∃ i, i < m ∧ a1 = (i : Int) ∧ ((loopB (R i) (E i) = true ∧ (∃ z, r = some (I z)) ∧ RI (zA S0) DRp h' mo 2 c w m E R b0 b1 b2) ∨ (loopB (R i) (E i) = false ∧ ((E i = 0 ∧ (∃ z, r = some (I z)) ∧ RI (zA S0) DRp h' mo 3 c w m E R b0 b1 b2) ∨ (E i ≠ 0 ∧ ∃ t : Nat, 1 ≤ t ∧ t < 2 ^ E i ∧ ndN (R i) t = cvM (R i) (2 ^ E i) ∧ (∀ u, 1 ≤ u → u < t → ndN (R i) u ≠ cvM (R i) (2 ^ E i)) ∧ r = some (I (t : Int)) ∧ RI (zA S0) DRp h' mo 0 c w m E R b0 b1 b2)))))
theorem fP_coverBound {h h1 : AH} {xo : Nat} {w : Nat → Nat} {c m : Nat} {E : Nat → Nat} {R : Nat → Nat → Nat} {br bf bs be : Int} {D2 D3 : Nat → Bool} {so : Nat} {a1 : Int} {r : Option Value} (q : PC_coverBound h xo w c m E R br bf bs be D2 D3 so a1 r h1) : Fr HF h h1 := by
  unfold PC_coverBound at q
  obtain ⟨p1, i, p2, p3, p4, p5, p6⟩ := q
  rw [p1]; exact Fr.rf
theorem vP_coverBound {h h1 : AH} {xo : Nat} {w : Nat → Nat} {c m : Nat} {E : Nat → Nat} {R : Nat → Nat → Nat} {br bf bs be : Int} {D2 D3 : Nat → Bool} {so : Nat} {a1 : Int} {r : Option Value} (q : PC_coverBound h xo w c m E R br bf bs be D2 D3 so a1 r h1) : ∃ z : Int, r = some (I z) := by
  unfold PC_coverBound at q
  obtain ⟨p1, i, p2, p3, p4, p5, p6⟩ := q
  exact ⟨_, p6⟩
theorem fX_coverBound {h h1 : AH} {xo : Nat} {w : Nat → Nat} {c m : Nat} {E : Nat → Nat} {R : Nat → Nat → Nat} {br bf bs be : Int} {D2 D3 : Nat → Bool} {so : Nat} {a1 : Int} {e : String} (q : XC_coverBound h xo w c m E R br bf bs be D2 D3 so a1 e h1) : Fr HF h h1 := by
  unfold XC_coverBound at q
  rcases q with ⟨x1, (⟨x2, x3⟩ | ⟨i, x4, x5, (⟨x6, x7⟩ | ⟨x8, x9, x10⟩)⟩)⟩
  · rw [x1]; exact Fr.rf
  · rw [x1]; exact Fr.rf
  · rw [x1]; exact Fr.rf
theorem eX_coverBound {h h1 : AH} {xo : Nat} {w : Nat → Nat} {c m : Nat} {E : Nat → Nat} {R : Nat → Nat → Nat} {br bf bs be : Int} {D2 D3 : Nat → Bool} {so : Nat} {a1 : Int} {e : String} (q : XC_coverBound h xo w c m E R br bf bs be D2 D3 so a1 e h1) : e = eIOO ∨ e = eUOE ∨ e = eNSE := by
  unfold XC_coverBound at q
  rcases q with ⟨x1, (⟨x2, x3⟩ | ⟨i, x4, x5, (⟨x6, x7⟩ | ⟨x8, x9, x10⟩)⟩)⟩
  · exact Or.inl x3
  · exact Or.inr (Or.inl x7)
  · exact Or.inr (Or.inr (x10))
theorem fR_coverBound {S0 : State} {h h1 : AH} {mo : Nat} {w : Nat → Nat} {c m : Nat} {E : Nat → Nat} {R : Nat → Nat → Nat} {b0 b1 b2 : Int} {a1 : Int} {r : Option Value} (q : PR_coverBound S0 h mo w c m E R b0 b1 b2 a1 r h1) : Fr (fun x => 120 ≤ x ∧ x ≤ 139) h h1 := by
  unfold PR_coverBound at q
  exact q.1.mono (fun l z => by omega)
theorem op_coverBound {S0 : State} {h h1 h2 hb : AH} {g : Nat → Int64} {xo mo : Nat} {w : Nat → Nat} {c m : Nat} {E : Nat → Nat} {R : Nat → Nat → Nat} {br bf bs be b0 b1 b2 : Int} {D2 D3 : Nat → Bool} {so kk : Nat} {r2 : Option Value} {a1 : Int} (hI : HI h xo w c m E R br bf bs be D2 D3 so) (hB : BrR br bf bs be b0 b1 b2) (hc : (kk = 0 ∧ ∃ z : Int, PC_coverBound h xo w c m E R br bf bs be D2 D3 so a1 (some (I z)) h1 ∧ g 0 = (Int32.ofInt z).toInt64) ∨ ∃ e : String, [eIOO, eUOE, eNSE][kk - 1]? = some e ∧ 1 ≤ kk ∧ XC_coverBound h xo w c m E R br bf bs be D2 D3 so a1 e h1) (hr : PR_coverBound S0 hb mo w c m E R b0 b1 b2 a1 r2 h2) : ∃ z2 : Int, r2 = some (I z2) ∧ (kk = 0 → g 0 = (Int32.ofInt z2).toInt64) ∧ kk ≤ 4 ∧ Mg S0 h1 h2 xo mo kk (pC so D2) (pS so D2) := by
  have hM := hI.mtr.2.2.2.2.2.2
  unfold PR_coverBound at hr
  rcases hc with ⟨rfl, z, hp, hg⟩ | ⟨e, he, hk, hp⟩
  · unfold PC_coverBound at hp
    rcases hp with ⟨p1, i, p2, p3, p4, p5, p6⟩
    rcases hr with ⟨q1, (⟨q2, ⟨z2, q3⟩, q4⟩ | ⟨i2, q5, q6, (⟨q7, ⟨z2, q8⟩, q9⟩ | ⟨q10, (⟨q11, ⟨z2, q12⟩, q13⟩ | ⟨q14, t2, q15, q16, q17, q18, q19, q20⟩)⟩)⟩)⟩
    · exfalso
      first | omega | (simp_all)
    · obtain rfl : i = i2 := by omega
      exfalso
      first | omega | (simp_all)
    · obtain rfl : i = i2 := by omega
      exfalso
      first | omega | (simp_all)
    · subst p1
      obtain rfl : i = i2 := by omega
      refine ⟨_, q19, fun _ => ?_, by decide, ⟨_, _, _, _, _, _, _, _, _, _, _, _, _, _, _, hI, q20, hB, Nat.le_refl _, Nat.le_refl _⟩⟩
      rw [hg, iI p6]
      rw [coverBound_v (hM i (by assumption)) (by assumption) (by assumption) (by assumption) (by assumption) (by assumption)]
  · unfold XC_coverBound at hp
    rcases ex3 he hk with ⟨rfl, rfl⟩ | ⟨rfl, rfl⟩ | ⟨rfl, rfl⟩
    · rcases hp with ⟨x1, (⟨x2, x3⟩ | ⟨i, x4, x5, (⟨x6, x7⟩ | ⟨x8, x9, x10⟩)⟩)⟩
      · rcases hr with ⟨q1, (⟨q2, ⟨z2, q3⟩, q4⟩ | ⟨i2, q5, q6, (⟨q7, ⟨z2, q8⟩, q9⟩ | ⟨q10, (⟨q11, ⟨z2, q12⟩, q13⟩ | ⟨q14, t2, q15, q16, q17, q18, q19, q20⟩)⟩)⟩)⟩
        · subst x1
          exact ⟨_, q3, fun q => absurd q (by decide), by decide, ⟨_, _, _, _, _, _, _, _, _, _, _, _, _, _, _, hI, q4, hB, Nat.le_refl _, Nat.le_refl _⟩⟩
        · exfalso
          first | omega | (simp_all)
        · exfalso
          first | omega | (simp_all)
        · exfalso
          first | omega | (simp_all)
      · exact absurd x7 (by decide)
      · exact absurd x10 (by decide)
    · rcases hp with ⟨x1, (⟨x2, x3⟩ | ⟨i, x4, x5, (⟨x6, x7⟩ | ⟨x8, x9, x10⟩)⟩)⟩
      · exact absurd x3 (by decide)
      · rcases hr with ⟨q1, (⟨q2, ⟨z2, q3⟩, q4⟩ | ⟨i2, q5, q6, (⟨q7, ⟨z2, q8⟩, q9⟩ | ⟨q10, (⟨q11, ⟨z2, q12⟩, q13⟩ | ⟨q14, t2, q15, q16, q17, q18, q19, q20⟩)⟩)⟩)⟩
        · exfalso
          first | omega | (simp_all)
        · subst x1
          obtain rfl : i = i2 := by omega
          exact ⟨_, q8, fun q => absurd q (by decide), by decide, ⟨_, _, _, _, _, _, _, _, _, _, _, _, _, _, _, hI, q9, hB, Nat.le_refl _, Nat.le_refl _⟩⟩
        · obtain rfl : i = i2 := by omega
          exfalso
          first | omega | (simp_all)
        · obtain rfl : i = i2 := by omega
          exfalso
          first | omega | (simp_all)
      · exact absurd x10 (by decide)
    · rcases hp with ⟨x1, (⟨x2, x3⟩ | ⟨i, x4, x5, (⟨x6, x7⟩ | ⟨x8, x9, x10⟩)⟩)⟩
      · exact absurd x3 (by decide)
      · exact absurd x7 (by decide)
      · rcases hr with ⟨q1, (⟨q2, ⟨z2, q3⟩, q4⟩ | ⟨i2, q5, q6, (⟨q7, ⟨z2, q8⟩, q9⟩ | ⟨q10, (⟨q11, ⟨z2, q12⟩, q13⟩ | ⟨q14, t2, q15, q16, q17, q18, q19, q20⟩)⟩)⟩)⟩
        · exfalso
          first | omega | (simp_all)
        · obtain rfl : i = i2 := by omega
          exfalso
          first | omega | (simp_all)
        · subst x1
          obtain rfl : i = i2 := by omega
          exact ⟨_, q12, fun q => absurd q (by decide), by decide, ⟨_, _, _, _, _, _, _, _, _, _, _, _, _, _, _, hI, q13, hB, Nat.le_refl _, Nat.le_refl _⟩⟩
        · obtain rfl : i = i2 := by omega
          exfalso
          first | omega | (simp_all)
def PC_packing (h : AH) (xo : Nat) (w : Nat → Nat) (c m : Nat) (E : Nat → Nat) (R : Nat → Nat → Nat) (br bf bs be : Int) (D2 D3 : Nat → Bool) (so : Nat) (a1 : Int) (r : Option Value) (h' : AH) : Prop := h' = h ∧ ∃ i, i < m ∧ a1 = (i : Int) ∧ R i (2 ^ E i - 1) ≠ 0 ∧ r = some (I (bbN (R i) (E i) (R i (2 ^ E i - 1)) (amn (fun s => decide (R i s < R i (2 ^ E i - 1))) (bbN (R i) (E i) (R i (2 ^ E i - 1))) 0 (bbN (R i) (E i) (R i (2 ^ E i - 1)) 0) (2 ^ E i)).1 : Nat))
def XC_packing (h : AH) (xo : Nat) (w : Nat → Nat) (c m : Nat) (E : Nat → Nat) (R : Nat → Nat → Nat) (br bf bs be : Int) (D2 D3 : Nat → Bool) (so : Nat) (a1 : Int) (E' : String) (h' : AH) : Prop := h' = h ∧ ((noM a1 m ∧ E' = eIOO) ∨ ∃ i, i < m ∧ a1 = (i : Int) ∧ R i (2 ^ E i - 1) = 0 ∧ E' = eUOE)
def PR_packing (S0 : State) (h : AH) (mo : Nat) (w : Nat → Nat) (c m : Nat) (E : Nat → Nat) (R : Nat → Nat → Nat) (b0 b1 b2 : Int) (a1 : Int) (r : Option Value) (h' : AH) : Prop := Fr (fun x => x = 120) h h' ∧ ((noM a1 m ∧ (∃ z, r = some (I z)) ∧ RI (zA S0) DRp h' mo 1 c w m E R b0 b1 b2) ∨ ∃ i, i < m ∧ a1 = (i : Int) ∧ ((R i (2 ^ E i - 1) = 0 ∧ (∃ z, r = some (I z)) ∧ RI (zA S0) DRp h' mo 2 c w m E R b0 b1 b2) ∨ (R i (2 ^ E i - 1) ≠ 0 ∧ r = some (I (pkM (R i) (E i) (2 ^ E i) : Nat)) ∧ RI (zA S0) DRp h' mo 0 c w m E R b0 b1 b2)))
theorem fP_packing {h h1 : AH} {xo : Nat} {w : Nat → Nat} {c m : Nat} {E : Nat → Nat} {R : Nat → Nat → Nat} {br bf bs be : Int} {D2 D3 : Nat → Bool} {so : Nat} {a1 : Int} {r : Option Value} (q : PC_packing h xo w c m E R br bf bs be D2 D3 so a1 r h1) : Fr HF h h1 := by
  unfold PC_packing at q
  obtain ⟨p1, i, p2, p3, p4, p5⟩ := q
  rw [p1]; exact Fr.rf
theorem vP_packing {h h1 : AH} {xo : Nat} {w : Nat → Nat} {c m : Nat} {E : Nat → Nat} {R : Nat → Nat → Nat} {br bf bs be : Int} {D2 D3 : Nat → Bool} {so : Nat} {a1 : Int} {r : Option Value} (q : PC_packing h xo w c m E R br bf bs be D2 D3 so a1 r h1) : ∃ z : Int, r = some (I z) := by
  unfold PC_packing at q
  obtain ⟨p1, i, p2, p3, p4, p5⟩ := q
  exact ⟨_, p5⟩
theorem fX_packing {h h1 : AH} {xo : Nat} {w : Nat → Nat} {c m : Nat} {E : Nat → Nat} {R : Nat → Nat → Nat} {br bf bs be : Int} {D2 D3 : Nat → Bool} {so : Nat} {a1 : Int} {e : String} (q : XC_packing h xo w c m E R br bf bs be D2 D3 so a1 e h1) : Fr HF h h1 := by
  unfold XC_packing at q
  rcases q with ⟨x1, (⟨x2, x3⟩ | ⟨i, x4, x5, x6, x7⟩)⟩
  · rw [x1]; exact Fr.rf
  · rw [x1]; exact Fr.rf
theorem eX_packing {h h1 : AH} {xo : Nat} {w : Nat → Nat} {c m : Nat} {E : Nat → Nat} {R : Nat → Nat → Nat} {br bf bs be : Int} {D2 D3 : Nat → Bool} {so : Nat} {a1 : Int} {e : String} (q : XC_packing h xo w c m E R br bf bs be D2 D3 so a1 e h1) : e = eIOO ∨ e = eUOE := by
  unfold XC_packing at q
  rcases q with ⟨x1, (⟨x2, x3⟩ | ⟨i, x4, x5, x6, x7⟩)⟩
  · exact Or.inl x3
  · exact Or.inr (x7)
theorem fR_packing {S0 : State} {h h1 : AH} {mo : Nat} {w : Nat → Nat} {c m : Nat} {E : Nat → Nat} {R : Nat → Nat → Nat} {b0 b1 b2 : Int} {a1 : Int} {r : Option Value} (q : PR_packing S0 h mo w c m E R b0 b1 b2 a1 r h1) : Fr (fun x => 120 ≤ x ∧ x ≤ 139) h h1 := by
  unfold PR_packing at q
  exact q.1.mono (fun l z => by omega)
theorem op_packing {S0 : State} {h h1 h2 hb : AH} {g : Nat → Int64} {xo mo : Nat} {w : Nat → Nat} {c m : Nat} {E : Nat → Nat} {R : Nat → Nat → Nat} {br bf bs be b0 b1 b2 : Int} {D2 D3 : Nat → Bool} {so kk : Nat} {r2 : Option Value} {a1 : Int} (hI : HI h xo w c m E R br bf bs be D2 D3 so) (hB : BrR br bf bs be b0 b1 b2) (hc : (kk = 0 ∧ ∃ z : Int, PC_packing h xo w c m E R br bf bs be D2 D3 so a1 (some (I z)) h1 ∧ g 0 = (Int32.ofInt z).toInt64) ∨ ∃ e : String, [eIOO, eUOE][kk - 1]? = some e ∧ 1 ≤ kk ∧ XC_packing h xo w c m E R br bf bs be D2 D3 so a1 e h1) (hr : PR_packing S0 hb mo w c m E R b0 b1 b2 a1 r2 h2) : ∃ z2 : Int, r2 = some (I z2) ∧ (kk = 0 → g 0 = (Int32.ofInt z2).toInt64) ∧ kk ≤ 4 ∧ Mg S0 h1 h2 xo mo kk (pC so D2) (pS so D2) := by
  have hM := hI.mtr.2.2.2.2.2.2
  unfold PR_packing at hr
  rcases hc with ⟨rfl, z, hp, hg⟩ | ⟨e, he, hk, hp⟩
  · unfold PC_packing at hp
    rcases hp with ⟨p1, i, p2, p3, p4, p5⟩
    rcases hr with ⟨q1, (⟨q2, ⟨z2, q3⟩, q4⟩ | ⟨i2, q5, q6, (⟨q7, ⟨z2, q8⟩, q9⟩ | ⟨q10, q11, q12⟩)⟩)⟩
    · exfalso
      first | omega | (simp_all)
    · obtain rfl : i = i2 := by omega
      exfalso
      first | omega | (simp_all)
    · subst p1
      obtain rfl : i = i2 := by omega
      refine ⟨_, q11, fun _ => ?_, by decide, ⟨_, _, _, _, _, _, _, _, _, _, _, _, _, _, _, hI, q12, hB, Nat.le_refl _, Nat.le_refl _⟩⟩
      rw [hg, iI p5]
      rw [(packing_is (hM i (by assumption)) (by assumption) rfl).1]
  · unfold XC_packing at hp
    rcases ex2 he hk with ⟨rfl, rfl⟩ | ⟨rfl, rfl⟩
    · rcases hp with ⟨x1, (⟨x2, x3⟩ | ⟨i, x4, x5, x6, x7⟩)⟩
      · rcases hr with ⟨q1, (⟨q2, ⟨z2, q3⟩, q4⟩ | ⟨i2, q5, q6, (⟨q7, ⟨z2, q8⟩, q9⟩ | ⟨q10, q11, q12⟩)⟩)⟩
        · subst x1
          exact ⟨_, q3, fun q => absurd q (by decide), by decide, ⟨_, _, _, _, _, _, _, _, _, _, _, _, _, _, _, hI, q4, hB, Nat.le_refl _, Nat.le_refl _⟩⟩
        · exfalso
          first | omega | (simp_all)
        · exfalso
          first | omega | (simp_all)
      · exact absurd x7 (by decide)
    · rcases hp with ⟨x1, (⟨x2, x3⟩ | ⟨i, x4, x5, x6, x7⟩)⟩
      · exact absurd x3 (by decide)
      · rcases hr with ⟨q1, (⟨q2, ⟨z2, q3⟩, q4⟩ | ⟨i2, q5, q6, (⟨q7, ⟨z2, q8⟩, q9⟩ | ⟨q10, q11, q12⟩)⟩)⟩
        · exfalso
          first | omega | (simp_all)
        · subst x1
          obtain rfl : i = i2 := by omega
          exact ⟨_, q8, fun q => absurd q (by decide), by decide, ⟨_, _, _, _, _, _, _, _, _, _, _, _, _, _, _, hI, q9, hB, Nat.le_refl _, Nat.le_refl _⟩⟩
        · obtain rfl : i = i2 := by omega
          exfalso
          first | omega | (simp_all)
def PC_packingBound (h : AH) (xo : Nat) (w : Nat → Nat) (c m : Nat) (E : Nat → Nat) (R : Nat → Nat → Nat) (br bf bs be : Int) (D2 D3 : Nat → Bool) (so : Nat) (a1 : Int) (r : Option Value) (h' : AH) : Prop := h' = h ∧ ∃ i, i < m ∧ a1 = (i : Int) ∧ R i (2 ^ E i - 1) ≠ 0 ∧ r = some (I ((amn (fun s => decide (R i s < R i (2 ^ E i - 1))) (bbN (R i) (E i) (R i (2 ^ E i - 1))) 0 (bbN (R i) (E i) (R i (2 ^ E i - 1)) 0) (2 ^ E i)).1 : Nat))
def XC_packingBound (h : AH) (xo : Nat) (w : Nat → Nat) (c m : Nat) (E : Nat → Nat) (R : Nat → Nat → Nat) (br bf bs be : Int) (D2 D3 : Nat → Bool) (so : Nat) (a1 : Int) (E' : String) (h' : AH) : Prop := h' = h ∧ ((noM a1 m ∧ E' = eIOO) ∨ ∃ i, i < m ∧ a1 = (i : Int) ∧ R i (2 ^ E i - 1) = 0 ∧ E' = eUOE)
def PR_packingBound (S0 : State) (h : AH) (mo : Nat) (w : Nat → Nat) (c m : Nat) (E : Nat → Nat) (R : Nat → Nat → Nat) (b0 b1 b2 : Int) (a1 : Int) (r : Option Value) (h' : AH) : Prop := Fr (fun x => x = 120) h h' ∧ ((noM a1 m ∧ (∃ z, r = some (I z)) ∧ RI (zA S0) DRp h' mo 1 c w m E R b0 b1 b2) ∨ ∃ i, i < m ∧ a1 = (i : Int) ∧ ((R i (2 ^ E i - 1) = 0 ∧ (∃ z, r = some (I z)) ∧ RI (zA S0) DRp h' mo 2 c w m E R b0 b1 b2) ∨ (R i (2 ^ E i - 1) ≠ 0 ∧ ∃ t : Nat, t < 2 ^ E i ∧ alwN (R i) (E i) t = pkM (R i) (E i) (2 ^ E i) ∧ (∀ u, u < t → alwN (R i) (E i) u ≠ pkM (R i) (E i) (2 ^ E i)) ∧ r = some (I (t : Int)) ∧ RI (zA S0) DRp h' mo 0 c w m E R b0 b1 b2)))
theorem fP_packingBound {h h1 : AH} {xo : Nat} {w : Nat → Nat} {c m : Nat} {E : Nat → Nat} {R : Nat → Nat → Nat} {br bf bs be : Int} {D2 D3 : Nat → Bool} {so : Nat} {a1 : Int} {r : Option Value} (q : PC_packingBound h xo w c m E R br bf bs be D2 D3 so a1 r h1) : Fr HF h h1 := by
  unfold PC_packingBound at q
  obtain ⟨p1, i, p2, p3, p4, p5⟩ := q
  rw [p1]; exact Fr.rf
theorem vP_packingBound {h h1 : AH} {xo : Nat} {w : Nat → Nat} {c m : Nat} {E : Nat → Nat} {R : Nat → Nat → Nat} {br bf bs be : Int} {D2 D3 : Nat → Bool} {so : Nat} {a1 : Int} {r : Option Value} (q : PC_packingBound h xo w c m E R br bf bs be D2 D3 so a1 r h1) : ∃ z : Int, r = some (I z) := by
  unfold PC_packingBound at q
  obtain ⟨p1, i, p2, p3, p4, p5⟩ := q
  exact ⟨_, p5⟩
theorem fX_packingBound {h h1 : AH} {xo : Nat} {w : Nat → Nat} {c m : Nat} {E : Nat → Nat} {R : Nat → Nat → Nat} {br bf bs be : Int} {D2 D3 : Nat → Bool} {so : Nat} {a1 : Int} {e : String} (q : XC_packingBound h xo w c m E R br bf bs be D2 D3 so a1 e h1) : Fr HF h h1 := by
  unfold XC_packingBound at q
  rcases q with ⟨x1, (⟨x2, x3⟩ | ⟨i, x4, x5, x6, x7⟩)⟩
  · rw [x1]; exact Fr.rf
  · rw [x1]; exact Fr.rf
theorem eX_packingBound {h h1 : AH} {xo : Nat} {w : Nat → Nat} {c m : Nat} {E : Nat → Nat} {R : Nat → Nat → Nat} {br bf bs be : Int} {D2 D3 : Nat → Bool} {so : Nat} {a1 : Int} {e : String} (q : XC_packingBound h xo w c m E R br bf bs be D2 D3 so a1 e h1) : e = eIOO ∨ e = eUOE := by
  unfold XC_packingBound at q
  rcases q with ⟨x1, (⟨x2, x3⟩ | ⟨i, x4, x5, x6, x7⟩)⟩
  · exact Or.inl x3
  · exact Or.inr (x7)
theorem fR_packingBound {S0 : State} {h h1 : AH} {mo : Nat} {w : Nat → Nat} {c m : Nat} {E : Nat → Nat} {R : Nat → Nat → Nat} {b0 b1 b2 : Int} {a1 : Int} {r : Option Value} (q : PR_packingBound S0 h mo w c m E R b0 b1 b2 a1 r h1) : Fr (fun x => 120 ≤ x ∧ x ≤ 139) h h1 := by
  unfold PR_packingBound at q
  exact q.1.mono (fun l z => by omega)
theorem op_packingBound {S0 : State} {h h1 h2 hb : AH} {g : Nat → Int64} {xo mo : Nat} {w : Nat → Nat} {c m : Nat} {E : Nat → Nat} {R : Nat → Nat → Nat} {br bf bs be b0 b1 b2 : Int} {D2 D3 : Nat → Bool} {so kk : Nat} {r2 : Option Value} {a1 : Int} (hI : HI h xo w c m E R br bf bs be D2 D3 so) (hB : BrR br bf bs be b0 b1 b2) (hc : (kk = 0 ∧ ∃ z : Int, PC_packingBound h xo w c m E R br bf bs be D2 D3 so a1 (some (I z)) h1 ∧ g 0 = (Int32.ofInt z).toInt64) ∨ ∃ e : String, [eIOO, eUOE][kk - 1]? = some e ∧ 1 ≤ kk ∧ XC_packingBound h xo w c m E R br bf bs be D2 D3 so a1 e h1) (hr : PR_packingBound S0 hb mo w c m E R b0 b1 b2 a1 r2 h2) : ∃ z2 : Int, r2 = some (I z2) ∧ (kk = 0 → g 0 = (Int32.ofInt z2).toInt64) ∧ kk ≤ 4 ∧ Mg S0 h1 h2 xo mo kk (pC so D2) (pS so D2) := by
  have hM := hI.mtr.2.2.2.2.2.2
  unfold PR_packingBound at hr
  rcases hc with ⟨rfl, z, hp, hg⟩ | ⟨e, he, hk, hp⟩
  · unfold PC_packingBound at hp
    rcases hp with ⟨p1, i, p2, p3, p4, p5⟩
    rcases hr with ⟨q1, (⟨q2, ⟨z2, q3⟩, q4⟩ | ⟨i2, q5, q6, (⟨q7, ⟨z2, q8⟩, q9⟩ | ⟨q10, t2, q11, q12, q13, q14, q15⟩)⟩)⟩
    · exfalso
      first | omega | (simp_all)
    · obtain rfl : i = i2 := by omega
      exfalso
      first | omega | (simp_all)
    · subst p1
      obtain rfl : i = i2 := by omega
      refine ⟨_, q14, fun _ => ?_, by decide, ⟨_, _, _, _, _, _, _, _, _, _, _, _, _, _, _, hI, q15, hB, Nat.le_refl _, Nat.le_refl _⟩⟩
      rw [hg, iI p5]
      rw [packingBound_v (hM i (by assumption)) (by assumption) (by assumption) (by assumption)]
  · unfold XC_packingBound at hp
    rcases ex2 he hk with ⟨rfl, rfl⟩ | ⟨rfl, rfl⟩
    · rcases hp with ⟨x1, (⟨x2, x3⟩ | ⟨i, x4, x5, x6, x7⟩)⟩
      · rcases hr with ⟨q1, (⟨q2, ⟨z2, q3⟩, q4⟩ | ⟨i2, q5, q6, (⟨q7, ⟨z2, q8⟩, q9⟩ | ⟨q10, t2, q11, q12, q13, q14, q15⟩)⟩)⟩
        · subst x1
          exact ⟨_, q3, fun q => absurd q (by decide), by decide, ⟨_, _, _, _, _, _, _, _, _, _, _, _, _, _, _, hI, q4, hB, Nat.le_refl _, Nat.le_refl _⟩⟩
        · exfalso
          first | omega | (simp_all)
        · exfalso
          first | omega | (simp_all)
      · exact absurd x7 (by decide)
    · rcases hp with ⟨x1, (⟨x2, x3⟩ | ⟨i, x4, x5, x6, x7⟩)⟩
      · exact absurd x3 (by decide)
      · rcases hr with ⟨q1, (⟨q2, ⟨z2, q3⟩, q4⟩ | ⟨i2, q5, q6, (⟨q7, ⟨z2, q8⟩, q9⟩ | ⟨q10, t2, q11, q12, q13, q14, q15⟩)⟩)⟩
        · exfalso
          first | omega | (simp_all)
        · subst x1
          obtain rfl : i = i2 := by omega
          exact ⟨_, q8, fun q => absurd q (by decide), by decide, ⟨_, _, _, _, _, _, _, _, _, _, _, _, _, _, _, hI, q9, hB, Nat.le_refl _, Nat.le_refl _⟩⟩
        · obtain rfl : i = i2 := by omega
          exfalso
          first | omega | (simp_all)
def PC_value (h : AH) (xo : Nat) (w : Nat → Nat) (c m : Nat) (E : Nat → Nat) (R : Nat → Nat → Nat) (br bf bs be : Int) (D2 D3 : Nat → Bool) (so : Nat) (a1 a2 a3 : Int) (r : Option Value) (h' : AH) : Prop := h' = h ∧ ∃ i : Nat, i < m ∧ a1 = (i : Int) ∧ (-9 ≤ a2 ∧ a2 ≤ 9) ∧ (-9 ≤ a3 ∧ a3 ≤ 9) ∧ r = some (Lg (valN (shpN (R i) (E i)) a2 a3))
def XC_value (h : AH) (xo : Nat) (w : Nat → Nat) (c m : Nat) (E : Nat → Nat) (R : Nat → Nat → Nat) (br bf bs be : Int) (D2 D3 : Nat → Bool) (so : Nat) (a1 a2 a3 : Int) (E' : String) (h' : AH) : Prop := h' = h ∧ ((noM a1 m ∧ E' = eIOO) ∨ ∃ i, i < m ∧ a1 = (i : Int) ∧ ¬ ((-9 ≤ a2 ∧ a2 ≤ 9) ∧ (-9 ≤ a3 ∧ a3 ≤ 9)) ∧ E' = eIAE)
def PR_value (S0 : State) (h : AH) (mo : Nat) (w : Nat → Nat) (c m : Nat) (E : Nat → Nat) (R : Nat → Nat → Nat) (b0 b1 b2 : Int) (a1 a2 a3 : Int) (r : Option Value) (h' : AH) : Prop := Fr (fun a2 => a2 = 120) h h' ∧ ((noM a1 m ∧ (∃ z, r = some (Lg z)) ∧ RI (zA S0) DRp h' mo 1 c w m E R b0 b1 b2) ∨ ∃ i, i < m ∧ a1 = (i : Int) ∧ ((¬ (-9 ≤ a2 ∧ a2 ≤ 9) ∨ ¬ (-9 ≤ a3 ∧ a3 ≤ 9)) ∧ (∃ z, r = some (Lg z)) ∧ RI (zA S0) DRp h' mo 2 c w m E R b0 b1 b2 ∨ (-9 ≤ a2 ∧ a2 ≤ 9 ∧ -9 ≤ a3 ∧ a3 ≤ 9 ∧ r = some (Lg (valM (R i) (E i) a2 a3 (2 ^ E i)))) ∧ RI (zA S0) DRp h' mo 0 c w m E R b0 b1 b2))
theorem fP_value {h h1 : AH} {xo : Nat} {w : Nat → Nat} {c m : Nat} {E : Nat → Nat} {R : Nat → Nat → Nat} {br bf bs be : Int} {D2 D3 : Nat → Bool} {so : Nat} {a1 a2 a3 : Int} {r : Option Value} (q : PC_value h xo w c m E R br bf bs be D2 D3 so a1 a2 a3 r h1) : Fr HF h h1 := by
  unfold PC_value at q
  obtain ⟨p1, i, p2, p3, ⟨p4, p5⟩, ⟨p6, p7⟩, p8⟩ := q
  rw [p1]; exact Fr.rf
theorem vP_value {h h1 : AH} {xo : Nat} {w : Nat → Nat} {c m : Nat} {E : Nat → Nat} {R : Nat → Nat → Nat} {br bf bs be : Int} {D2 D3 : Nat → Bool} {so : Nat} {a1 a2 a3 : Int} {r : Option Value} (q : PC_value h xo w c m E R br bf bs be D2 D3 so a1 a2 a3 r h1) : ∃ z : Int64, r = some (.long z) := by
  unfold PC_value at q
  obtain ⟨p1, i, p2, p3, ⟨p4, p5⟩, ⟨p6, p7⟩, p8⟩ := q
  exact ⟨_, p8⟩
theorem fX_value {h h1 : AH} {xo : Nat} {w : Nat → Nat} {c m : Nat} {E : Nat → Nat} {R : Nat → Nat → Nat} {br bf bs be : Int} {D2 D3 : Nat → Bool} {so : Nat} {a1 a2 a3 : Int} {e : String} (q : XC_value h xo w c m E R br bf bs be D2 D3 so a1 a2 a3 e h1) : Fr HF h h1 := by
  unfold XC_value at q
  rcases q with ⟨x1, (⟨x2, x3⟩ | ⟨i, x4, x5, x6, x7⟩)⟩
  · rw [x1]; exact Fr.rf
  · rw [x1]; exact Fr.rf
theorem eX_value {h h1 : AH} {xo : Nat} {w : Nat → Nat} {c m : Nat} {E : Nat → Nat} {R : Nat → Nat → Nat} {br bf bs be : Int} {D2 D3 : Nat → Bool} {so : Nat} {a1 a2 a3 : Int} {e : String} (q : XC_value h xo w c m E R br bf bs be D2 D3 so a1 a2 a3 e h1) : e = eIOO ∨ e = eIAE := by
  unfold XC_value at q
  rcases q with ⟨x1, (⟨x2, x3⟩ | ⟨i, x4, x5, x6, x7⟩)⟩
  · exact Or.inl x3
  · exact Or.inr (x7)
theorem fR_value {S0 : State} {h h1 : AH} {mo : Nat} {w : Nat → Nat} {c m : Nat} {E : Nat → Nat} {R : Nat → Nat → Nat} {b0 b1 b2 : Int} {a1 a2 a3 : Int} {r : Option Value} (q : PR_value S0 h mo w c m E R b0 b1 b2 a1 a2 a3 r h1) : Fr (fun x => 120 ≤ x ∧ x ≤ 139) h h1 := by
  unfold PR_value at q
  exact q.1.mono (fun l z => by omega)
theorem op_value {S0 : State} {h h1 h2 hb : AH} {g : Nat → Int64} {xo mo : Nat} {w : Nat → Nat} {c m : Nat} {E : Nat → Nat} {R : Nat → Nat → Nat} {br bf bs be b0 b1 b2 : Int} {D2 D3 : Nat → Bool} {so kk : Nat} {r2 : Option Value} {a1 a2 a3 : Int} (hI : HI h xo w c m E R br bf bs be D2 D3 so) (hB : BrR br bf bs be b0 b1 b2) (hc : (kk = 0 ∧ ∃ z : Int64, PC_value h xo w c m E R br bf bs be D2 D3 so a1 a2 a3 (some (.long z)) h1 ∧ g 0 = z) ∨ ∃ e : String, [eIOO, eIAE][kk - 1]? = some e ∧ 1 ≤ kk ∧ XC_value h xo w c m E R br bf bs be D2 D3 so a1 a2 a3 e h1) (hr : PR_value S0 hb mo w c m E R b0 b1 b2 a1 a2 a3 r2 h2) : ∃ z2 : Int64, r2 = some (.long z2) ∧ (kk = 0 → g 0 = z2) ∧ kk ≤ 4 ∧ Mg S0 h1 h2 xo mo kk (pC so D2) (pS so D2) := by
  have hM := hI.mtr.2.2.2.2.2.2
  unfold PR_value at hr
  rcases hc with ⟨rfl, z, hp, hg⟩ | ⟨e, he, hk, hp⟩
  · unfold PC_value at hp
    rcases hp with ⟨p1, i, p2, p3, ⟨p4, p5⟩, ⟨p6, p7⟩, p8⟩
    rcases hr with ⟨q1, (⟨q2, ⟨z2, q3⟩, q4⟩ | ⟨i2, q5, q6, (⟨q7, ⟨z2, q8⟩, q9⟩ | ⟨⟨q10, q11, q12, q13, q14⟩, q15⟩)⟩)⟩
    · exfalso
      first | omega | (simp_all)
    · obtain rfl : i = i2 := by omega
      exfalso
      first | omega | (simp_all)
    · subst p1
      obtain rfl : i = i2 := by omega
      refine ⟨_, q14, fun _ => ?_, by decide, ⟨_, _, _, _, _, _, _, _, _, _, _, _, _, _, _, hI, q15, hB, Nat.le_refl _, Nat.le_refl _⟩⟩
      rw [hg, lI p8]
      rw [value_same (hM i (by assumption))]
  · unfold XC_value at hp
    rcases ex2 he hk with ⟨rfl, rfl⟩ | ⟨rfl, rfl⟩
    · rcases hp with ⟨x1, (⟨x2, x3⟩ | ⟨i, x4, x5, x6, x7⟩)⟩
      · rcases hr with ⟨q1, (⟨q2, ⟨z2, q3⟩, q4⟩ | ⟨i2, q5, q6, (⟨q7, ⟨z2, q8⟩, q9⟩ | ⟨⟨q10, q11, q12, q13, q14⟩, q15⟩)⟩)⟩
        · subst x1
          exact ⟨_, q3, fun q => absurd q (by decide), by decide, ⟨_, _, _, _, _, _, _, _, _, _, _, _, _, _, _, hI, q4, hB, Nat.le_refl _, Nat.le_refl _⟩⟩
        · exfalso
          first | omega | (simp_all)
        · exfalso
          first | omega | (simp_all)
      · exact absurd x7 (by decide)
    · rcases hp with ⟨x1, (⟨x2, x3⟩ | ⟨i, x4, x5, x6, x7⟩)⟩
      · exact absurd x3 (by decide)
      · rcases hr with ⟨q1, (⟨q2, ⟨z2, q3⟩, q4⟩ | ⟨i2, q5, q6, (⟨q7, ⟨z2, q8⟩, q9⟩ | ⟨⟨q10, q11, q12, q13, q14⟩, q15⟩)⟩)⟩
        · exfalso
          first | omega | (simp_all)
        · subst x1
          obtain rfl : i = i2 := by omega
          exact ⟨_, q8, fun q => absurd q (by decide), by decide, ⟨_, _, _, _, _, _, _, _, _, _, _, _, _, _, _, hI, q9, hB, Nat.le_refl _, Nat.le_refl _⟩⟩
        · obtain rfl : i = i2 := by omega
          exfalso
          first | omega | (simp_all)
end Bc
