/-! The law: operations: both sides agree (Be) -/
section Be
def PC_uniform (h : AH) (xo : Nat) (w : Nat → Nat) (c m : Nat) (E : Nat → Nat) (R : Nat → Nat → Nat) (br bf bs be : Int) (D2 D3 : Nat → Bool) (so : Nat) (a1 a2 : Int) (r : Option Value) (h' : AH) : Prop := ∃ r0 e : Nat, (a1 = (r0 : Int) ∧ a2 = (e : Int) ∧ r0 ≤ e ∧ e ≤ 10) ∧ m < 24 ∧ r = some (I (m : Nat)) ∧ HI h' xo w c (m + 1) (up E m (e)) (up R m (fun s => min r0 (bc s))) br bf bs be D2 D3 so ∧ Fr HF h h'
def XC_uniform (h : AH) (xo : Nat) (w : Nat → Nat) (c m : Nat) (E : Nat → Nat) (R : Nat → Nat → Nat) (br bf bs be : Int) (D2 D3 : Nat → Bool) (so : Nat) (a1 a2 : Int) (E' : String) (h' : AH) : Prop := h' = h ∧ ((¬ (0 ≤ a1 ∧ a1 ≤ a2 ∧ a2 ≤ 10) ∧ E' = eIAE) ∨ (0 ≤ a1 ∧ a1 ≤ a2 ∧ a2 ≤ 10 ∧ m = 24 ∧ E' = eISE))
def PR_uniform (S0 : State) (h : AH) (mo : Nat) (w : Nat → Nat) (c m : Nat) (E : Nat → Nat) (R : Nat → Nat → Nat) (b0 b1 b2 : Int) (a1 a2 : Int) (r : Option Value) (h' : AH) : Prop := Fr (fun x => 120 ≤ x ∧ x ≤ 134) h h' ∧ (((¬ (0 ≤ a2 ∧ a2 ≤ 10) ∨ ¬ (0 ≤ a1 ∧ a1 ≤ a2)) ∧ (∃ z, r = some (I z)) ∧ RI (zA S0) DRp h' mo 1 c w m E R b0 b1 b2) ∨ (0 ≤ a2 ∧ a2 ≤ 10 ∧ 0 ≤ a1 ∧ a1 ≤ a2 ∧ m = 24 ∧ (∃ z, r = some (I z)) ∧ RI (zA S0) DRp h' mo 2 c w m E R b0 b1 b2) ∨ ∃ e kk : Nat, a2 = (e : Int) ∧ a1 = (kk : Int) ∧ e ≤ 10 ∧ kk ≤ e ∧ m ≠ 24 ∧ r = some (I (m : Nat)) ∧ RI (zA S0) DRp h' mo 0 c w (m + 1) (up E m (e)) (up R m (fun s => min kk (bc s))) b0 b1 b2)
theorem fP_uniform {h h1 : AH} {xo : Nat} {w : Nat → Nat} {c m : Nat} {E : Nat → Nat} {R : Nat → Nat → Nat} {br bf bs be : Int} {D2 D3 : Nat → Bool} {so : Nat} {a1 a2 : Int} {r : Option Value} (q : PC_uniform h xo w c m E R br bf bs be D2 D3 so a1 a2 r h1) : Fr HF h h1 := by
  unfold PC_uniform at q
  obtain ⟨r0, e, ⟨p1, p2, p3, p4⟩, p5, p6, p7, p8⟩ := q
  exact p8
theorem vP_uniform {h h1 : AH} {xo : Nat} {w : Nat → Nat} {c m : Nat} {E : Nat → Nat} {R : Nat → Nat → Nat} {br bf bs be : Int} {D2 D3 : Nat → Bool} {so : Nat} {a1 a2 : Int} {r : Option Value} (q : PC_uniform h xo w c m E R br bf bs be D2 D3 so a1 a2 r h1) : ∃ z : Int, r = some (I z) := by
  unfold PC_uniform at q
  obtain ⟨r0, e, ⟨p1, p2, p3, p4⟩, p5, p6, p7, p8⟩ := q
  exact ⟨_, p6⟩
theorem fX_uniform {h h1 : AH} {xo : Nat} {w : Nat → Nat} {c m : Nat} {E : Nat → Nat} {R : Nat → Nat → Nat} {br bf bs be : Int} {D2 D3 : Nat → Bool} {so : Nat} {a1 a2 : Int} {e : String} (q : XC_uniform h xo w c m E R br bf bs be D2 D3 so a1 a2 e h1) : Fr HF h h1 := by
  unfold XC_uniform at q
  rcases q with ⟨x1, (⟨x2, x3⟩ | ⟨x4, x5, x6, x7, x8⟩)⟩
  · rw [x1]; exact Fr.rf
  · rw [x1]; exact Fr.rf
theorem eX_uniform {h h1 : AH} {xo : Nat} {w : Nat → Nat} {c m : Nat} {E : Nat → Nat} {R : Nat → Nat → Nat} {br bf bs be : Int} {D2 D3 : Nat → Bool} {so : Nat} {a1 a2 : Int} {e : String} (q : XC_uniform h xo w c m E R br bf bs be D2 D3 so a1 a2 e h1) : e = eIAE ∨ e = eISE := by
  unfold XC_uniform at q
  rcases q with ⟨x1, (⟨x2, x3⟩ | ⟨x4, x5, x6, x7, x8⟩)⟩
  · exact Or.inl x3
  · exact Or.inr (x8)
theorem fR_uniform {S0 : State} {h h1 : AH} {mo : Nat} {w : Nat → Nat} {c m : Nat} {E : Nat → Nat} {R : Nat → Nat → Nat} {b0 b1 b2 : Int} {a1 a2 : Int} {r : Option Value} (q : PR_uniform S0 h mo w c m E R b0 b1 b2 a1 a2 r h1) : Fr (fun x => 120 ≤ x ∧ x ≤ 139) h h1 := by
  unfold PR_uniform at q
  exact q.1.mono (fun l z => by omega)
theorem op_uniform {S0 : State} {h h1 h2 hb : AH} {g : Nat → Int64} {xo mo : Nat} {w : Nat → Nat} {c m : Nat} {E : Nat → Nat} {R : Nat → Nat → Nat} {br bf bs be b0 b1 b2 : Int} {D2 D3 : Nat → Bool} {so kk : Nat} {r2 : Option Value} {a1 a2 : Int} (hI : HI h xo w c m E R br bf bs be D2 D3 so) (hB : BrR br bf bs be b0 b1 b2) (hc : (kk = 0 ∧ ∃ z : Int, PC_uniform h xo w c m E R br bf bs be D2 D3 so a1 a2 (some (I z)) h1 ∧ g 0 = (Int32.ofInt z).toInt64) ∨ ∃ e : String, [eIAE, eISE][kk - 1]? = some e ∧ 1 ≤ kk ∧ XC_uniform h xo w c m E R br bf bs be D2 D3 so a1 a2 e h1) (hr : PR_uniform S0 hb mo w c m E R b0 b1 b2 a1 a2 r2 h2) : ∃ z2 : Int, r2 = some (I z2) ∧ (kk = 0 → g 0 = (Int32.ofInt z2).toInt64) ∧ kk ≤ 4 ∧ Mg S0 h1 h2 xo mo kk (pC so D2) (pS so D2) := by
  have hM := hI.mtr.2.2.2.2.2.2
  unfold PR_uniform at hr
  rcases hc with ⟨rfl, z, hp, hg⟩ | ⟨e, he, hk, hp⟩
  · unfold PC_uniform at hp
    rcases hp with ⟨r0, e, ⟨p1, p2, p3, p4⟩, p5, p6, p7, p8⟩
    rcases hr with ⟨q1, (⟨q2, ⟨z2, q3⟩, q4⟩ | ⟨q5, q6, q7, q8, q9, ⟨z2, q10⟩, q11⟩ | ⟨e2, kk2, q12, q13, q14, q15, q16, q17, q18⟩)⟩
    · exfalso
      first | omega | (simp_all)
    · exfalso
      first | omega | (simp_all)
    · obtain rfl : e = e2 := by omega
      obtain rfl : r0 = kk2 := by omega
      refine ⟨_, q17, fun _ => ?_, by decide, ⟨_, _, _, _, _, _, _, _, _, _, _, _, _, _, _, p7, q18, hB, Nat.le_refl _, Nat.le_refl _⟩⟩
      rw [hg, iI p6]
  · unfold XC_uniform at hp
    rcases ex2 he hk with ⟨rfl, rfl⟩ | ⟨rfl, rfl⟩
    · rcases hp with ⟨x1, (⟨x2, x3⟩ | ⟨x4, x5, x6, x7, x8⟩)⟩
      · rcases hr with ⟨q1, (⟨q2, ⟨z2, q3⟩, q4⟩ | ⟨q5, q6, q7, q8, q9, ⟨z2, q10⟩, q11⟩ | ⟨e2, kk2, q12, q13, q14, q15, q16, q17, q18⟩)⟩
        · subst x1
          exact ⟨_, q3, fun q => absurd q (by decide), by decide, ⟨_, _, _, _, _, _, _, _, _, _, _, _, _, _, _, hI, q4, hB, Nat.le_refl _, Nat.le_refl _⟩⟩
        · exfalso
          first | omega | (simp_all)
        · exfalso
          first | omega | (simp_all)
      · exact absurd x8 (by decide)
    · rcases hp with ⟨x1, (⟨x2, x3⟩ | ⟨x4, x5, x6, x7, x8⟩)⟩
      · exact absurd x3 (by decide)
      · rcases hr with ⟨q1, (⟨q2, ⟨z2, q3⟩, q4⟩ | ⟨q5, q6, q7, q8, q9, ⟨z2, q10⟩, q11⟩ | ⟨e2, kk2, q12, q13, q14, q15, q16, q17, q18⟩)⟩
        · exfalso
          first | omega | (simp_all)
        · subst x1
          exact ⟨_, q10, fun q => absurd q (by decide), by decide, ⟨_, _, _, _, _, _, _, _, _, _, _, _, _, _, _, hI, q11, hB, Nat.le_refl _, Nat.le_refl _⟩⟩
        · exfalso
          first | omega | (simp_all)
def PC_dual (h : AH) (xo : Nat) (w : Nat → Nat) (c m : Nat) (E : Nat → Nat) (R : Nat → Nat → Nat) (br bf bs be : Int) (D2 D3 : Nat → Bool) (so : Nat) (a1 : Int) (r : Option Value) (h' : AH) : Prop := ∃ i, (i < m ∧ a1 = (i : Int)) ∧ m < 24 ∧ r = some (I (m : Nat)) ∧ HI h' xo w c (m + 1) (up E m (E i)) (up R m (dualR (R i) (E i))) br bf bs be D2 D3 so ∧ Fr HF h h'
def XC_dual (h : AH) (xo : Nat) (w : Nat → Nat) (c m : Nat) (E : Nat → Nat) (R : Nat → Nat → Nat) (br bf bs be : Int) (D2 D3 : Nat → Bool) (so : Nat) (a1 : Int) (E' : String) (h' : AH) : Prop := h' = h ∧ ((noM a1 m ∧ E' = eIOO) ∨ ∃ i, i < m ∧ a1 = (i : Int) ∧ m = 24 ∧ E' = eISE)
def PR_dual (S0 : State) (h : AH) (mo : Nat) (w : Nat → Nat) (c m : Nat) (E : Nat → Nat) (R : Nat → Nat → Nat) (b0 b1 b2 : Int) (a1 : Int) (r : Option Value) (h' : AH) : Prop := Fr (fun x => 120 ≤ x ∧ x ≤ 134) h h' ∧ ((noM a1 m ∧ (∃ z, r = some (I z)) ∧ RI (zA S0) DRp h' mo 1 c w m E R b0 b1 b2) ∨ ∃ i, i < m ∧ a1 = (i : Int) ∧ ((m = 24 ∧ (∃ z, r = some (I z)) ∧ RI (zA S0) DRp h' mo 2 c w m E R b0 b1 b2) ∨ (m ≠ 24 ∧ r = some (I (m : Nat)) ∧ RI (zA S0) DRp h' mo 0 c w (m + 1) (up E m (E i)) (up R m (fun s => dualR (R i) (E i) s)) b0 b1 b2)))
theorem fP_dual {h h1 : AH} {xo : Nat} {w : Nat → Nat} {c m : Nat} {E : Nat → Nat} {R : Nat → Nat → Nat} {br bf bs be : Int} {D2 D3 : Nat → Bool} {so : Nat} {a1 : Int} {r : Option Value} (q : PC_dual h xo w c m E R br bf bs be D2 D3 so a1 r h1) : Fr HF h h1 := by
  unfold PC_dual at q
  obtain ⟨i, ⟨p1, p2⟩, p3, p4, p5, p6⟩ := q
  exact p6
theorem vP_dual {h h1 : AH} {xo : Nat} {w : Nat → Nat} {c m : Nat} {E : Nat → Nat} {R : Nat → Nat → Nat} {br bf bs be : Int} {D2 D3 : Nat → Bool} {so : Nat} {a1 : Int} {r : Option Value} (q : PC_dual h xo w c m E R br bf bs be D2 D3 so a1 r h1) : ∃ z : Int, r = some (I z) := by
  unfold PC_dual at q
  obtain ⟨i, ⟨p1, p2⟩, p3, p4, p5, p6⟩ := q
  exact ⟨_, p4⟩
theorem fX_dual {h h1 : AH} {xo : Nat} {w : Nat → Nat} {c m : Nat} {E : Nat → Nat} {R : Nat → Nat → Nat} {br bf bs be : Int} {D2 D3 : Nat → Bool} {so : Nat} {a1 : Int} {e : String} (q : XC_dual h xo w c m E R br bf bs be D2 D3 so a1 e h1) : Fr HF h h1 := by
  unfold XC_dual at q
  rcases q with ⟨x1, (⟨x2, x3⟩ | ⟨i, x4, x5, x6, x7⟩)⟩
  · rw [x1]; exact Fr.rf
  · rw [x1]; exact Fr.rf
theorem eX_dual {h h1 : AH} {xo : Nat} {w : Nat → Nat} {c m : Nat} {E : Nat → Nat} {R : Nat → Nat → Nat} {br bf bs be : Int} {D2 D3 : Nat → Bool} {so : Nat} {a1 : Int} {e : String} (q : XC_dual h xo w c m E R br bf bs be D2 D3 so a1 e h1) : e = eIOO ∨ e = eISE := by
  unfold XC_dual at q
  rcases q with ⟨x1, (⟨x2, x3⟩ | ⟨i, x4, x5, x6, x7⟩)⟩
  · exact Or.inl x3
  · exact Or.inr (x7)
theorem fR_dual {S0 : State} {h h1 : AH} {mo : Nat} {w : Nat → Nat} {c m : Nat} {E : Nat → Nat} {R : Nat → Nat → Nat} {b0 b1 b2 : Int} {a1 : Int} {r : Option Value} (q : PR_dual S0 h mo w c m E R b0 b1 b2 a1 r h1) : Fr (fun x => 120 ≤ x ∧ x ≤ 139) h h1 := by
  unfold PR_dual at q
  exact q.1.mono (fun l z => by omega)
theorem op_dual {S0 : State} {h h1 h2 hb : AH} {g : Nat → Int64} {xo mo : Nat} {w : Nat → Nat} {c m : Nat} {E : Nat → Nat} {R : Nat → Nat → Nat} {br bf bs be b0 b1 b2 : Int} {D2 D3 : Nat → Bool} {so kk : Nat} {r2 : Option Value} {a1 : Int} (hI : HI h xo w c m E R br bf bs be D2 D3 so) (hB : BrR br bf bs be b0 b1 b2) (hc : (kk = 0 ∧ ∃ z : Int, PC_dual h xo w c m E R br bf bs be D2 D3 so a1 (some (I z)) h1 ∧ g 0 = (Int32.ofInt z).toInt64) ∨ ∃ e : String, [eIOO, eISE][kk - 1]? = some e ∧ 1 ≤ kk ∧ XC_dual h xo w c m E R br bf bs be D2 D3 so a1 e h1) (hr : PR_dual S0 hb mo w c m E R b0 b1 b2 a1 r2 h2) : ∃ z2 : Int, r2 = some (I z2) ∧ (kk = 0 → g 0 = (Int32.ofInt z2).toInt64) ∧ kk ≤ 4 ∧ Mg S0 h1 h2 xo mo kk (pC so D2) (pS so D2) := by
  have hM := hI.mtr.2.2.2.2.2.2
  unfold PR_dual at hr
  rcases hc with ⟨rfl, z, hp, hg⟩ | ⟨e, he, hk, hp⟩
  · unfold PC_dual at hp
    rcases hp with ⟨i, ⟨p1, p2⟩, p3, p4, p5, p6⟩
    rcases hr with ⟨q1, (⟨q2, ⟨z2, q3⟩, q4⟩ | ⟨i2, q5, q6, (⟨q7, ⟨z2, q8⟩, q9⟩ | ⟨q10, q11, q12⟩)⟩)⟩
    · exfalso
      first | omega | (simp_all)
    · obtain rfl : i = i2 := by omega
      exfalso
      first | omega | (simp_all)
    · obtain rfl : i = i2 := by omega
      refine ⟨_, q11, fun _ => ?_, by decide, ⟨_, _, _, _, _, _, _, _, _, _, _, _, _, _, _, p5, q12, hB, Nat.le_refl _, Nat.le_refl _⟩⟩
      rw [hg, iI p4]
  · unfold XC_dual at hp
    rcases ex2 he hk with ⟨rfl, rfl⟩ | ⟨rfl, rfl⟩
    · rcases hp with ⟨x1, (⟨x2, x3⟩ | ⟨i, x4, x5, x6, x7⟩)⟩
      · rcases hr with ⟨q1, (⟨q2, ⟨z2, q3⟩, q4⟩ | ⟨i2, q5, q6, (⟨q7, ⟨z2, q8⟩, q9⟩ | ⟨q10, q11, q12⟩)⟩)⟩
        · subst x1
          exact ⟨_, q3, fun q => absurd q (by decide), by decide, ⟨_, _, _, _, _, _, _, _, _, _, _, _, _, _, _, hI, q4, hB, Nat.le_refl _, Nat.le_refl _⟩⟩
        · exfalso
          first | omega | (simp_all)
        · exfalso
          first | omega | (simp_all)
      · exact absurd x7 (by decide)
    · rcases hp with ⟨x1, (⟨x2, x3⟩ | ⟨i, x4, x5, x6, x7⟩)⟩
      · exact absurd x3 (by decide)
      · rcases hr with ⟨q1, (⟨q2, ⟨z2, q3⟩, q4⟩ | ⟨i2, q5, q6, (⟨q7, ⟨z2, q8⟩, q9⟩ | ⟨q10, q11, q12⟩)⟩)⟩
        · exfalso
          first | omega | (simp_all)
        · subst x1
          obtain rfl : i = i2 := by omega
          exact ⟨_, q8, fun q => absurd q (by decide), by decide, ⟨_, _, _, _, _, _, _, _, _, _, _, _, _, _, _, hI, q9, hB, Nat.le_refl _, Nat.le_refl _⟩⟩
        · obtain rfl : i = i2 := by omega
          exfalso
          first | omega | (simp_all)
def PC_delete (h : AH) (xo : Nat) (w : Nat → Nat) (c m : Nat) (E : Nat → Nat) (R : Nat → Nat → Nat) (br bf bs be : Int) (D2 D3 : Nat → Bool) (so : Nat) (a1 a2 : Int) (r : Option Value) (h' : AH) : Prop := ∃ i k, (i < m ∧ a1 = (i : Int) ∧ k < E i ∧ a2 = (k : Int)) ∧ m < 24 ∧ r = some (I (m : Nat)) ∧ HI h' xo w c (m + 1) (up E m (E i - 1)) (up R m (partR (R i) k (0))) br bf bs be D2 D3 so ∧ Fr HF h h'
def XC_delete (h : AH) (xo : Nat) (w : Nat → Nat) (c m : Nat) (E : Nat → Nat) (R : Nat → Nat → Nat) (br bf bs be : Int) (D2 D3 : Nat → Bool) (so : Nat) (a1 a2 : Int) (E' : String) (h' : AH) : Prop := h' = h ∧ ((noM a1 m ∧ E' = eIOO) ∨ ∃ i, i < m ∧ a1 = (i : Int) ∧ ((¬ (0 ≤ a2 ∧ a2 < ((E i : Nat) : Int)) ∧ E' = eIOO) ∨ (0 ≤ a2 ∧ a2 < ((E i : Nat) : Int) ∧ m = 24 ∧ E' = eISE)))
def PR_delete (S0 : State) (h : AH) (mo : Nat) (w : Nat → Nat) (c m : Nat) (E : Nat → Nat) (R : Nat → Nat → Nat) (b0 b1 b2 : Int) (a1 a2 : Int) (r : Option Value) (h' : AH) : Prop := Fr (fun x => 120 ≤ x ∧ x ≤ 134) h h' ∧ (((noM a1 m ∨ ∃ i, i < m ∧ a1 = (i : Int) ∧ ¬ (0 ≤ a2 ∧ a2 < ((E i : Nat) : Int))) ∧ (∃ z, r = some (I z)) ∧ RI (zA S0) DRp h' mo 1 c w m E R b0 b1 b2) ∨ ∃ i k : Nat, i < m ∧ a1 = (i : Int) ∧ k < E i ∧ a2 = (k : Int) ∧ ((m = 24 ∧ (∃ z, r = some (I z)) ∧ RI (zA S0) DRp h' mo 2 c w m E R b0 b1 b2) ∨ (m ≠ 24 ∧ r = some (I (m : Nat)) ∧ RI (zA S0) DRp h' mo 0 c w (m + 1) (up E m (E i - 1)) (up R m (fun s => witR (R i) k false s)) b0 b1 b2)))
theorem fP_delete {h h1 : AH} {xo : Nat} {w : Nat → Nat} {c m : Nat} {E : Nat → Nat} {R : Nat → Nat → Nat} {br bf bs be : Int} {D2 D3 : Nat → Bool} {so : Nat} {a1 a2 : Int} {r : Option Value} (q : PC_delete h xo w c m E R br bf bs be D2 D3 so a1 a2 r h1) : Fr HF h h1 := by
  unfold PC_delete at q
  obtain ⟨i, k, ⟨p1, p2, p3, p4⟩, p5, p6, p7, p8⟩ := q
  exact p8
theorem vP_delete {h h1 : AH} {xo : Nat} {w : Nat → Nat} {c m : Nat} {E : Nat → Nat} {R : Nat → Nat → Nat} {br bf bs be : Int} {D2 D3 : Nat → Bool} {so : Nat} {a1 a2 : Int} {r : Option Value} (q : PC_delete h xo w c m E R br bf bs be D2 D3 so a1 a2 r h1) : ∃ z : Int, r = some (I z) := by
  unfold PC_delete at q
  obtain ⟨i, k, ⟨p1, p2, p3, p4⟩, p5, p6, p7, p8⟩ := q
  exact ⟨_, p6⟩
theorem fX_delete {h h1 : AH} {xo : Nat} {w : Nat → Nat} {c m : Nat} {E : Nat → Nat} {R : Nat → Nat → Nat} {br bf bs be : Int} {D2 D3 : Nat → Bool} {so : Nat} {a1 a2 : Int} {e : String} (q : XC_delete h xo w c m E R br bf bs be D2 D3 so a1 a2 e h1) : Fr HF h h1 := by
  unfold XC_delete at q
  rcases q with ⟨x1, (⟨x2, x3⟩ | ⟨i, x4, x5, (⟨x6, x7⟩ | ⟨x8, x9, x10, x11⟩)⟩)⟩
  · rw [x1]; exact Fr.rf
  · rw [x1]; exact Fr.rf
  · rw [x1]; exact Fr.rf
theorem eX_delete {h h1 : AH} {xo : Nat} {w : Nat → Nat} {c m : Nat} {E : Nat → Nat} {R : Nat → Nat → Nat} {br bf bs be : Int} {D2 D3 : Nat → Bool} {so : Nat} {a1 a2 : Int} {e : String} (q : XC_delete h xo w c m E R br bf bs be D2 D3 so a1 a2 e h1) : e = eIOO ∨ e = eISE := by
  unfold XC_delete at q
  rcases q with ⟨x1, (⟨x2, x3⟩ | ⟨i, x4, x5, (⟨x6, x7⟩ | ⟨x8, x9, x10, x11⟩)⟩)⟩
  · exact Or.inl x3
  · exact Or.inl x7
  · exact Or.inr (x11)
theorem fR_delete {S0 : State} {h h1 : AH} {mo : Nat} {w : Nat → Nat} {c m : Nat} {E : Nat → Nat} {R : Nat → Nat → Nat} {b0 b1 b2 : Int} {a1 a2 : Int} {r : Option Value} (q : PR_delete S0 h mo w c m E R b0 b1 b2 a1 a2 r h1) : Fr (fun x => 120 ≤ x ∧ x ≤ 139) h h1 := by
  unfold PR_delete at q
  exact q.1.mono (fun l z => by omega)
theorem op_delete {S0 : State} {h h1 h2 hb : AH} {g : Nat → Int64} {xo mo : Nat} {w : Nat → Nat} {c m : Nat} {E : Nat → Nat} {R : Nat → Nat → Nat} {br bf bs be b0 b1 b2 : Int} {D2 D3 : Nat → Bool} {so kk : Nat} {r2 : Option Value} {a1 a2 : Int} (hI : HI h xo w c m E R br bf bs be D2 D3 so) (hB : BrR br bf bs be b0 b1 b2) (hc : (kk = 0 ∧ ∃ z : Int, PC_delete h xo w c m E R br bf bs be D2 D3 so a1 a2 (some (I z)) h1 ∧ g 0 = (Int32.ofInt z).toInt64) ∨ ∃ e : String, [eIOO, eISE][kk - 1]? = some e ∧ 1 ≤ kk ∧ XC_delete h xo w c m E R br bf bs be D2 D3 so a1 a2 e h1) (hr : PR_delete S0 hb mo w c m E R b0 b1 b2 a1 a2 r2 h2) : ∃ z2 : Int, r2 = some (I z2) ∧ (kk = 0 → g 0 = (Int32.ofInt z2).toInt64) ∧ kk ≤ 4 ∧ Mg S0 h1 h2 xo mo kk (pC so D2) (pS so D2) := by
  have hM := hI.mtr.2.2.2.2.2.2
  unfold PR_delete at hr
  rcases hc with ⟨rfl, z, hp, hg⟩ | ⟨e, he, hk, hp⟩
  · unfold PC_delete at hp
    rcases hp with ⟨i, k, ⟨p1, p2, p3, p4⟩, p5, p6, p7, p8⟩
    rcases hr with ⟨q1, (⟨(q2 | ⟨i2, q3, q4, q5⟩), ⟨z2, q6⟩, q7⟩ | ⟨i2, k2, q8, q9, q10, q11, (⟨q12, ⟨z2, q13⟩, q14⟩ | ⟨q15, q16, q17⟩)⟩)⟩
    · exfalso
      first | omega | (simp_all)
    · obtain rfl : i = i2 := by omega
      exfalso
      first | omega | (simp_all)
    · obtain rfl : i = i2 := by omega
      obtain rfl : k = k2 := by omega
      exfalso
      first | omega | (simp_all)
    · obtain rfl : i = i2 := by omega
      obtain rfl : k = k2 := by omega
      refine ⟨_, q16, fun _ => ?_, by decide, ⟨_, _, _, _, _, _, _, _, _, _, _, _, _, _, _, p7, (RI.up q17 (fun s _ => wit_f (hM i (by assumption)).2.1)), hB, Nat.le_refl _, Nat.le_refl _⟩⟩
      rw [hg, iI p6]
  · unfold XC_delete at hp
    rcases ex2 he hk with ⟨rfl, rfl⟩ | ⟨rfl, rfl⟩
    · rcases hp with ⟨x1, (⟨x2, x3⟩ | ⟨i, x4, x5, (⟨x6, x7⟩ | ⟨x8, x9, x10, x11⟩)⟩)⟩
      · rcases hr with ⟨q1, (⟨(q2 | ⟨i2, q3, q4, q5⟩), ⟨z2, q6⟩, q7⟩ | ⟨i2, k2, q8, q9, q10, q11, (⟨q12, ⟨z2, q13⟩, q14⟩ | ⟨q15, q16, q17⟩)⟩)⟩
        · subst x1
          exact ⟨_, q6, fun q => absurd q (by decide), by decide, ⟨_, _, _, _, _, _, _, _, _, _, _, _, _, _, _, hI, q7, hB, Nat.le_refl _, Nat.le_refl _⟩⟩
        · subst x1
          exact ⟨_, q6, fun q => absurd q (by decide), by decide, ⟨_, _, _, _, _, _, _, _, _, _, _, _, _, _, _, hI, q7, hB, Nat.le_refl _, Nat.le_refl _⟩⟩
        · exfalso
          first | omega | (simp_all)
        · exfalso
          first | omega | (simp_all)
      · rcases hr with ⟨q1, (⟨(q2 | ⟨i2, q3, q4, q5⟩), ⟨z2, q6⟩, q7⟩ | ⟨i2, k2, q8, q9, q10, q11, (⟨q12, ⟨z2, q13⟩, q14⟩ | ⟨q15, q16, q17⟩)⟩)⟩
        · subst x1
          exact ⟨_, q6, fun q => absurd q (by decide), by decide, ⟨_, _, _, _, _, _, _, _, _, _, _, _, _, _, _, hI, q7, hB, Nat.le_refl _, Nat.le_refl _⟩⟩
        · subst x1
          obtain rfl : i = i2 := by omega
          exact ⟨_, q6, fun q => absurd q (by decide), by decide, ⟨_, _, _, _, _, _, _, _, _, _, _, _, _, _, _, hI, q7, hB, Nat.le_refl _, Nat.le_refl _⟩⟩
        · obtain rfl : i = i2 := by omega
          exfalso
          first | omega | (simp_all)
        · obtain rfl : i = i2 := by omega
          exfalso
          first | omega | (simp_all)
      · exact absurd x11 (by decide)
    · rcases hp with ⟨x1, (⟨x2, x3⟩ | ⟨i, x4, x5, (⟨x6, x7⟩ | ⟨x8, x9, x10, x11⟩)⟩)⟩
      · exact absurd x3 (by decide)
      · exact absurd x7 (by decide)
      · rcases hr with ⟨q1, (⟨(q2 | ⟨i2, q3, q4, q5⟩), ⟨z2, q6⟩, q7⟩ | ⟨i2, k2, q8, q9, q10, q11, (⟨q12, ⟨z2, q13⟩, q14⟩ | ⟨q15, q16, q17⟩)⟩)⟩
        · exfalso
          first | omega | (simp_all)
        · obtain rfl : i = i2 := by omega
          exfalso
          first | omega | (simp_all)
        · subst x1
          obtain rfl : i = i2 := by omega
          exact ⟨_, q13, fun q => absurd q (by decide), by decide, ⟨_, _, _, _, _, _, _, _, _, _, _, _, _, _, _, hI, q14, hB, Nat.le_refl _, Nat.le_refl _⟩⟩
        · obtain rfl : i = i2 := by omega
          exfalso
          first | omega | (simp_all)
def PC_contract (h : AH) (xo : Nat) (w : Nat → Nat) (c m : Nat) (E : Nat → Nat) (R : Nat → Nat → Nat) (br bf bs be : Int) (D2 D3 : Nat → Bool) (so : Nat) (a1 a2 : Int) (r : Option Value) (h' : AH) : Prop := ∃ i k, (i < m ∧ a1 = (i : Int) ∧ k < E i ∧ a2 = (k : Int)) ∧ m < 24 ∧ r = some (I (m : Nat)) ∧ HI h' xo w c (m + 1) (up E m (E i - 1)) (up R m (partR (R i) k (2 ^ k))) br bf bs be D2 D3 so ∧ Fr HF h h'
def XC_contract (h : AH) (xo : Nat) (w : Nat → Nat) (c m : Nat) (E : Nat → Nat) (R : Nat → Nat → Nat) (br bf bs be : Int) (D2 D3 : Nat → Bool) (so : Nat) (a1 a2 : Int) (E' : String) (h' : AH) : Prop := h' = h ∧ ((noM a1 m ∧ E' = eIOO) ∨ ∃ i, i < m ∧ a1 = (i : Int) ∧ ((¬ (0 ≤ a2 ∧ a2 < ((E i : Nat) : Int)) ∧ E' = eIOO) ∨ (0 ≤ a2 ∧ a2 < ((E i : Nat) : Int) ∧ m = 24 ∧ E' = eISE)))
def PR_contract (S0 : State) (h : AH) (mo : Nat) (w : Nat → Nat) (c m : Nat) (E : Nat → Nat) (R : Nat → Nat → Nat) (b0 b1 b2 : Int) (a1 a2 : Int) (r : Option Value) (h' : AH) : Prop := Fr (fun x => 120 ≤ x ∧ x ≤ 134) h h' ∧ (((noM a1 m ∨ ∃ i, i < m ∧ a1 = (i : Int) ∧ ¬ (0 ≤ a2 ∧ a2 < ((E i : Nat) : Int))) ∧ (∃ z, r = some (I z)) ∧ RI (zA S0) DRp h' mo 1 c w m E R b0 b1 b2) ∨ ∃ i k : Nat, i < m ∧ a1 = (i : Int) ∧ k < E i ∧ a2 = (k : Int) ∧ ((m = 24 ∧ (∃ z, r = some (I z)) ∧ RI (zA S0) DRp h' mo 2 c w m E R b0 b1 b2) ∨ (m ≠ 24 ∧ r = some (I (m : Nat)) ∧ RI (zA S0) DRp h' mo 0 c w (m + 1) (up E m (E i - 1)) (up R m (fun s => witR (R i) k true s)) b0 b1 b2)))
theorem fP_contract {h h1 : AH} {xo : Nat} {w : Nat → Nat} {c m : Nat} {E : Nat → Nat} {R : Nat → Nat → Nat} {br bf bs be : Int} {D2 D3 : Nat → Bool} {so : Nat} {a1 a2 : Int} {r : Option Value} (q : PC_contract h xo w c m E R br bf bs be D2 D3 so a1 a2 r h1) : Fr HF h h1 := by
  unfold PC_contract at q
  obtain ⟨i, k, ⟨p1, p2, p3, p4⟩, p5, p6, p7, p8⟩ := q
  exact p8
theorem vP_contract {h h1 : AH} {xo : Nat} {w : Nat → Nat} {c m : Nat} {E : Nat → Nat} {R : Nat → Nat → Nat} {br bf bs be : Int} {D2 D3 : Nat → Bool} {so : Nat} {a1 a2 : Int} {r : Option Value} (q : PC_contract h xo w c m E R br bf bs be D2 D3 so a1 a2 r h1) : ∃ z : Int, r = some (I z) := by
  unfold PC_contract at q
  obtain ⟨i, k, ⟨p1, p2, p3, p4⟩, p5, p6, p7, p8⟩ := q
  exact ⟨_, p6⟩
theorem fX_contract {h h1 : AH} {xo : Nat} {w : Nat → Nat} {c m : Nat} {E : Nat → Nat} {R : Nat → Nat → Nat} {br bf bs be : Int} {D2 D3 : Nat → Bool} {so : Nat} {a1 a2 : Int} {e : String} (q : XC_contract h xo w c m E R br bf bs be D2 D3 so a1 a2 e h1) : Fr HF h h1 := by
  unfold XC_contract at q
  rcases q with ⟨x1, (⟨x2, x3⟩ | ⟨i, x4, x5, (⟨x6, x7⟩ | ⟨x8, x9, x10, x11⟩)⟩)⟩
  · rw [x1]; exact Fr.rf
  · rw [x1]; exact Fr.rf
  · rw [x1]; exact Fr.rf
theorem eX_contract {h h1 : AH} {xo : Nat} {w : Nat → Nat} {c m : Nat} {E : Nat → Nat} {R : Nat → Nat → Nat} {br bf bs be : Int} {D2 D3 : Nat → Bool} {so : Nat} {a1 a2 : Int} {e : String} (q : XC_contract h xo w c m E R br bf bs be D2 D3 so a1 a2 e h1) : e = eIOO ∨ e = eISE := by
  unfold XC_contract at q
  rcases q with ⟨x1, (⟨x2, x3⟩ | ⟨i, x4, x5, (⟨x6, x7⟩ | ⟨x8, x9, x10, x11⟩)⟩)⟩
  · exact Or.inl x3
  · exact Or.inl x7
  · exact Or.inr (x11)
theorem fR_contract {S0 : State} {h h1 : AH} {mo : Nat} {w : Nat → Nat} {c m : Nat} {E : Nat → Nat} {R : Nat → Nat → Nat} {b0 b1 b2 : Int} {a1 a2 : Int} {r : Option Value} (q : PR_contract S0 h mo w c m E R b0 b1 b2 a1 a2 r h1) : Fr (fun x => 120 ≤ x ∧ x ≤ 139) h h1 := by
  unfold PR_contract at q
  exact q.1.mono (fun l z => by omega)
theorem op_contract {S0 : State} {h h1 h2 hb : AH} {g : Nat → Int64} {xo mo : Nat} {w : Nat → Nat} {c m : Nat} {E : Nat → Nat} {R : Nat → Nat → Nat} {br bf bs be b0 b1 b2 : Int} {D2 D3 : Nat → Bool} {so kk : Nat} {r2 : Option Value} {a1 a2 : Int} (hI : HI h xo w c m E R br bf bs be D2 D3 so) (hB : BrR br bf bs be b0 b1 b2) (hc : (kk = 0 ∧ ∃ z : Int, PC_contract h xo w c m E R br bf bs be D2 D3 so a1 a2 (some (I z)) h1 ∧ g 0 = (Int32.ofInt z).toInt64) ∨ ∃ e : String, [eIOO, eISE][kk - 1]? = some e ∧ 1 ≤ kk ∧ XC_contract h xo w c m E R br bf bs be D2 D3 so a1 a2 e h1) (hr : PR_contract S0 hb mo w c m E R b0 b1 b2 a1 a2 r2 h2) : ∃ z2 : Int, r2 = some (I z2) ∧ (kk = 0 → g 0 = (Int32.ofInt z2).toInt64) ∧ kk ≤ 4 ∧ Mg S0 h1 h2 xo mo kk (pC so D2) (pS so D2) := by
  have hM := hI.mtr.2.2.2.2.2.2
  unfold PR_contract at hr
  rcases hc with ⟨rfl, z, hp, hg⟩ | ⟨e, he, hk, hp⟩
  · unfold PC_contract at hp
    rcases hp with ⟨i, k, ⟨p1, p2, p3, p4⟩, p5, p6, p7, p8⟩
    rcases hr with ⟨q1, (⟨(q2 | ⟨i2, q3, q4, q5⟩), ⟨z2, q6⟩, q7⟩ | ⟨i2, k2, q8, q9, q10, q11, (⟨q12, ⟨z2, q13⟩, q14⟩ | ⟨q15, q16, q17⟩)⟩)⟩
    · exfalso
      first | omega | (simp_all)
    · obtain rfl : i = i2 := by omega
      exfalso
      first | omega | (simp_all)
    · obtain rfl : i = i2 := by omega
      obtain rfl : k = k2 := by omega
      exfalso
      first | omega | (simp_all)
    · obtain rfl : i = i2 := by omega
      obtain rfl : k = k2 := by omega
      refine ⟨_, q16, fun _ => ?_, by decide, ⟨_, _, _, _, _, _, _, _, _, _, _, _, _, _, _, p7, (RI.up q17 (fun s _ => wit_t)), hB, Nat.le_refl _, Nat.le_refl _⟩⟩
      rw [hg, iI p6]
  · unfold XC_contract at hp
    rcases ex2 he hk with ⟨rfl, rfl⟩ | ⟨rfl, rfl⟩
    · rcases hp with ⟨x1, (⟨x2, x3⟩ | ⟨i, x4, x5, (⟨x6, x7⟩ | ⟨x8, x9, x10, x11⟩)⟩)⟩
      · rcases hr with ⟨q1, (⟨(q2 | ⟨i2, q3, q4, q5⟩), ⟨z2, q6⟩, q7⟩ | ⟨i2, k2, q8, q9, q10, q11, (⟨q12, ⟨z2, q13⟩, q14⟩ | ⟨q15, q16, q17⟩)⟩)⟩
        · subst x1
          exact ⟨_, q6, fun q => absurd q (by decide), by decide, ⟨_, _, _, _, _, _, _, _, _, _, _, _, _, _, _, hI, q7, hB, Nat.le_refl _, Nat.le_refl _⟩⟩
        · subst x1
          exact ⟨_, q6, fun q => absurd q (by decide), by decide, ⟨_, _, _, _, _, _, _, _, _, _, _, _, _, _, _, hI, q7, hB, Nat.le_refl _, Nat.le_refl _⟩⟩
        · exfalso
          first | omega | (simp_all)
        · exfalso
          first | omega | (simp_all)
      · rcases hr with ⟨q1, (⟨(q2 | ⟨i2, q3, q4, q5⟩), ⟨z2, q6⟩, q7⟩ | ⟨i2, k2, q8, q9, q10, q11, (⟨q12, ⟨z2, q13⟩, q14⟩ | ⟨q15, q16, q17⟩)⟩)⟩
        · subst x1
          exact ⟨_, q6, fun q => absurd q (by decide), by decide, ⟨_, _, _, _, _, _, _, _, _, _, _, _, _, _, _, hI, q7, hB, Nat.le_refl _, Nat.le_refl _⟩⟩
        · subst x1
          obtain rfl : i = i2 := by omega
          exact ⟨_, q6, fun q => absurd q (by decide), by decide, ⟨_, _, _, _, _, _, _, _, _, _, _, _, _, _, _, hI, q7, hB, Nat.le_refl _, Nat.le_refl _⟩⟩
        · obtain rfl : i = i2 := by omega
          exfalso
          first | omega | (simp_all)
        · obtain rfl : i = i2 := by omega
          exfalso
          first | omega | (simp_all)
      · exact absurd x11 (by decide)
    · rcases hp with ⟨x1, (⟨x2, x3⟩ | ⟨i, x4, x5, (⟨x6, x7⟩ | ⟨x8, x9, x10, x11⟩)⟩)⟩
      · exact absurd x3 (by decide)
      · exact absurd x7 (by decide)
      · rcases hr with ⟨q1, (⟨(q2 | ⟨i2, q3, q4, q5⟩), ⟨z2, q6⟩, q7⟩ | ⟨i2, k2, q8, q9, q10, q11, (⟨q12, ⟨z2, q13⟩, q14⟩ | ⟨q15, q16, q17⟩)⟩)⟩
        · exfalso
          first | omega | (simp_all)
        · obtain rfl : i = i2 := by omega
          exfalso
          first | omega | (simp_all)
        · subst x1
          obtain rfl : i = i2 := by omega
          exact ⟨_, q13, fun q => absurd q (by decide), by decide, ⟨_, _, _, _, _, _, _, _, _, _, _, _, _, _, _, hI, q14, hB, Nat.le_refl _, Nat.le_refl _⟩⟩
        · obtain rfl : i = i2 := by omega
          exfalso
          first | omega | (simp_all)
def PC_sum (h : AH) (xo : Nat) (w : Nat → Nat) (c m : Nat) (E : Nat → Nat) (R : Nat → Nat → Nat) (br bf bs be : Int) (D2 D3 : Nat → Bool) (so : Nat) (a1 a2 : Int) (r : Option Value) (h' : AH) : Prop := ∃ i j, (i < m ∧ a1 = (i : Int) ∧ j < m ∧ a2 = (j : Int) ∧ E i + E j ≤ 10) ∧ m < 24 ∧ r = some (I (m : Nat)) ∧ HI h' xo w c (m + 1) (up E m (E i + E j)) (up R m (sumR (R i) (R j) (E i))) br bf bs be D2 D3 so ∧ Fr HF h h'
def XC_sum (h : AH) (xo : Nat) (w : Nat → Nat) (c m : Nat) (E : Nat → Nat) (R : Nat → Nat → Nat) (br bf bs be : Int) (D2 D3 : Nat → Bool) (so : Nat) (a1 a2 : Int) (E' : String) (h' : AH) : Prop := h' = h ∧ (((noM a1 m ∨ noM a2 m) ∧ E' = eIOO) ∨ ∃ i j, i < m ∧ a1 = (i : Int) ∧ j < m ∧ a2 = (j : Int) ∧ ((10 < E i + E j ∧ E' = eUOE) ∨ (E i + E j ≤ 10 ∧ m = 24 ∧ E' = eISE)))
def PR_sum (S0 : State) (h : AH) (mo : Nat) (w : Nat → Nat) (c m : Nat) (E : Nat → Nat) (R : Nat → Nat → Nat) (b0 b1 b2 : Int) (a1 a2 : Int) (r : Option Value) (h' : AH) : Prop := Fr (fun x => 120 ≤ x ∧ x ≤ 134) h h' ∧ (((noM a1 m ∨ noM a2 m) ∧ (∃ z, r = some (I z)) ∧ RI (zA S0) DRp h' mo 1 c w m E R b0 b1 b2) ∨ ∃ i j : Nat, i < m ∧ a1 = (i : Int) ∧ j < m ∧ a2 = (j : Int) ∧ ((10 < E i + E j ∧ (∃ z, r = some (I z)) ∧ RI (zA S0) DRp h' mo 2 c w m E R b0 b1 b2) ∨ (E i + E j ≤ 10 ∧ ((m = 24 ∧ (∃ z, r = some (I z)) ∧ RI (zA S0) DRp h' mo 3 c w m E R b0 b1 b2) ∨ (m ≠ 24 ∧ r = some (I (m : Nat)) ∧ RI (zA S0) DRp h' mo 0 c w (m + 1) (up E m (E i + E j)) (up R m (fun s => sumR (R i) (R j) (E i) s)) b0 b1 b2)))))
theorem fP_sum {h h1 : AH} {xo : Nat} {w : Nat → Nat} {c m : Nat} {E : Nat → Nat} {R : Nat → Nat → Nat} {br bf bs be : Int} {D2 D3 : Nat → Bool} {so : Nat} {a1 a2 : Int} {r : Option Value} (q : PC_sum h xo w c m E R br bf bs be D2 D3 so a1 a2 r h1) : Fr HF h h1 := by
  unfold PC_sum at q
  obtain ⟨i, j, ⟨p1, p2, p3, p4, p5⟩, p6, p7, p8, p9⟩ := q
  exact p9
theorem vP_sum {h h1 : AH} {xo : Nat} {w : Nat → Nat} {c m : Nat} {E : Nat → Nat} {R : Nat → Nat → Nat} {br bf bs be : Int} {D2 D3 : Nat → Bool} {so : Nat} {a1 a2 : Int} {r : Option Value} (q : PC_sum h xo w c m E R br bf bs be D2 D3 so a1 a2 r h1) : ∃ z : Int, r = some (I z) := by
  unfold PC_sum at q
  obtain ⟨i, j, ⟨p1, p2, p3, p4, p5⟩, p6, p7, p8, p9⟩ := q
  exact ⟨_, p7⟩
theorem fX_sum {h h1 : AH} {xo : Nat} {w : Nat → Nat} {c m : Nat} {E : Nat → Nat} {R : Nat → Nat → Nat} {br bf bs be : Int} {D2 D3 : Nat → Bool} {so : Nat} {a1 a2 : Int} {e : String} (q : XC_sum h xo w c m E R br bf bs be D2 D3 so a1 a2 e h1) : Fr HF h h1 := by
  unfold XC_sum at q
  rcases q with ⟨x1, (⟨x2, x3⟩ | ⟨i, j, x4, x5, x6, x7, (⟨x8, x9⟩ | ⟨x10, x11, x12⟩)⟩)⟩
  · rw [x1]; exact Fr.rf
  · rw [x1]; exact Fr.rf
  · rw [x1]; exact Fr.rf
theorem eX_sum {h h1 : AH} {xo : Nat} {w : Nat → Nat} {c m : Nat} {E : Nat → Nat} {R : Nat → Nat → Nat} {br bf bs be : Int} {D2 D3 : Nat → Bool} {so : Nat} {a1 a2 : Int} {e : String} (q : XC_sum h xo w c m E R br bf bs be D2 D3 so a1 a2 e h1) : e = eIOO ∨ e = eUOE ∨ e = eISE := by
  unfold XC_sum at q
  rcases q with ⟨x1, (⟨x2, x3⟩ | ⟨i, j, x4, x5, x6, x7, (⟨x8, x9⟩ | ⟨x10, x11, x12⟩)⟩)⟩
  · exact Or.inl x3
  · exact Or.inr (Or.inl x9)
  · exact Or.inr (Or.inr (x12))
theorem fR_sum {S0 : State} {h h1 : AH} {mo : Nat} {w : Nat → Nat} {c m : Nat} {E : Nat → Nat} {R : Nat → Nat → Nat} {b0 b1 b2 : Int} {a1 a2 : Int} {r : Option Value} (q : PR_sum S0 h mo w c m E R b0 b1 b2 a1 a2 r h1) : Fr (fun x => 120 ≤ x ∧ x ≤ 139) h h1 := by
  unfold PR_sum at q
  exact q.1.mono (fun l z => by omega)
theorem op_sum {S0 : State} {h h1 h2 hb : AH} {g : Nat → Int64} {xo mo : Nat} {w : Nat → Nat} {c m : Nat} {E : Nat → Nat} {R : Nat → Nat → Nat} {br bf bs be b0 b1 b2 : Int} {D2 D3 : Nat → Bool} {so kk : Nat} {r2 : Option Value} {a1 a2 : Int} (hI : HI h xo w c m E R br bf bs be D2 D3 so) (hB : BrR br bf bs be b0 b1 b2) (hc : (kk = 0 ∧ ∃ z : Int, PC_sum h xo w c m E R br bf bs be D2 D3 so a1 a2 (some (I z)) h1 ∧ g 0 = (Int32.ofInt z).toInt64) ∨ ∃ e : String, [eIOO, eUOE, eISE][kk - 1]? = some e ∧ 1 ≤ kk ∧ XC_sum h xo w c m E R br bf bs be D2 D3 so a1 a2 e h1) (hr : PR_sum S0 hb mo w c m E R b0 b1 b2 a1 a2 r2 h2) : ∃ z2 : Int, r2 = some (I z2) ∧ (kk = 0 → g 0 = (Int32.ofInt z2).toInt64) ∧ kk ≤ 4 ∧ Mg S0 h1 h2 xo mo kk (pC so D2) (pS so D2) := by
  have hM := hI.mtr.2.2.2.2.2.2
  unfold PR_sum at hr
  rcases hc with ⟨rfl, z, hp, hg⟩ | ⟨e, he, hk, hp⟩
  · unfold PC_sum at hp
    rcases hp with ⟨i, j, ⟨p1, p2, p3, p4, p5⟩, p6, p7, p8, p9⟩
    rcases hr with ⟨q1, (⟨q2, ⟨z2, q3⟩, q4⟩ | ⟨i2, j2, q5, q6, q7, q8, (⟨q9, ⟨z2, q10⟩, q11⟩ | ⟨q12, (⟨q13, ⟨z2, q14⟩, q15⟩ | ⟨q16, q17, q18⟩)⟩)⟩)⟩
    · exfalso
      first | omega | (simp_all)
    · obtain rfl : i = i2 := by omega
      obtain rfl : j = j2 := by omega
      exfalso
      first | omega | (simp_all)
    · obtain rfl : i = i2 := by omega
      obtain rfl : j = j2 := by omega
      exfalso
      first | omega | (simp_all)
    · obtain rfl : i = i2 := by omega
      obtain rfl : j = j2 := by omega
      refine ⟨_, q17, fun _ => ?_, by decide, ⟨_, _, _, _, _, _, _, _, _, _, _, _, _, _, _, p8, q18, hB, Nat.le_refl _, Nat.le_refl _⟩⟩
      rw [hg, iI p7]
  · unfold XC_sum at hp
    rcases ex3 he hk with ⟨rfl, rfl⟩ | ⟨rfl, rfl⟩ | ⟨rfl, rfl⟩
    · rcases hp with ⟨x1, (⟨x2, x3⟩ | ⟨i, j, x4, x5, x6, x7, (⟨x8, x9⟩ | ⟨x10, x11, x12⟩)⟩)⟩
      · rcases hr with ⟨q1, (⟨q2, ⟨z2, q3⟩, q4⟩ | ⟨i2, j2, q5, q6, q7, q8, (⟨q9, ⟨z2, q10⟩, q11⟩ | ⟨q12, (⟨q13, ⟨z2, q14⟩, q15⟩ | ⟨q16, q17, q18⟩)⟩)⟩)⟩
        · subst x1
          exact ⟨_, q3, fun q => absurd q (by decide), by decide, ⟨_, _, _, _, _, _, _, _, _, _, _, _, _, _, _, hI, q4, hB, Nat.le_refl _, Nat.le_refl _⟩⟩
        · exfalso
          first | omega | (simp_all)
        · exfalso
          first | omega | (simp_all)
        · exfalso
          first | omega | (simp_all)
      · exact absurd x9 (by decide)
      · exact absurd x12 (by decide)
    · rcases hp with ⟨x1, (⟨x2, x3⟩ | ⟨i, j, x4, x5, x6, x7, (⟨x8, x9⟩ | ⟨x10, x11, x12⟩)⟩)⟩
      · exact absurd x3 (by decide)
      · rcases hr with ⟨q1, (⟨q2, ⟨z2, q3⟩, q4⟩ | ⟨i2, j2, q5, q6, q7, q8, (⟨q9, ⟨z2, q10⟩, q11⟩ | ⟨q12, (⟨q13, ⟨z2, q14⟩, q15⟩ | ⟨q16, q17, q18⟩)⟩)⟩)⟩
        · exfalso
          first | omega | (simp_all)
        · subst x1
          obtain rfl : i = i2 := by omega
          obtain rfl : j = j2 := by omega
          exact ⟨_, q10, fun q => absurd q (by decide), by decide, ⟨_, _, _, _, _, _, _, _, _, _, _, _, _, _, _, hI, q11, hB, Nat.le_refl _, Nat.le_refl _⟩⟩
        · obtain rfl : i = i2 := by omega
          obtain rfl : j = j2 := by omega
          exfalso
          first | omega | (simp_all)
        · obtain rfl : i = i2 := by omega
          obtain rfl : j = j2 := by omega
          exfalso
          first | omega | (simp_all)
      · exact absurd x12 (by decide)
    · rcases hp with ⟨x1, (⟨x2, x3⟩ | ⟨i, j, x4, x5, x6, x7, (⟨x8, x9⟩ | ⟨x10, x11, x12⟩)⟩)⟩
      · exact absurd x3 (by decide)
      · exact absurd x9 (by decide)
      · rcases hr with ⟨q1, (⟨q2, ⟨z2, q3⟩, q4⟩ | ⟨i2, j2, q5, q6, q7, q8, (⟨q9, ⟨z2, q10⟩, q11⟩ | ⟨q12, (⟨q13, ⟨z2, q14⟩, q15⟩ | ⟨q16, q17, q18⟩)⟩)⟩)⟩
        · exfalso
          first | omega | (simp_all)
        · obtain rfl : i = i2 := by omega
          obtain rfl : j = j2 := by omega
          exfalso
          first | omega | (simp_all)
        · subst x1
          obtain rfl : i = i2 := by omega
          obtain rfl : j = j2 := by omega
          exact ⟨_, q14, fun q => absurd q (by decide), by decide, ⟨_, _, _, _, _, _, _, _, _, _, _, _, _, _, _, hI, q15, hB, Nat.le_refl _, Nat.le_refl _⟩⟩
        · obtain rfl : i = i2 := by omega
          obtain rfl : j = j2 := by omega
          exfalso
          first | omega | (simp_all)
def PC_union (h : AH) (xo : Nat) (w : Nat → Nat) (c m : Nat) (E : Nat → Nat) (R : Nat → Nat → Nat) (br bf bs be : Int) (D2 D3 : Nat → Bool) (so : Nat) (a1 a2 : Int) (r : Option Value) (h' : AH) : Prop := ∃ i j, (i < m ∧ a1 = (i : Int) ∧ j < m ∧ a2 = (j : Int) ∧ E i = E j) ∧ m < 24 ∧ r = some (I (m : Nat)) ∧ HI h' xo w c (m + 1) (up E m (E i)) (up R m (rkT (fun s => b2n (parted (sortN (R i) (E i)) (sortN (R j) (E i)) s)) (E i) (2 ^ E i))) br bf bs be D2 D3 so ∧ Fr HF h h'
def XC_union (h : AH) (xo : Nat) (w : Nat → Nat) (c m : Nat) (E : Nat → Nat) (R : Nat → Nat → Nat) (br bf bs be : Int) (D2 D3 : Nat → Bool) (so : Nat) (a1 a2 : Int) (E' : String) (h' : AH) : Prop := h' = h ∧ (((noM a1 m ∨ noM a2 m) ∧ E' = eIOO) ∨ ∃ i j, i < m ∧ a1 = (i : Int) ∧ j < m ∧ a2 = (j : Int) ∧ ((E i ≠ E j ∧ E' = eUOE) ∨ (E i = E j ∧ m = 24 ∧ E' = eISE)))
def PR_union (S0 : State) (h : AH) (mo : Nat) (w : Nat → Nat) (c m : Nat) (E : Nat → Nat) (R : Nat → Nat → Nat) (b0 b1 b2 : Int) (a1 a2 : Int) (r : Option Value) (h' : AH) : Prop := Fr (fun x => 120 ≤ x ∧ x ≤ 139) h h' ∧ (((noM a1 m ∨ noM a2 m) ∧ (∃ z, r = some (I z)) ∧ RI (zA S0) DRp h' mo 1 c w m E R b0 b1 b2) ∨ ∃ i j : Nat, i < m ∧ a1 = (i : Int) ∧ j < m ∧ a2 = (j : Int) ∧ ((E i ≠ E j ∧ (∃ z, r = some (I z)) ∧ RI (zA S0) DRp h' mo 2 c w m E R b0 b1 b2) ∨ (E i = E j ∧ ((m = 24 ∧ (∃ z, r = some (I z)) ∧ RI (zA S0) DRp h' mo 3 c w m E R b0 b1 b2) ∨ (m ≠ 24 ∧ r = some (I (m : Nat)) ∧ RI (zA S0) DRp h' mo 0 c w (m + 1) (up E m (E i)) (up R m (uniM (R i) (R j) (E i))) b0 b1 b2)))))
theorem fP_union {h h1 : AH} {xo : Nat} {w : Nat → Nat} {c m : Nat} {E : Nat → Nat} {R : Nat → Nat → Nat} {br bf bs be : Int} {D2 D3 : Nat → Bool} {so : Nat} {a1 a2 : Int} {r : Option Value} (q : PC_union h xo w c m E R br bf bs be D2 D3 so a1 a2 r h1) : Fr HF h h1 := by
  unfold PC_union at q
  obtain ⟨i, j, ⟨p1, p2, p3, p4, p5⟩, p6, p7, p8, p9⟩ := q
  exact p9
theorem vP_union {h h1 : AH} {xo : Nat} {w : Nat → Nat} {c m : Nat} {E : Nat → Nat} {R : Nat → Nat → Nat} {br bf bs be : Int} {D2 D3 : Nat → Bool} {so : Nat} {a1 a2 : Int} {r : Option Value} (q : PC_union h xo w c m E R br bf bs be D2 D3 so a1 a2 r h1) : ∃ z : Int, r = some (I z) := by
  unfold PC_union at q
  obtain ⟨i, j, ⟨p1, p2, p3, p4, p5⟩, p6, p7, p8, p9⟩ := q
  exact ⟨_, p7⟩
theorem fX_union {h h1 : AH} {xo : Nat} {w : Nat → Nat} {c m : Nat} {E : Nat → Nat} {R : Nat → Nat → Nat} {br bf bs be : Int} {D2 D3 : Nat → Bool} {so : Nat} {a1 a2 : Int} {e : String} (q : XC_union h xo w c m E R br bf bs be D2 D3 so a1 a2 e h1) : Fr HF h h1 := by
  unfold XC_union at q
  rcases q with ⟨x1, (⟨x2, x3⟩ | ⟨i, j, x4, x5, x6, x7, (⟨x8, x9⟩ | ⟨x10, x11, x12⟩)⟩)⟩
  · rw [x1]; exact Fr.rf
  · rw [x1]; exact Fr.rf
  · rw [x1]; exact Fr.rf
theorem eX_union {h h1 : AH} {xo : Nat} {w : Nat → Nat} {c m : Nat} {E : Nat → Nat} {R : Nat → Nat → Nat} {br bf bs be : Int} {D2 D3 : Nat → Bool} {so : Nat} {a1 a2 : Int} {e : String} (q : XC_union h xo w c m E R br bf bs be D2 D3 so a1 a2 e h1) : e = eIOO ∨ e = eUOE ∨ e = eISE := by
  unfold XC_union at q
  rcases q with ⟨x1, (⟨x2, x3⟩ | ⟨i, j, x4, x5, x6, x7, (⟨x8, x9⟩ | ⟨x10, x11, x12⟩)⟩)⟩
  · exact Or.inl x3
  · exact Or.inr (Or.inl x9)
  · exact Or.inr (Or.inr (x12))
theorem fR_union {S0 : State} {h h1 : AH} {mo : Nat} {w : Nat → Nat} {c m : Nat} {E : Nat → Nat} {R : Nat → Nat → Nat} {b0 b1 b2 : Int} {a1 a2 : Int} {r : Option Value} (q : PR_union S0 h mo w c m E R b0 b1 b2 a1 a2 r h1) : Fr (fun x => 120 ≤ x ∧ x ≤ 139) h h1 := by
  unfold PR_union at q
  exact q.1.mono (fun l z => by omega)
theorem op_union {S0 : State} {h h1 h2 hb : AH} {g : Nat → Int64} {xo mo : Nat} {w : Nat → Nat} {c m : Nat} {E : Nat → Nat} {R : Nat → Nat → Nat} {br bf bs be b0 b1 b2 : Int} {D2 D3 : Nat → Bool} {so kk : Nat} {r2 : Option Value} {a1 a2 : Int} (hI : HI h xo w c m E R br bf bs be D2 D3 so) (hB : BrR br bf bs be b0 b1 b2) (hc : (kk = 0 ∧ ∃ z : Int, PC_union h xo w c m E R br bf bs be D2 D3 so a1 a2 (some (I z)) h1 ∧ g 0 = (Int32.ofInt z).toInt64) ∨ ∃ e : String, [eIOO, eUOE, eISE][kk - 1]? = some e ∧ 1 ≤ kk ∧ XC_union h xo w c m E R br bf bs be D2 D3 so a1 a2 e h1) (hr : PR_union S0 hb mo w c m E R b0 b1 b2 a1 a2 r2 h2) : ∃ z2 : Int, r2 = some (I z2) ∧ (kk = 0 → g 0 = (Int32.ofInt z2).toInt64) ∧ kk ≤ 4 ∧ Mg S0 h1 h2 xo mo kk (pC so D2) (pS so D2) := by
  have hM := hI.mtr.2.2.2.2.2.2
  unfold PR_union at hr
  rcases hc with ⟨rfl, z, hp, hg⟩ | ⟨e, he, hk, hp⟩
  · unfold PC_union at hp
    rcases hp with ⟨i, j, ⟨p1, p2, p3, p4, p5⟩, p6, p7, p8, p9⟩
    rcases hr with ⟨q1, (⟨q2, ⟨z2, q3⟩, q4⟩ | ⟨i2, j2, q5, q6, q7, q8, (⟨q9, ⟨z2, q10⟩, q11⟩ | ⟨q12, (⟨q13, ⟨z2, q14⟩, q15⟩ | ⟨q16, q17, q18⟩)⟩)⟩)⟩
    · exfalso
      first | omega | (simp_all)
    · obtain rfl : i = i2 := by omega
      obtain rfl : j = j2 := by omega
      exfalso
      first | omega | (simp_all)
    · obtain rfl : i = i2 := by omega
      obtain rfl : j = j2 := by omega
      exfalso
      first | omega | (simp_all)
    · obtain rfl : i = i2 := by omega
      obtain rfl : j = j2 := by omega
      refine ⟨_, q17, fun _ => ?_, by decide, ⟨_, _, _, _, _, _, _, _, _, _, _, _, _, _, _, p8, (RI.up q18 (fun s hs => (uni_same (hM i (by assumption)).1 hs).symm)), hB, Nat.le_refl _, Nat.le_refl _⟩⟩
      rw [hg, iI p7]
  · unfold XC_union at hp
    rcases ex3 he hk with ⟨rfl, rfl⟩ | ⟨rfl, rfl⟩ | ⟨rfl, rfl⟩
    · rcases hp with ⟨x1, (⟨x2, x3⟩ | ⟨i, j, x4, x5, x6, x7, (⟨x8, x9⟩ | ⟨x10, x11, x12⟩)⟩)⟩
      · rcases hr with ⟨q1, (⟨q2, ⟨z2, q3⟩, q4⟩ | ⟨i2, j2, q5, q6, q7, q8, (⟨q9, ⟨z2, q10⟩, q11⟩ | ⟨q12, (⟨q13, ⟨z2, q14⟩, q15⟩ | ⟨q16, q17, q18⟩)⟩)⟩)⟩
        · subst x1
          exact ⟨_, q3, fun q => absurd q (by decide), by decide, ⟨_, _, _, _, _, _, _, _, _, _, _, _, _, _, _, hI, q4, hB, Nat.le_refl _, Nat.le_refl _⟩⟩
        · exfalso
          first | omega | (simp_all)
        · exfalso
          first | omega | (simp_all)
        · exfalso
          first | omega | (simp_all)
      · exact absurd x9 (by decide)
      · exact absurd x12 (by decide)
    · rcases hp with ⟨x1, (⟨x2, x3⟩ | ⟨i, j, x4, x5, x6, x7, (⟨x8, x9⟩ | ⟨x10, x11, x12⟩)⟩)⟩
      · exact absurd x3 (by decide)
      · rcases hr with ⟨q1, (⟨q2, ⟨z2, q3⟩, q4⟩ | ⟨i2, j2, q5, q6, q7, q8, (⟨q9, ⟨z2, q10⟩, q11⟩ | ⟨q12, (⟨q13, ⟨z2, q14⟩, q15⟩ | ⟨q16, q17, q18⟩)⟩)⟩)⟩
        · exfalso
          first | omega | (simp_all)
        · subst x1
          obtain rfl : i = i2 := by omega
          obtain rfl : j = j2 := by omega
          exact ⟨_, q10, fun q => absurd q (by decide), by decide, ⟨_, _, _, _, _, _, _, _, _, _, _, _, _, _, _, hI, q11, hB, Nat.le_refl _, Nat.le_refl _⟩⟩
        · obtain rfl : i = i2 := by omega
          obtain rfl : j = j2 := by omega
          exfalso
          first | omega | (simp_all)
        · obtain rfl : i = i2 := by omega
          obtain rfl : j = j2 := by omega
          exfalso
          first | omega | (simp_all)
      · exact absurd x12 (by decide)
    · rcases hp with ⟨x1, (⟨x2, x3⟩ | ⟨i, j, x4, x5, x6, x7, (⟨x8, x9⟩ | ⟨x10, x11, x12⟩)⟩)⟩
      · exact absurd x3 (by decide)
      · exact absurd x9 (by decide)
      · rcases hr with ⟨q1, (⟨q2, ⟨z2, q3⟩, q4⟩ | ⟨i2, j2, q5, q6, q7, q8, (⟨q9, ⟨z2, q10⟩, q11⟩ | ⟨q12, (⟨q13, ⟨z2, q14⟩, q15⟩ | ⟨q16, q17, q18⟩)⟩)⟩)⟩
        · exfalso
          first | omega | (simp_all)
        · obtain rfl : i = i2 := by omega
          obtain rfl : j = j2 := by omega
          exfalso
          first | omega | (simp_all)
        · subst x1
          obtain rfl : i = i2 := by omega
          obtain rfl : j = j2 := by omega
          exact ⟨_, q14, fun q => absurd q (by decide), by decide, ⟨_, _, _, _, _, _, _, _, _, _, _, _, _, _, _, hI, q15, hB, Nat.le_refl _, Nat.le_refl _⟩⟩
        · obtain rfl : i = i2 := by omega
          obtain rfl : j = j2 := by omega
          exfalso
          first | omega | (simp_all)
def PC_truncate (h : AH) (xo : Nat) (w : Nat → Nat) (c m : Nat) (E : Nat → Nat) (R : Nat → Nat → Nat) (br bf bs be : Int) (D2 D3 : Nat → Bool) (so : Nat) (a1 : Int) (r : Option Value) (h' : AH) : Prop := ∃ i, (i < m ∧ a1 = (i : Int) ∧ R i (2 ^ E i - 1) ≠ 0) ∧ m < 24 ∧ r = some (I (m : Nat)) ∧ HI h' xo w c (m + 1) (up E m (E i)) (up R m (fun s => min (R i s) (R i (2 ^ E i - 1) - 1))) br bf bs be D2 D3 so ∧ Fr HF h h'
def XC_truncate (h : AH) (xo : Nat) (w : Nat → Nat) (c m : Nat) (E : Nat → Nat) (R : Nat → Nat → Nat) (br bf bs be : Int) (D2 D3 : Nat → Bool) (so : Nat) (a1 : Int) (E' : String) (h' : AH) : Prop := h' = h ∧ ((noM a1 m ∧ E' = eIOO) ∨ ∃ i, i < m ∧ a1 = (i : Int) ∧ ((R i (2 ^ E i - 1) = 0 ∧ E' = eUOE) ∨ (R i (2 ^ E i - 1) ≠ 0 ∧ m = 24 ∧ E' = eISE)))
def PR_truncate (S0 : State) (h : AH) (mo : Nat) (w : Nat → Nat) (c m : Nat) (E : Nat → Nat) (R : Nat → Nat → Nat) (b0 b1 b2 : Int) (a1 : Int) (r : Option Value) (h' : AH) : Prop := Fr (fun x => 120 ≤ x ∧ x ≤ 134) h h' ∧ ((noM a1 m ∧ (∃ z, r = some (I z)) ∧ RI (zA S0) DRp h' mo 1 c w m E R b0 b1 b2) ∨ ∃ i, i < m ∧ a1 = (i : Int) ∧ ((R i (2 ^ E i - 1) = 0 ∧ (∃ z, r = some (I z)) ∧ RI (zA S0) DRp h' mo 2 c w m E R b0 b1 b2) ∨ (R i (2 ^ E i - 1) ≠ 0 ∧ ((m = 24 ∧ (∃ z, r = some (I z)) ∧ RI (zA S0) DRp h' mo 3 c w m E R b0 b1 b2) ∨ (m ≠ 24 ∧ r = some (I (m : Nat)) ∧ RI (zA S0) DRp h' mo 0 c w (m + 1) (up E m (E i)) (up R m (fun s => min (R i s) (R i (2 ^ E i - 1) - 1))) b0 b1 b2)))))
theorem fP_truncate {h h1 : AH} {xo : Nat} {w : Nat → Nat} {c m : Nat} {E : Nat → Nat} {R : Nat → Nat → Nat} {br bf bs be : Int} {D2 D3 : Nat → Bool} {so : Nat} {a1 : Int} {r : Option Value} (q : PC_truncate h xo w c m E R br bf bs be D2 D3 so a1 r h1) : Fr HF h h1 := by
  unfold PC_truncate at q
  obtain ⟨i, ⟨p1, p2, p3⟩, p4, p5, p6, p7⟩ := q
  exact p7
theorem vP_truncate {h h1 : AH} {xo : Nat} {w : Nat → Nat} {c m : Nat} {E : Nat → Nat} {R : Nat → Nat → Nat} {br bf bs be : Int} {D2 D3 : Nat → Bool} {so : Nat} {a1 : Int} {r : Option Value} (q : PC_truncate h xo w c m E R br bf bs be D2 D3 so a1 r h1) : ∃ z : Int, r = some (I z) := by
  unfold PC_truncate at q
  obtain ⟨i, ⟨p1, p2, p3⟩, p4, p5, p6, p7⟩ := q
  exact ⟨_, p5⟩
theorem fX_truncate {h h1 : AH} {xo : Nat} {w : Nat → Nat} {c m : Nat} {E : Nat → Nat} {R : Nat → Nat → Nat} {br bf bs be : Int} {D2 D3 : Nat → Bool} {so : Nat} {a1 : Int} {e : String} (q : XC_truncate h xo w c m E R br bf bs be D2 D3 so a1 e h1) : Fr HF h h1 := by
  unfold XC_truncate at q
  rcases q with ⟨x1, (⟨x2, x3⟩ | ⟨i, x4, x5, (⟨x6, x7⟩ | ⟨x8, x9, x10⟩)⟩)⟩
  · rw [x1]; exact Fr.rf
  · rw [x1]; exact Fr.rf
  · rw [x1]; exact Fr.rf
theorem eX_truncate {h h1 : AH} {xo : Nat} {w : Nat → Nat} {c m : Nat} {E : Nat → Nat} {R : Nat → Nat → Nat} {br bf bs be : Int} {D2 D3 : Nat → Bool} {so : Nat} {a1 : Int} {e : String} (q : XC_truncate h xo w c m E R br bf bs be D2 D3 so a1 e h1) : e = eIOO ∨ e = eUOE ∨ e = eISE := by
  unfold XC_truncate at q
  rcases q with ⟨x1, (⟨x2, x3⟩ | ⟨i, x4, x5, (⟨x6, x7⟩ | ⟨x8, x9, x10⟩)⟩)⟩
  · exact Or.inl x3
  · exact Or.inr (Or.inl x7)
  · exact Or.inr (Or.inr (x10))
theorem fR_truncate {S0 : State} {h h1 : AH} {mo : Nat} {w : Nat → Nat} {c m : Nat} {E : Nat → Nat} {R : Nat → Nat → Nat} {b0 b1 b2 : Int} {a1 : Int} {r : Option Value} (q : PR_truncate S0 h mo w c m E R b0 b1 b2 a1 r h1) : Fr (fun x => 120 ≤ x ∧ x ≤ 139) h h1 := by
  unfold PR_truncate at q
  exact q.1.mono (fun l z => by omega)
theorem op_truncate {S0 : State} {h h1 h2 hb : AH} {g : Nat → Int64} {xo mo : Nat} {w : Nat → Nat} {c m : Nat} {E : Nat → Nat} {R : Nat → Nat → Nat} {br bf bs be b0 b1 b2 : Int} {D2 D3 : Nat → Bool} {so kk : Nat} {r2 : Option Value} {a1 : Int} (hI : HI h xo w c m E R br bf bs be D2 D3 so) (hB : BrR br bf bs be b0 b1 b2) (hc : (kk = 0 ∧ ∃ z : Int, PC_truncate h xo w c m E R br bf bs be D2 D3 so a1 (some (I z)) h1 ∧ g 0 = (Int32.ofInt z).toInt64) ∨ ∃ e : String, [eIOO, eUOE, eISE][kk - 1]? = some e ∧ 1 ≤ kk ∧ XC_truncate h xo w c m E R br bf bs be D2 D3 so a1 e h1) (hr : PR_truncate S0 hb mo w c m E R b0 b1 b2 a1 r2 h2) : ∃ z2 : Int, r2 = some (I z2) ∧ (kk = 0 → g 0 = (Int32.ofInt z2).toInt64) ∧ kk ≤ 4 ∧ Mg S0 h1 h2 xo mo kk (pC so D2) (pS so D2) := by
  have hM := hI.mtr.2.2.2.2.2.2
  unfold PR_truncate at hr
  rcases hc with ⟨rfl, z, hp, hg⟩ | ⟨e, he, hk, hp⟩
  · unfold PC_truncate at hp
    rcases hp with ⟨i, ⟨p1, p2, p3⟩, p4, p5, p6, p7⟩
    rcases hr with ⟨q1, (⟨q2, ⟨z2, q3⟩, q4⟩ | ⟨i2, q5, q6, (⟨q7, ⟨z2, q8⟩, q9⟩ | ⟨q10, (⟨q11, ⟨z2, q12⟩, q13⟩ | ⟨q14, q15, q16⟩)⟩)⟩)⟩
    · exfalso
      first | omega | (simp_all)
    · obtain rfl : i = i2 := by omega
      exfalso
      first | omega | (simp_all)
    · obtain rfl : i = i2 := by omega
      exfalso
      first | omega | (simp_all)
    · obtain rfl : i = i2 := by omega
      refine ⟨_, q15, fun _ => ?_, by decide, ⟨_, _, _, _, _, _, _, _, _, _, _, _, _, _, _, p6, q16, hB, Nat.le_refl _, Nat.le_refl _⟩⟩
      rw [hg, iI p5]
  · unfold XC_truncate at hp
    rcases ex3 he hk with ⟨rfl, rfl⟩ | ⟨rfl, rfl⟩ | ⟨rfl, rfl⟩
    · rcases hp with ⟨x1, (⟨x2, x3⟩ | ⟨i, x4, x5, (⟨x6, x7⟩ | ⟨x8, x9, x10⟩)⟩)⟩
      · rcases hr with ⟨q1, (⟨q2, ⟨z2, q3⟩, q4⟩ | ⟨i2, q5, q6, (⟨q7, ⟨z2, q8⟩, q9⟩ | ⟨q10, (⟨q11, ⟨z2, q12⟩, q13⟩ | ⟨q14, q15, q16⟩)⟩)⟩)⟩
        · subst x1
          exact ⟨_, q3, fun q => absurd q (by decide), by decide, ⟨_, _, _, _, _, _, _, _, _, _, _, _, _, _, _, hI, q4, hB, Nat.le_refl _, Nat.le_refl _⟩⟩
        · exfalso
          first | omega | (simp_all)
        · exfalso
          first | omega | (simp_all)
        · exfalso
          first | omega | (simp_all)
      · exact absurd x7 (by decide)
      · exact absurd x10 (by decide)
    · rcases hp with ⟨x1, (⟨x2, x3⟩ | ⟨i, x4, x5, (⟨x6, x7⟩ | ⟨x8, x9, x10⟩)⟩)⟩
      · exact absurd x3 (by decide)
      · rcases hr with ⟨q1, (⟨q2, ⟨z2, q3⟩, q4⟩ | ⟨i2, q5, q6, (⟨q7, ⟨z2, q8⟩, q9⟩ | ⟨q10, (⟨q11, ⟨z2, q12⟩, q13⟩ | ⟨q14, q15, q16⟩)⟩)⟩)⟩
        · exfalso
          first | omega | (simp_all)
        · subst x1
          obtain rfl : i = i2 := by omega
          exact ⟨_, q8, fun q => absurd q (by decide), by decide, ⟨_, _, _, _, _, _, _, _, _, _, _, _, _, _, _, hI, q9, hB, Nat.le_refl _, Nat.le_refl _⟩⟩
        · obtain rfl : i = i2 := by omega
          exfalso
          first | omega | (simp_all)
        · obtain rfl : i = i2 := by omega
          exfalso
          first | omega | (simp_all)
      · exact absurd x10 (by decide)
    · rcases hp with ⟨x1, (⟨x2, x3⟩ | ⟨i, x4, x5, (⟨x6, x7⟩ | ⟨x8, x9, x10⟩)⟩)⟩
      · exact absurd x3 (by decide)
      · exact absurd x7 (by decide)
      · rcases hr with ⟨q1, (⟨q2, ⟨z2, q3⟩, q4⟩ | ⟨i2, q5, q6, (⟨q7, ⟨z2, q8⟩, q9⟩ | ⟨q10, (⟨q11, ⟨z2, q12⟩, q13⟩ | ⟨q14, q15, q16⟩)⟩)⟩)⟩
        · exfalso
          first | omega | (simp_all)
        · obtain rfl : i = i2 := by omega
          exfalso
          first | omega | (simp_all)
        · subst x1
          obtain rfl : i = i2 := by omega
          exact ⟨_, q12, fun q => absurd q (by decide), by decide, ⟨_, _, _, _, _, _, _, _, _, _, _, _, _, _, _, hI, q13, hB, Nat.le_refl _, Nat.le_refl _⟩⟩
        · obtain rfl : i = i2 := by omega
          exfalso
          first | omega | (simp_all)
def PC_relax (h : AH) (xo : Nat) (w : Nat → Nat) (c m : Nat) (E : Nat → Nat) (R : Nat → Nat → Nat) (br bf bs be : Int) (D2 D3 : Nat → Bool) (so : Nat) (a1 a2 : Int) (r : Option Value) (h' : AH) : Prop := ∃ i t : Nat, (i < m ∧ a1 = (i : Int) ∧ t < 2 ^ E i ∧ a2 = (t : Int) ∧ (sortN (R i) (E i) t &&& 4 != 0) = true ∧ (sortN (R i) (E i) t &&& 16 != 0) = true) ∧ m < 24 ∧ r = some (I (m : Nat)) ∧ HI h' xo w c (m + 1) (up E m (E i)) (up R m (fun a2 => if a2 = t then R i (2 ^ E i - 1) else R i a2)) br bf bs be D2 D3 so ∧ Fr HF h h'
def XC_relax (h : AH) (xo : Nat) (w : Nat → Nat) (c m : Nat) (E : Nat → Nat) (R : Nat → Nat → Nat) (br bf bs be : Int) (D2 D3 : Nat → Bool) (so : Nat) (a1 a2 : Int) (E' : String) (h' : AH) : Prop := h' = h ∧ ((noM a1 m ∧ E' = eIOO) ∨ ∃ i, i < m ∧ a1 = (i : Int) ∧ ((¬ (0 ≤ a2 ∧ a2 < ((2 ^ E i : Nat) : Int)) ∧ E' = eIAE) ∨ ∃ t : Nat, t < 2 ^ E i ∧ a2 = (t : Int) ∧ ((¬ ((sortN (R i) (E i) t &&& 4 != 0) = true ∧ (sortN (R i) (E i) t &&& 16 != 0) = true) ∧ E' = eUOE) ∨ ((sortN (R i) (E i) t &&& 4 != 0) = true ∧ (sortN (R i) (E i) t &&& 16 != 0) = true ∧ m = 24 ∧ E' = eISE))))
def PR_relax (S0 : State) (h : AH) (mo : Nat) (w : Nat → Nat) (c m : Nat) (E : Nat → Nat) (R : Nat → Nat → Nat) (b0 b1 b2 : Int) (a1 a2 : Int) (r : Option Value) (h' : AH) : Prop := Fr (fun x => 120 ≤ x ∧ x ≤ 134) h h' ∧ ((noM a1 m ∧ (∃ z, r = some (I z)) ∧ RI (zA S0) DRp h' mo 1 c w m E R b0 b1 b2) ∨ ∃ i, i < m ∧ a1 = (i : Int) ∧ (((¬ (0 ≤ a2 ∧ a2 < ((2 ^ E i : Nat) : Int))) ∧ (∃ z, r = some (I z)) ∧ RI (zA S0) DRp h' mo 2 c w m E R b0 b1 b2) ∨ ∃ t : Nat, t < 2 ^ E i ∧ a2 = (t : Int) ∧ (((cirM (R i) t (E i) = false ∨ hypB (R i) (E i) t = false) ∧ (∃ z, r = some (I z)) ∧ RI (zA S0) DRp h' mo 3 c w m E R b0 b1 b2) ∨ (cirM (R i) t (E i) = true ∧ hypB (R i) (E i) t = true ∧ ((m = 24 ∧ (∃ z, r = some (I z)) ∧ RI (zA S0) DRp h' mo 4 c w m E R b0 b1 b2) ∨ (m ≠ 24 ∧ r = some (I (m : Nat)) ∧ RI (zA S0) DRp h' mo 0 c w (m + 1) (up E m (E i)) (up R m (fun a2 => if a2 = t then R i (2 ^ E i - 1) else R i a2)) b0 b1 b2))))))
theorem fP_relax {h h1 : AH} {xo : Nat} {w : Nat → Nat} {c m : Nat} {E : Nat → Nat} {R : Nat → Nat → Nat} {br bf bs be : Int} {D2 D3 : Nat → Bool} {so : Nat} {a1 a2 : Int} {r : Option Value} (q : PC_relax h xo w c m E R br bf bs be D2 D3 so a1 a2 r h1) : Fr HF h h1 := by
  unfold PC_relax at q
  obtain ⟨i, t, ⟨p1, p2, p3, p4, p5, p6⟩, p7, p8, p9, p10⟩ := q
  exact p10
theorem vP_relax {h h1 : AH} {xo : Nat} {w : Nat → Nat} {c m : Nat} {E : Nat → Nat} {R : Nat → Nat → Nat} {br bf bs be : Int} {D2 D3 : Nat → Bool} {so : Nat} {a1 a2 : Int} {r : Option Value} (q : PC_relax h xo w c m E R br bf bs be D2 D3 so a1 a2 r h1) : ∃ z : Int, r = some (I z) := by
  unfold PC_relax at q
  obtain ⟨i, t, ⟨p1, p2, p3, p4, p5, p6⟩, p7, p8, p9, p10⟩ := q
  exact ⟨_, p8⟩
theorem fX_relax {h h1 : AH} {xo : Nat} {w : Nat → Nat} {c m : Nat} {E : Nat → Nat} {R : Nat → Nat → Nat} {br bf bs be : Int} {D2 D3 : Nat → Bool} {so : Nat} {a1 a2 : Int} {e : String} (q : XC_relax h xo w c m E R br bf bs be D2 D3 so a1 a2 e h1) : Fr HF h h1 := by
  unfold XC_relax at q
  rcases q with ⟨x1, (⟨x2, x3⟩ | ⟨i, x4, x5, (⟨x6, x7⟩ | ⟨t, x8, x9, (⟨x10, x11⟩ | ⟨x12, x13, x14, x15⟩)⟩)⟩)⟩
  · rw [x1]; exact Fr.rf
  · rw [x1]; exact Fr.rf
  · rw [x1]; exact Fr.rf
  · rw [x1]; exact Fr.rf
theorem eX_relax {h h1 : AH} {xo : Nat} {w : Nat → Nat} {c m : Nat} {E : Nat → Nat} {R : Nat → Nat → Nat} {br bf bs be : Int} {D2 D3 : Nat → Bool} {so : Nat} {a1 a2 : Int} {e : String} (q : XC_relax h xo w c m E R br bf bs be D2 D3 so a1 a2 e h1) : e = eIOO ∨ e = eIAE ∨ e = eUOE ∨ e = eISE := by
  unfold XC_relax at q
  rcases q with ⟨x1, (⟨x2, x3⟩ | ⟨i, x4, x5, (⟨x6, x7⟩ | ⟨t, x8, x9, (⟨x10, x11⟩ | ⟨x12, x13, x14, x15⟩)⟩)⟩)⟩
  · exact Or.inl x3
  · exact Or.inr (Or.inl x7)
  · exact Or.inr (Or.inr (Or.inl x11))
  · exact Or.inr (Or.inr (Or.inr (x15)))
theorem fR_relax {S0 : State} {h h1 : AH} {mo : Nat} {w : Nat → Nat} {c m : Nat} {E : Nat → Nat} {R : Nat → Nat → Nat} {b0 b1 b2 : Int} {a1 a2 : Int} {r : Option Value} (q : PR_relax S0 h mo w c m E R b0 b1 b2 a1 a2 r h1) : Fr (fun x => 120 ≤ x ∧ x ≤ 139) h h1 := by
  unfold PR_relax at q
  exact q.1.mono (fun l z => by omega)
theorem op_relax {S0 : State} {h h1 h2 hb : AH} {g : Nat → Int64} {xo mo : Nat} {w : Nat → Nat} {c m : Nat} {E : Nat → Nat} {R : Nat → Nat → Nat} {br bf bs be b0 b1 b2 : Int} {D2 D3 : Nat → Bool} {so kk : Nat} {r2 : Option Value} {a1 a2 : Int} (hI : HI h xo w c m E R br bf bs be D2 D3 so) (hB : BrR br bf bs be b0 b1 b2) (hc : (kk = 0 ∧ ∃ z : Int, PC_relax h xo w c m E R br bf bs be D2 D3 so a1 a2 (some (I z)) h1 ∧ g 0 = (Int32.ofInt z).toInt64) ∨ ∃ e : String, [eIOO, eIAE, eUOE, eISE][kk - 1]? = some e ∧ 1 ≤ kk ∧ XC_relax h xo w c m E R br bf bs be D2 D3 so a1 a2 e h1) (hr : PR_relax S0 hb mo w c m E R b0 b1 b2 a1 a2 r2 h2) : ∃ z2 : Int, r2 = some (I z2) ∧ (kk = 0 → g 0 = (Int32.ofInt z2).toInt64) ∧ kk ≤ 4 ∧ Mg S0 h1 h2 xo mo kk (pC so D2) (pS so D2) := by
  have hM := hI.mtr.2.2.2.2.2.2
  unfold PR_relax at hr
  rcases hc with ⟨rfl, z, hp, hg⟩ | ⟨e, he, hk, hp⟩
  · unfold PC_relax at hp
    rcases hp with ⟨i, t, ⟨p1, p2, p3, p4, p5, p6⟩, p7, p8, p9, p10⟩
    rcases hr with ⟨q1, (⟨q2, ⟨z2, q3⟩, q4⟩ | ⟨i2, q5, q6, (⟨q7, ⟨z2, q8⟩, q9⟩ | ⟨t2, q10, q11, (⟨q12, ⟨z2, q13⟩, q14⟩ | ⟨q15, q16, (⟨q17, ⟨z2, q18⟩, q19⟩ | ⟨q20, q21, q22⟩)⟩)⟩)⟩)⟩
    · exfalso
      first | omega | ((have z1 := (hM i (by assumption)).srtC (s := t) (by assumption); have z2 := (hM i (by assumption)).hyp (s := t) (by assumption); simp_all; done))
    · obtain rfl : i = i2 := by omega
      exfalso
      first | omega | ((have z1 := (hM i (by assumption)).srtC (s := t) (by assumption); have z2 := (hM i (by assumption)).hyp (s := t) (by assumption); simp_all; done))
    · obtain rfl : i = i2 := by omega
      obtain rfl : t = t2 := by omega
      exfalso
      first | omega | ((have z1 := (hM i (by assumption)).srtC (s := t) (by assumption); have z2 := (hM i (by assumption)).hyp (s := t) (by assumption); simp_all; done))
    · obtain rfl : i = i2 := by omega
      obtain rfl : t = t2 := by omega
      exfalso
      first | omega | ((have z1 := (hM i (by assumption)).srtC (s := t) (by assumption); have z2 := (hM i (by assumption)).hyp (s := t) (by assumption); simp_all; done))
    · obtain rfl : i = i2 := by omega
      obtain rfl : t = t2 := by omega
      refine ⟨_, q21, fun _ => ?_, by decide, ⟨_, _, _, _, _, _, _, _, _, _, _, _, _, _, _, p9, q22, hB, Nat.le_refl _, Nat.le_refl _⟩⟩
      rw [hg, iI p8]
  · unfold XC_relax at hp
    rcases ex4 he hk with ⟨rfl, rfl⟩ | ⟨rfl, rfl⟩ | ⟨rfl, rfl⟩ | ⟨rfl, rfl⟩
    · rcases hp with ⟨x1, (⟨x2, x3⟩ | ⟨i, x4, x5, (⟨x6, x7⟩ | ⟨t, x8, x9, (⟨x10, x11⟩ | ⟨x12, x13, x14, x15⟩)⟩)⟩)⟩
      · rcases hr with ⟨q1, (⟨q2, ⟨z2, q3⟩, q4⟩ | ⟨i2, q5, q6, (⟨q7, ⟨z2, q8⟩, q9⟩ | ⟨t2, q10, q11, (⟨q12, ⟨z2, q13⟩, q14⟩ | ⟨q15, q16, (⟨q17, ⟨z2, q18⟩, q19⟩ | ⟨q20, q21, q22⟩)⟩)⟩)⟩)⟩
        · subst x1
          exact ⟨_, q3, fun q => absurd q (by decide), by decide, ⟨_, _, _, _, _, _, _, _, _, _, _, _, _, _, _, hI, q4, hB, Nat.le_refl _, Nat.le_refl _⟩⟩
        · exfalso
          first | omega | ((have z1 := (hM i (by assumption)).srtC (s := t) (by assumption); have z2 := (hM i (by assumption)).hyp (s := t) (by assumption); simp_all; done))
        · exfalso
          first | omega | ((have z1 := (hM i (by assumption)).srtC (s := t) (by assumption); have z2 := (hM i (by assumption)).hyp (s := t) (by assumption); simp_all; done))
        · exfalso
          first | omega | ((have z1 := (hM i (by assumption)).srtC (s := t) (by assumption); have z2 := (hM i (by assumption)).hyp (s := t) (by assumption); simp_all; done))
        · exfalso
          first | omega | ((have z1 := (hM i (by assumption)).srtC (s := t) (by assumption); have z2 := (hM i (by assumption)).hyp (s := t) (by assumption); simp_all; done))
      · exact absurd x7 (by decide)
      · exact absurd x11 (by decide)
      · exact absurd x15 (by decide)
    · rcases hp with ⟨x1, (⟨x2, x3⟩ | ⟨i, x4, x5, (⟨x6, x7⟩ | ⟨t, x8, x9, (⟨x10, x11⟩ | ⟨x12, x13, x14, x15⟩)⟩)⟩)⟩
      · exact absurd x3 (by decide)
      · rcases hr with ⟨q1, (⟨q2, ⟨z2, q3⟩, q4⟩ | ⟨i2, q5, q6, (⟨q7, ⟨z2, q8⟩, q9⟩ | ⟨t2, q10, q11, (⟨q12, ⟨z2, q13⟩, q14⟩ | ⟨q15, q16, (⟨q17, ⟨z2, q18⟩, q19⟩ | ⟨q20, q21, q22⟩)⟩)⟩)⟩)⟩
        · exfalso
          first | omega | ((have z1 := (hM i (by assumption)).srtC (s := t) (by assumption); have z2 := (hM i (by assumption)).hyp (s := t) (by assumption); simp_all; done))
        · subst x1
          obtain rfl : i = i2 := by omega
          exact ⟨_, q8, fun q => absurd q (by decide), by decide, ⟨_, _, _, _, _, _, _, _, _, _, _, _, _, _, _, hI, q9, hB, Nat.le_refl _, Nat.le_refl _⟩⟩
        · obtain rfl : i = i2 := by omega
          exfalso
          first | omega | ((have z1 := (hM i (by assumption)).srtC (s := t) (by assumption); have z2 := (hM i (by assumption)).hyp (s := t) (by assumption); simp_all; done))
        · obtain rfl : i = i2 := by omega
          exfalso
          first | omega | ((have z1 := (hM i (by assumption)).srtC (s := t) (by assumption); have z2 := (hM i (by assumption)).hyp (s := t) (by assumption); simp_all; done))
        · obtain rfl : i = i2 := by omega
          exfalso
          first | omega | ((have z1 := (hM i (by assumption)).srtC (s := t) (by assumption); have z2 := (hM i (by assumption)).hyp (s := t) (by assumption); simp_all; done))
      · exact absurd x11 (by decide)
      · exact absurd x15 (by decide)
    · rcases hp with ⟨x1, (⟨x2, x3⟩ | ⟨i, x4, x5, (⟨x6, x7⟩ | ⟨t, x8, x9, (⟨x10, x11⟩ | ⟨x12, x13, x14, x15⟩)⟩)⟩)⟩
      · exact absurd x3 (by decide)
      · exact absurd x7 (by decide)
      · rcases hr with ⟨q1, (⟨q2, ⟨z2, q3⟩, q4⟩ | ⟨i2, q5, q6, (⟨q7, ⟨z2, q8⟩, q9⟩ | ⟨t2, q10, q11, (⟨q12, ⟨z2, q13⟩, q14⟩ | ⟨q15, q16, (⟨q17, ⟨z2, q18⟩, q19⟩ | ⟨q20, q21, q22⟩)⟩)⟩)⟩)⟩
        · exfalso
          first | omega | ((have z1 := (hM i (by assumption)).srtC (s := t) (by assumption); have z2 := (hM i (by assumption)).hyp (s := t) (by assumption); simp_all; done))
        · obtain rfl : i = i2 := by omega
          exfalso
          first | omega | ((have z1 := (hM i (by assumption)).srtC (s := t) (by assumption); have z2 := (hM i (by assumption)).hyp (s := t) (by assumption); simp_all; done))
        · subst x1
          obtain rfl : i = i2 := by omega
          obtain rfl : t = t2 := by omega
          exact ⟨_, q13, fun q => absurd q (by decide), by decide, ⟨_, _, _, _, _, _, _, _, _, _, _, _, _, _, _, hI, q14, hB, Nat.le_refl _, Nat.le_refl _⟩⟩
        · obtain rfl : i = i2 := by omega
          obtain rfl : t = t2 := by omega
          exfalso
          first | omega | ((have z1 := (hM i (by assumption)).srtC (s := t) (by assumption); have z2 := (hM i (by assumption)).hyp (s := t) (by assumption); simp_all; done))
        · obtain rfl : i = i2 := by omega
          obtain rfl : t = t2 := by omega
          exfalso
          first | omega | ((have z1 := (hM i (by assumption)).srtC (s := t) (by assumption); have z2 := (hM i (by assumption)).hyp (s := t) (by assumption); simp_all; done))
      · exact absurd x15 (by decide)
    · rcases hp with ⟨x1, (⟨x2, x3⟩ | ⟨i, x4, x5, (⟨x6, x7⟩ | ⟨t, x8, x9, (⟨x10, x11⟩ | ⟨x12, x13, x14, x15⟩)⟩)⟩)⟩
      · exact absurd x3 (by decide)
      · exact absurd x7 (by decide)
      · exact absurd x11 (by decide)
      · rcases hr with ⟨q1, (⟨q2, ⟨z2, q3⟩, q4⟩ | ⟨i2, q5, q6, (⟨q7, ⟨z2, q8⟩, q9⟩ | ⟨t2, q10, q11, (⟨q12, ⟨z2, q13⟩, q14⟩ | ⟨q15, q16, (⟨q17, ⟨z2, q18⟩, q19⟩ | ⟨q20, q21, q22⟩)⟩)⟩)⟩)⟩
        · exfalso
          first | omega | ((have z1 := (hM i (by assumption)).srtC (s := t) (by assumption); have z2 := (hM i (by assumption)).hyp (s := t) (by assumption); simp_all; done))
        · obtain rfl : i = i2 := by omega
          exfalso
          first | omega | ((have z1 := (hM i (by assumption)).srtC (s := t) (by assumption); have z2 := (hM i (by assumption)).hyp (s := t) (by assumption); simp_all; done))
        · obtain rfl : i = i2 := by omega
          obtain rfl : t = t2 := by omega
          exfalso
          first | omega | ((have z1 := (hM i (by assumption)).srtC (s := t) (by assumption); have z2 := (hM i (by assumption)).hyp (s := t) (by assumption); simp_all; done))
        · subst x1
          obtain rfl : i = i2 := by omega
          obtain rfl : t = t2 := by omega
          exact ⟨_, q18, fun q => absurd q (by decide), by decide, ⟨_, _, _, _, _, _, _, _, _, _, _, _, _, _, _, hI, q19, hB, Nat.le_refl _, Nat.le_refl _⟩⟩
        · obtain rfl : i = i2 := by omega
          obtain rfl : t = t2 := by omega
          exfalso
          first | omega | ((have z1 := (hM i (by assumption)).srtC (s := t) (by assumption); have z2 := (hM i (by assumption)).hyp (s := t) (by assumption); simp_all; done))
def PC_extend (h : AH) (xo : Nat) (w : Nat → Nat) (c m : Nat) (E : Nat → Nat) (R : Nat → Nat → Nat) (br bf bs be : Int) (D2 D3 : Nat → Bool) (so : Nat) (a1 a2 : Int) (r : Option Value) (h' : AH) : Prop := ∃ i t : Nat, (i < m ∧ a1 = (i : Int) ∧ t < 2 ^ E i ∧ a2 = (t : Int) ∧ E i ≤ 9) ∧ m < 24 ∧ r = some (I (m : Nat)) ∧ HI h' xo w c (m + 1) (up E m (E i + 1)) (up R m (extR (R i) (E i) t)) br bf bs be D2 D3 so ∧ Fr HF h h'
def XC_extend (h : AH) (xo : Nat) (w : Nat → Nat) (c m : Nat) (E : Nat → Nat) (R : Nat → Nat → Nat) (br bf bs be : Int) (D2 D3 : Nat → Bool) (so : Nat) (a1 a2 : Int) (E' : String) (h' : AH) : Prop := h' = h ∧ ((noM a1 m ∧ E' = eIOO) ∨ ∃ i, i < m ∧ a1 = (i : Int) ∧ ((¬ (0 ≤ a2 ∧ a2 < ((2 ^ E i : Nat) : Int)) ∧ E' = eIAE) ∨ (0 ≤ a2 ∧ a2 < ((2 ^ E i : Nat) : Int) ∧ ((E i = 10 ∧ E' = eUOE) ∨ (E i ≤ 9 ∧ m = 24 ∧ E' = eISE)))))
def PR_extend (S0 : State) (h : AH) (mo : Nat) (w : Nat → Nat) (c m : Nat) (E : Nat → Nat) (R : Nat → Nat → Nat) (b0 b1 b2 : Int) (a1 a2 : Int) (r : Option Value) (h' : AH) : Prop := Fr (fun x => 120 ≤ x ∧ x ≤ 134) h h' ∧ ((noM a1 m ∧ (∃ z, r = some (I z)) ∧ RI (zA S0) DRp h' mo 1 c w m E R b0 b1 b2) ∨ ∃ i, i < m ∧ a1 = (i : Int) ∧ (((¬ (0 ≤ a2 ∧ a2 < ((2 ^ E i : Nat) : Int))) ∧ (∃ z, r = some (I z)) ∧ RI (zA S0) DRp h' mo 2 c w m E R b0 b1 b2) ∨ ∃ t : Nat, t < 2 ^ E i ∧ a2 = (t : Int) ∧ ((E i = 10 ∧ (∃ z, r = some (I z)) ∧ RI (zA S0) DRp h' mo 3 c w m E R b0 b1 b2) ∨ (E i ≤ 9 ∧ ((m = 24 ∧ (∃ z, r = some (I z)) ∧ RI (zA S0) DRp h' mo 4 c w m E R b0 b1 b2) ∨ (m ≠ 24 ∧ r = some (I (m : Nat)) ∧ RI (zA S0) DRp h' mo 0 c w (m + 1) (up E m (E i + 1)) (up R m (fun a2 => extM (R i) (E i) t a2)) b0 b1 b2))))))
theorem fP_extend {h h1 : AH} {xo : Nat} {w : Nat → Nat} {c m : Nat} {E : Nat → Nat} {R : Nat → Nat → Nat} {br bf bs be : Int} {D2 D3 : Nat → Bool} {so : Nat} {a1 a2 : Int} {r : Option Value} (q : PC_extend h xo w c m E R br bf bs be D2 D3 so a1 a2 r h1) : Fr HF h h1 := by
  unfold PC_extend at q
  obtain ⟨i, t, ⟨p1, p2, p3, p4, p5⟩, p6, p7, p8, p9⟩ := q
  exact p9
theorem vP_extend {h h1 : AH} {xo : Nat} {w : Nat → Nat} {c m : Nat} {E : Nat → Nat} {R : Nat → Nat → Nat} {br bf bs be : Int} {D2 D3 : Nat → Bool} {so : Nat} {a1 a2 : Int} {r : Option Value} (q : PC_extend h xo w c m E R br bf bs be D2 D3 so a1 a2 r h1) : ∃ z : Int, r = some (I z) := by
  unfold PC_extend at q
  obtain ⟨i, t, ⟨p1, p2, p3, p4, p5⟩, p6, p7, p8, p9⟩ := q
  exact ⟨_, p7⟩
theorem fX_extend {h h1 : AH} {xo : Nat} {w : Nat → Nat} {c m : Nat} {E : Nat → Nat} {R : Nat → Nat → Nat} {br bf bs be : Int} {D2 D3 : Nat → Bool} {so : Nat} {a1 a2 : Int} {e : String} (q : XC_extend h xo w c m E R br bf bs be D2 D3 so a1 a2 e h1) : Fr HF h h1 := by
  unfold XC_extend at q
  rcases q with ⟨x1, (⟨x2, x3⟩ | ⟨i, x4, x5, (⟨x6, x7⟩ | ⟨x8, x9, (⟨x10, x11⟩ | ⟨x12, x13, x14⟩)⟩)⟩)⟩
  · rw [x1]; exact Fr.rf
  · rw [x1]; exact Fr.rf
  · rw [x1]; exact Fr.rf
  · rw [x1]; exact Fr.rf
theorem eX_extend {h h1 : AH} {xo : Nat} {w : Nat → Nat} {c m : Nat} {E : Nat → Nat} {R : Nat → Nat → Nat} {br bf bs be : Int} {D2 D3 : Nat → Bool} {so : Nat} {a1 a2 : Int} {e : String} (q : XC_extend h xo w c m E R br bf bs be D2 D3 so a1 a2 e h1) : e = eIOO ∨ e = eIAE ∨ e = eUOE ∨ e = eISE := by
  unfold XC_extend at q
  rcases q with ⟨x1, (⟨x2, x3⟩ | ⟨i, x4, x5, (⟨x6, x7⟩ | ⟨x8, x9, (⟨x10, x11⟩ | ⟨x12, x13, x14⟩)⟩)⟩)⟩
  · exact Or.inl x3
  · exact Or.inr (Or.inl x7)
  · exact Or.inr (Or.inr (Or.inl x11))
  · exact Or.inr (Or.inr (Or.inr (x14)))
theorem fR_extend {S0 : State} {h h1 : AH} {mo : Nat} {w : Nat → Nat} {c m : Nat} {E : Nat → Nat} {R : Nat → Nat → Nat} {b0 b1 b2 : Int} {a1 a2 : Int} {r : Option Value} (q : PR_extend S0 h mo w c m E R b0 b1 b2 a1 a2 r h1) : Fr (fun x => 120 ≤ x ∧ x ≤ 139) h h1 := by
  unfold PR_extend at q
  exact q.1.mono (fun l z => by omega)
theorem op_extend {S0 : State} {h h1 h2 hb : AH} {g : Nat → Int64} {xo mo : Nat} {w : Nat → Nat} {c m : Nat} {E : Nat → Nat} {R : Nat → Nat → Nat} {br bf bs be b0 b1 b2 : Int} {D2 D3 : Nat → Bool} {so kk : Nat} {r2 : Option Value} {a1 a2 : Int} (hI : HI h xo w c m E R br bf bs be D2 D3 so) (hB : BrR br bf bs be b0 b1 b2) (hc : (kk = 0 ∧ ∃ z : Int, PC_extend h xo w c m E R br bf bs be D2 D3 so a1 a2 (some (I z)) h1 ∧ g 0 = (Int32.ofInt z).toInt64) ∨ ∃ e : String, [eIOO, eIAE, eUOE, eISE][kk - 1]? = some e ∧ 1 ≤ kk ∧ XC_extend h xo w c m E R br bf bs be D2 D3 so a1 a2 e h1) (hr : PR_extend S0 hb mo w c m E R b0 b1 b2 a1 a2 r2 h2) : ∃ z2 : Int, r2 = some (I z2) ∧ (kk = 0 → g 0 = (Int32.ofInt z2).toInt64) ∧ kk ≤ 4 ∧ Mg S0 h1 h2 xo mo kk (pC so D2) (pS so D2) := by
  have hM := hI.mtr.2.2.2.2.2.2
  unfold PR_extend at hr
  rcases hc with ⟨rfl, z, hp, hg⟩ | ⟨e, he, hk, hp⟩
  · unfold PC_extend at hp
    rcases hp with ⟨i, t, ⟨p1, p2, p3, p4, p5⟩, p6, p7, p8, p9⟩
    rcases hr with ⟨q1, (⟨q2, ⟨z2, q3⟩, q4⟩ | ⟨i2, q5, q6, (⟨q7, ⟨z2, q8⟩, q9⟩ | ⟨t2, q10, q11, (⟨q12, ⟨z2, q13⟩, q14⟩ | ⟨q15, (⟨q16, ⟨z2, q17⟩, q18⟩ | ⟨q19, q20, q21⟩)⟩)⟩)⟩)⟩
    · exfalso
      first | omega | (simp_all)
    · obtain rfl : i = i2 := by omega
      exfalso
      first | omega | (simp_all)
    · obtain rfl : i = i2 := by omega
      obtain rfl : t = t2 := by omega
      exfalso
      first | omega | (simp_all)
    · obtain rfl : i = i2 := by omega
      obtain rfl : t = t2 := by omega
      exfalso
      first | omega | (simp_all)
    · obtain rfl : i = i2 := by omega
      obtain rfl : t = t2 := by omega
      refine ⟨_, q20, fun _ => ?_, by decide, ⟨_, _, _, _, _, _, _, _, _, _, _, _, _, _, _, p8, (RI.up q21 (fun s hs => ((hM i (by assumption)).extE (by assumption) hs).symm)), hB, Nat.le_refl _, Nat.le_refl _⟩⟩
      rw [hg, iI p7]
  · unfold XC_extend at hp
    rcases ex4 he hk with ⟨rfl, rfl⟩ | ⟨rfl, rfl⟩ | ⟨rfl, rfl⟩ | ⟨rfl, rfl⟩
    · rcases hp with ⟨x1, (⟨x2, x3⟩ | ⟨i, x4, x5, (⟨x6, x7⟩ | ⟨x8, x9, (⟨x10, x11⟩ | ⟨x12, x13, x14⟩)⟩)⟩)⟩
      · rcases hr with ⟨q1, (⟨q2, ⟨z2, q3⟩, q4⟩ | ⟨i2, q5, q6, (⟨q7, ⟨z2, q8⟩, q9⟩ | ⟨t2, q10, q11, (⟨q12, ⟨z2, q13⟩, q14⟩ | ⟨q15, (⟨q16, ⟨z2, q17⟩, q18⟩ | ⟨q19, q20, q21⟩)⟩)⟩)⟩)⟩
        · subst x1
          exact ⟨_, q3, fun q => absurd q (by decide), by decide, ⟨_, _, _, _, _, _, _, _, _, _, _, _, _, _, _, hI, q4, hB, Nat.le_refl _, Nat.le_refl _⟩⟩
        · exfalso
          first | omega | (simp_all)
        · exfalso
          first | omega | (simp_all)
        · exfalso
          first | omega | (simp_all)
        · exfalso
          first | omega | (simp_all)
      · exact absurd x7 (by decide)
      · exact absurd x11 (by decide)
      · exact absurd x14 (by decide)
    · rcases hp with ⟨x1, (⟨x2, x3⟩ | ⟨i, x4, x5, (⟨x6, x7⟩ | ⟨x8, x9, (⟨x10, x11⟩ | ⟨x12, x13, x14⟩)⟩)⟩)⟩
      · exact absurd x3 (by decide)
      · rcases hr with ⟨q1, (⟨q2, ⟨z2, q3⟩, q4⟩ | ⟨i2, q5, q6, (⟨q7, ⟨z2, q8⟩, q9⟩ | ⟨t2, q10, q11, (⟨q12, ⟨z2, q13⟩, q14⟩ | ⟨q15, (⟨q16, ⟨z2, q17⟩, q18⟩ | ⟨q19, q20, q21⟩)⟩)⟩)⟩)⟩
        · exfalso
          first | omega | (simp_all)
        · subst x1
          obtain rfl : i = i2 := by omega
          exact ⟨_, q8, fun q => absurd q (by decide), by decide, ⟨_, _, _, _, _, _, _, _, _, _, _, _, _, _, _, hI, q9, hB, Nat.le_refl _, Nat.le_refl _⟩⟩
        · obtain rfl : i = i2 := by omega
          exfalso
          first | omega | (simp_all)
        · obtain rfl : i = i2 := by omega
          exfalso
          first | omega | (simp_all)
        · obtain rfl : i = i2 := by omega
          exfalso
          first | omega | (simp_all)
      · exact absurd x11 (by decide)
      · exact absurd x14 (by decide)
    · rcases hp with ⟨x1, (⟨x2, x3⟩ | ⟨i, x4, x5, (⟨x6, x7⟩ | ⟨x8, x9, (⟨x10, x11⟩ | ⟨x12, x13, x14⟩)⟩)⟩)⟩
      · exact absurd x3 (by decide)
      · exact absurd x7 (by decide)
      · rcases hr with ⟨q1, (⟨q2, ⟨z2, q3⟩, q4⟩ | ⟨i2, q5, q6, (⟨q7, ⟨z2, q8⟩, q9⟩ | ⟨t2, q10, q11, (⟨q12, ⟨z2, q13⟩, q14⟩ | ⟨q15, (⟨q16, ⟨z2, q17⟩, q18⟩ | ⟨q19, q20, q21⟩)⟩)⟩)⟩)⟩
        · exfalso
          first | omega | (simp_all)
        · obtain rfl : i = i2 := by omega
          exfalso
          first | omega | (simp_all)
        · subst x1
          obtain rfl : i = i2 := by omega
          exact ⟨_, q13, fun q => absurd q (by decide), by decide, ⟨_, _, _, _, _, _, _, _, _, _, _, _, _, _, _, hI, q14, hB, Nat.le_refl _, Nat.le_refl _⟩⟩
        · obtain rfl : i = i2 := by omega
          exfalso
          first | omega | (simp_all)
        · obtain rfl : i = i2 := by omega
          exfalso
          first | omega | (simp_all)
      · exact absurd x14 (by decide)
    · rcases hp with ⟨x1, (⟨x2, x3⟩ | ⟨i, x4, x5, (⟨x6, x7⟩ | ⟨x8, x9, (⟨x10, x11⟩ | ⟨x12, x13, x14⟩)⟩)⟩)⟩
      · exact absurd x3 (by decide)
      · exact absurd x7 (by decide)
      · exact absurd x11 (by decide)
      · rcases hr with ⟨q1, (⟨q2, ⟨z2, q3⟩, q4⟩ | ⟨i2, q5, q6, (⟨q7, ⟨z2, q8⟩, q9⟩ | ⟨t2, q10, q11, (⟨q12, ⟨z2, q13⟩, q14⟩ | ⟨q15, (⟨q16, ⟨z2, q17⟩, q18⟩ | ⟨q19, q20, q21⟩)⟩)⟩)⟩)⟩
        · exfalso
          first | omega | (simp_all)
        · obtain rfl : i = i2 := by omega
          exfalso
          first | omega | (simp_all)
        · obtain rfl : i = i2 := by omega
          exfalso
          first | omega | (simp_all)
        · subst x1
          obtain rfl : i = i2 := by omega
          exact ⟨_, q17, fun q => absurd q (by decide), by decide, ⟨_, _, _, _, _, _, _, _, _, _, _, _, _, _, _, hI, q18, hB, Nat.le_refl _, Nat.le_refl _⟩⟩
        · obtain rfl : i = i2 := by omega
          exfalso
          first | omega | (simp_all)
def PC_meeting (h : AH) (xo : Nat) (w : Nat → Nat) (c m : Nat) (E : Nat → Nat) (R : Nat → Nat → Nat) (br bf bs be : Int) (D2 D3 : Nat → Bool) (so : Nat) (a1 : Int) (r : Option Value) (h' : AH) : Prop := ∃ e : Nat, (e ≤ 10 ∧ a1 = (e : Int) ∧ (c ≤ 10 ∧ ∀ j, j < c → w j < 2 ^ e)) ∧ m < 24 ∧ r = some (I (m : Nat)) ∧ HI h' xo w 0 (m + 1) (up E m (e)) (up R m (rkT (fun s => b2n (plM w e c s)) e (2 ^ e))) br bf bs be D2 D3 so ∧ Fr HF h h'
def XC_meeting (h : AH) (xo : Nat) (w : Nat → Nat) (c m : Nat) (E : Nat → Nat) (R : Nat → Nat → Nat) (br bf bs be : Int) (D2 D3 : Nat → Bool) (so : Nat) (a1 : Int) (E' : String) (h' : AH) : Prop := h' = h ∧ ((¬ (0 ≤ a1 ∧ a1 ≤ 10) ∧ E' = eIAE) ∨ ∃ e : Nat, e ≤ 10 ∧ a1 = (e : Int) ∧ ((¬ (c ≤ 10 ∧ ∀ j, j < c → w j < 2 ^ e) ∧ E' = eUOE) ∨ ((c ≤ 10 ∧ ∀ j, j < c → w j < 2 ^ e) ∧ m = 24 ∧ E' = eISE)))
def PR_meeting (S0 : State) (h : AH) (mo : Nat) (w : Nat → Nat) (c m : Nat) (E : Nat → Nat) (R : Nat → Nat → Nat) (b0 b1 b2 : Int) (a1 : Int) (r : Option Value) (h' : AH) : Prop := Fr (fun x => 120 ≤ x ∧ x ≤ 134) h h' ∧ ((¬ (0 ≤ a1 ∧ a1 ≤ 10) ∧ (∃ z, r = some (I z)) ∧ RI (zA S0) DRp h' mo 1 c w m E R b0 b1 b2) ∨ ∃ e : Nat, a1 = (e : Int) ∧ e ≤ 10 ∧ (((c ≤ 10 → (∀ k, k < c → w k < 2 ^ e) → False) ∧ (∃ z, r = some (I z)) ∧ RI (zA S0) DRp h' mo 2 c w m E R b0 b1 b2) ∨ (c ≤ 10 ∧ (∀ k, k < c → w k < 2 ^ e) ∧ ((m = 24 ∧ (∃ z, r = some (I z)) ∧ RI (zA S0) DRp h' mo 3 c w m E R b0 b1 b2) ∨ (m ≠ 24 ∧ r = some (I (m : Nat)) ∧ RI (zA S0) DRp h' mo 0 0 w (m + 1) (up E m (e)) (up R m (fun s => mtM w c s)) b0 b1 b2)))))
theorem fP_meeting {h h1 : AH} {xo : Nat} {w : Nat → Nat} {c m : Nat} {E : Nat → Nat} {R : Nat → Nat → Nat} {br bf bs be : Int} {D2 D3 : Nat → Bool} {so : Nat} {a1 : Int} {r : Option Value} (q : PC_meeting h xo w c m E R br bf bs be D2 D3 so a1 r h1) : Fr HF h h1 := by
  unfold PC_meeting at q
  obtain ⟨e, ⟨p1, p2, p3, p4⟩, p5, p6, p7, p8⟩ := q
  exact p8
theorem vP_meeting {h h1 : AH} {xo : Nat} {w : Nat → Nat} {c m : Nat} {E : Nat → Nat} {R : Nat → Nat → Nat} {br bf bs be : Int} {D2 D3 : Nat → Bool} {so : Nat} {a1 : Int} {r : Option Value} (q : PC_meeting h xo w c m E R br bf bs be D2 D3 so a1 r h1) : ∃ z : Int, r = some (I z) := by
  unfold PC_meeting at q
  obtain ⟨e, ⟨p1, p2, p3, p4⟩, p5, p6, p7, p8⟩ := q
  exact ⟨_, p6⟩
theorem fX_meeting {h h1 : AH} {xo : Nat} {w : Nat → Nat} {c m : Nat} {E : Nat → Nat} {R : Nat → Nat → Nat} {br bf bs be : Int} {D2 D3 : Nat → Bool} {so : Nat} {a1 : Int} {e : String} (q : XC_meeting h xo w c m E R br bf bs be D2 D3 so a1 e h1) : Fr HF h h1 := by
  unfold XC_meeting at q
  rcases q with ⟨x1, (⟨x2, x3⟩ | ⟨e, x4, x5, (⟨x6, x7⟩ | ⟨⟨x8, x9⟩, x10, x11⟩)⟩)⟩
  · rw [x1]; exact Fr.rf
  · rw [x1]; exact Fr.rf
  · rw [x1]; exact Fr.rf
theorem eX_meeting {h h1 : AH} {xo : Nat} {w : Nat → Nat} {c m : Nat} {E : Nat → Nat} {R : Nat → Nat → Nat} {br bf bs be : Int} {D2 D3 : Nat → Bool} {so : Nat} {a1 : Int} {e : String} (q : XC_meeting h xo w c m E R br bf bs be D2 D3 so a1 e h1) : e = eIAE ∨ e = eUOE ∨ e = eISE := by
  unfold XC_meeting at q
  rcases q with ⟨x1, (⟨x2, x3⟩ | ⟨e, x4, x5, (⟨x6, x7⟩ | ⟨⟨x8, x9⟩, x10, x11⟩)⟩)⟩
  · exact Or.inl x3
  · exact Or.inr (Or.inl x7)
  · exact Or.inr (Or.inr (x11))
theorem fR_meeting {S0 : State} {h h1 : AH} {mo : Nat} {w : Nat → Nat} {c m : Nat} {E : Nat → Nat} {R : Nat → Nat → Nat} {b0 b1 b2 : Int} {a1 : Int} {r : Option Value} (q : PR_meeting S0 h mo w c m E R b0 b1 b2 a1 r h1) : Fr (fun x => 120 ≤ x ∧ x ≤ 139) h h1 := by
  unfold PR_meeting at q
  exact q.1.mono (fun l z => by omega)
theorem op_meeting {S0 : State} {h h1 h2 hb : AH} {g : Nat → Int64} {xo mo : Nat} {w : Nat → Nat} {c m : Nat} {E : Nat → Nat} {R : Nat → Nat → Nat} {br bf bs be b0 b1 b2 : Int} {D2 D3 : Nat → Bool} {so kk : Nat} {r2 : Option Value} {a1 : Int} (hI : HI h xo w c m E R br bf bs be D2 D3 so) (hB : BrR br bf bs be b0 b1 b2) (hc : (kk = 0 ∧ ∃ z : Int, PC_meeting h xo w c m E R br bf bs be D2 D3 so a1 (some (I z)) h1 ∧ g 0 = (Int32.ofInt z).toInt64) ∨ ∃ e : String, [eIAE, eUOE, eISE][kk - 1]? = some e ∧ 1 ≤ kk ∧ XC_meeting h xo w c m E R br bf bs be D2 D3 so a1 e h1) (hr : PR_meeting S0 hb mo w c m E R b0 b1 b2 a1 r2 h2) : ∃ z2 : Int, r2 = some (I z2) ∧ (kk = 0 → g 0 = (Int32.ofInt z2).toInt64) ∧ kk ≤ 4 ∧ Mg S0 h1 h2 xo mo kk (pC so D2) (pS so D2) := by
  have hM := hI.mtr.2.2.2.2.2.2
  unfold PR_meeting at hr
  rcases hc with ⟨rfl, z, hp, hg⟩ | ⟨e, he, hk, hp⟩
  · unfold PC_meeting at hp
    rcases hp with ⟨e, ⟨p1, p2, p3, p4⟩, p5, p6, p7, p8⟩
    rcases hr with ⟨q1, (⟨q2, ⟨z2, q3⟩, q4⟩ | ⟨e2, q5, q6, (⟨q7, ⟨z2, q8⟩, q9⟩ | ⟨q10, q11, (⟨q12, ⟨z2, q13⟩, q14⟩ | ⟨q15, q16, q17⟩)⟩)⟩)⟩
    · exfalso
      first | omega | (simp_all; done)
    · obtain rfl : e = e2 := by omega
      exfalso
      first | omega | (simp_all; done)
    · obtain rfl : e = e2 := by omega
      exfalso
      first | omega | (simp_all; done)
    · obtain rfl : e = e2 := by omega
      refine ⟨_, q16, fun _ => ?_, by decide, ⟨_, _, _, _, _, _, _, _, _, _, _, _, _, _, _, p7, (RI.up q17 (fun s hs => (meeting_same (by assumption) hs).symm)), hB, Nat.le_refl _, Nat.le_refl _⟩⟩
      rw [hg, iI p6]
  · unfold XC_meeting at hp
    rcases ex3 he hk with ⟨rfl, rfl⟩ | ⟨rfl, rfl⟩ | ⟨rfl, rfl⟩
    · rcases hp with ⟨x1, (⟨x2, x3⟩ | ⟨e, x4, x5, (⟨x6, x7⟩ | ⟨⟨x8, x9⟩, x10, x11⟩)⟩)⟩
      · rcases hr with ⟨q1, (⟨q2, ⟨z2, q3⟩, q4⟩ | ⟨e2, q5, q6, (⟨q7, ⟨z2, q8⟩, q9⟩ | ⟨q10, q11, (⟨q12, ⟨z2, q13⟩, q14⟩ | ⟨q15, q16, q17⟩)⟩)⟩)⟩
        · subst x1
          exact ⟨_, q3, fun q => absurd q (by decide), by decide, ⟨_, _, _, _, _, _, _, _, _, _, _, _, _, _, _, hI, q4, hB, Nat.le_refl _, Nat.le_refl _⟩⟩
        · exfalso
          first | omega | (simp_all; done)
        · exfalso
          first | omega | (simp_all; done)
        · exfalso
          first | omega | (simp_all; done)
      · exact absurd x7 (by decide)
      · exact absurd x11 (by decide)
    · rcases hp with ⟨x1, (⟨x2, x3⟩ | ⟨e, x4, x5, (⟨x6, x7⟩ | ⟨⟨x8, x9⟩, x10, x11⟩)⟩)⟩
      · exact absurd x3 (by decide)
      · rcases hr with ⟨q1, (⟨q2, ⟨z2, q3⟩, q4⟩ | ⟨e2, q5, q6, (⟨q7, ⟨z2, q8⟩, q9⟩ | ⟨q10, q11, (⟨q12, ⟨z2, q13⟩, q14⟩ | ⟨q15, q16, q17⟩)⟩)⟩)⟩
        · exfalso
          first | omega | (simp_all; done)
        · subst x1
          obtain rfl : e = e2 := by omega
          exact ⟨_, q8, fun q => absurd q (by decide), by decide, ⟨_, _, _, _, _, _, _, _, _, _, _, _, _, _, _, hI, q9, hB, Nat.le_refl _, Nat.le_refl _⟩⟩
        · obtain rfl : e = e2 := by omega
          exfalso
          first | omega | (simp_all; done)
        · obtain rfl : e = e2 := by omega
          exfalso
          first | omega | (simp_all; done)
      · exact absurd x11 (by decide)
    · rcases hp with ⟨x1, (⟨x2, x3⟩ | ⟨e, x4, x5, (⟨x6, x7⟩ | ⟨⟨x8, x9⟩, x10, x11⟩)⟩)⟩
      · exact absurd x3 (by decide)
      · exact absurd x7 (by decide)
      · rcases hr with ⟨q1, (⟨q2, ⟨z2, q3⟩, q4⟩ | ⟨e2, q5, q6, (⟨q7, ⟨z2, q8⟩, q9⟩ | ⟨q10, q11, (⟨q12, ⟨z2, q13⟩, q14⟩ | ⟨q15, q16, q17⟩)⟩)⟩)⟩
        · exfalso
          first | omega | (simp_all; done)
        · obtain rfl : e = e2 := by omega
          exfalso
          first | omega | (simp_all; done)
        · subst x1
          obtain rfl : e = e2 := by omega
          exact ⟨_, q13, fun q => absurd q (by decide), by decide, ⟨_, _, _, _, _, _, _, _, _, _, _, _, _, _, _, hI, q14, hB, Nat.le_refl _, Nat.le_refl _⟩⟩
        · obtain rfl : e = e2 := by omega
          exfalso
          first | omega | (simp_all; done)
def PC_graph (h : AH) (xo : Nat) (w : Nat → Nat) (c m : Nat) (E : Nat → Nat) (R : Nat → Nat → Nat) (br bf bs be : Int) (D2 D3 : Nat → Bool) (so : Nat) (r : Option Value) (h' : AH) : Prop := ∃ k, (c = 2 * k ∧ k ≤ 10 ∧ ∀ j, j < c → w j < 10) ∧ m < 24 ∧ r = some (I (m : Nat)) ∧ HI h' xo w 0 (m + 1) (up E m (k)) (up R m (rkE 2 10 (colG w k))) br bf bs be D2 D3 so ∧ Fr HF h h'
def XC_graph (h : AH) (xo : Nat) (w : Nat → Nat) (c m : Nat) (E : Nat → Nat) (R : Nat → Nat → Nat) (br bf bs be : Int) (D2 D3 : Nat → Bool) (so : Nat) (E' : String) (h' : AH) : Prop := h' = h ∧ ((¬ (c % 2 = 0 ∧ c ≤ 20 ∧ ∀ j, j < c → w j < 10) ∧ E' = eUOE) ∨ ((c % 2 = 0 ∧ c ≤ 20 ∧ ∀ j, j < c → w j < 10) ∧ m = 24 ∧ E' = eISE))
def PR_graph (S0 : State) (h : AH) (mo : Nat) (w : Nat → Nat) (c m : Nat) (E : Nat → Nat) (R : Nat → Nat → Nat) (b0 b1 b2 : Int) (r : Option Value) (h' : AH) : Prop := Fr (fun x => 120 ≤ x ∧ x ≤ 139) h h' ∧ (((c % 2 = 0 ∧ c ≤ 20 → (∀ k, k < c → w k ≤ 9) → False) ∧ (∃ z, r = some (I z)) ∧ RI (zA S0) DRp h' mo 1 c w m E R b0 b1 b2) ∨ ((c % 2 = 0 ∧ c ≤ 20) ∧ (∀ k, k < c → w k ≤ 9) ∧ ((m = 24 ∧ (∃ z, r = some (I z)) ∧ RI (zA S0) DRp h' mo 2 c w m E R b0 b1 b2) ∨ (m ≠ 24 ∧ r = some (I (m : Nat)) ∧ RI (zA S0) DRp h' mo 0 0 w (m + 1) (up E m (c / 2)) (up R m (fun s => graM w (c / 2) s)) b0 b1 b2))))
theorem fP_graph {h h1 : AH} {xo : Nat} {w : Nat → Nat} {c m : Nat} {E : Nat → Nat} {R : Nat → Nat → Nat} {br bf bs be : Int} {D2 D3 : Nat → Bool} {so : Nat} {r : Option Value} (q : PC_graph h xo w c m E R br bf bs be D2 D3 so r h1) : Fr HF h h1 := by
  unfold PC_graph at q
  obtain ⟨k, ⟨p1, p2, p3⟩, p4, p5, p6, p7⟩ := q
  exact p7
theorem vP_graph {h h1 : AH} {xo : Nat} {w : Nat → Nat} {c m : Nat} {E : Nat → Nat} {R : Nat → Nat → Nat} {br bf bs be : Int} {D2 D3 : Nat → Bool} {so : Nat} {r : Option Value} (q : PC_graph h xo w c m E R br bf bs be D2 D3 so r h1) : ∃ z : Int, r = some (I z) := by
  unfold PC_graph at q
  obtain ⟨k, ⟨p1, p2, p3⟩, p4, p5, p6, p7⟩ := q
  exact ⟨_, p5⟩
theorem fX_graph {h h1 : AH} {xo : Nat} {w : Nat → Nat} {c m : Nat} {E : Nat → Nat} {R : Nat → Nat → Nat} {br bf bs be : Int} {D2 D3 : Nat → Bool} {so : Nat} {e : String} (q : XC_graph h xo w c m E R br bf bs be D2 D3 so e h1) : Fr HF h h1 := by
  unfold XC_graph at q
  rcases q with ⟨x1, (⟨x2, x3⟩ | ⟨⟨x4, x5, x6⟩, x7, x8⟩)⟩
  · rw [x1]; exact Fr.rf
  · rw [x1]; exact Fr.rf
theorem eX_graph {h h1 : AH} {xo : Nat} {w : Nat → Nat} {c m : Nat} {E : Nat → Nat} {R : Nat → Nat → Nat} {br bf bs be : Int} {D2 D3 : Nat → Bool} {so : Nat} {e : String} (q : XC_graph h xo w c m E R br bf bs be D2 D3 so e h1) : e = eUOE ∨ e = eISE := by
  unfold XC_graph at q
  rcases q with ⟨x1, (⟨x2, x3⟩ | ⟨⟨x4, x5, x6⟩, x7, x8⟩)⟩
  · exact Or.inl x3
  · exact Or.inr (x8)
theorem fR_graph {S0 : State} {h h1 : AH} {mo : Nat} {w : Nat → Nat} {c m : Nat} {E : Nat → Nat} {R : Nat → Nat → Nat} {b0 b1 b2 : Int} {r : Option Value} (q : PR_graph S0 h mo w c m E R b0 b1 b2 r h1) : Fr (fun x => 120 ≤ x ∧ x ≤ 139) h h1 := by
  unfold PR_graph at q
  exact q.1.mono (fun l z => by omega)
theorem op_graph {S0 : State} {h h1 h2 hb : AH} {g : Nat → Int64} {xo mo : Nat} {w : Nat → Nat} {c m : Nat} {E : Nat → Nat} {R : Nat → Nat → Nat} {br bf bs be b0 b1 b2 : Int} {D2 D3 : Nat → Bool} {so kk : Nat} {r2 : Option Value} (hI : HI h xo w c m E R br bf bs be D2 D3 so) (hB : BrR br bf bs be b0 b1 b2) (hc : (kk = 0 ∧ ∃ z : Int, PC_graph h xo w c m E R br bf bs be D2 D3 so (some (I z)) h1 ∧ g 0 = (Int32.ofInt z).toInt64) ∨ ∃ e : String, [eUOE, eISE][kk - 1]? = some e ∧ 1 ≤ kk ∧ XC_graph h xo w c m E R br bf bs be D2 D3 so e h1) (hr : PR_graph S0 hb mo w c m E R b0 b1 b2 r2 h2) : ∃ z2 : Int, r2 = some (I z2) ∧ (kk = 0 → g 0 = (Int32.ofInt z2).toInt64) ∧ kk ≤ 4 ∧ Mg S0 h1 h2 xo mo kk (pC so D2) (pS so D2) := by
  have hM := hI.mtr.2.2.2.2.2.2
  unfold PR_graph at hr
  rcases hc with ⟨rfl, z, hp, hg⟩ | ⟨e, he, hk, hp⟩
  · unfold PC_graph at hp
    rcases hp with ⟨k, ⟨p1, p2, p3⟩, p4, p5, p6, p7⟩
    rcases hr with ⟨q1, (⟨q2, ⟨z2, q3⟩, q4⟩ | ⟨⟨q5, q6⟩, q7, (⟨q8, ⟨z2, q9⟩, q10⟩ | ⟨q11, q12, q13⟩)⟩)⟩
    · exfalso
      first | omega | (first | exact q2 ⟨by omega, by omega⟩ (fun j hj => Nat.le_of_lt_succ (by first | exact p3 j hj | exact x6 j hj)) | exact x2 ⟨by omega, by omega, fun j hj => Nat.lt_succ_of_le (q7 j hj)⟩)
    · exfalso
      first | omega | (first | exact q2 ⟨by omega, by omega⟩ (fun j hj => Nat.le_of_lt_succ (by first | exact p3 j hj | exact x6 j hj)) | exact x2 ⟨by omega, by omega, fun j hj => Nat.lt_succ_of_le (q7 j hj)⟩)
    · refine ⟨_, q12, fun _ => ?_, by decide, ⟨_, _, _, _, _, _, _, _, _, _, _, _, _, _, _, p6, (graph_up q13 (by assumption) (by assumption) (by assumption)), hB, Nat.le_refl _, Nat.le_refl _⟩⟩
      rw [hg, iI p5]
  · unfold XC_graph at hp
    rcases ex2 he hk with ⟨rfl, rfl⟩ | ⟨rfl, rfl⟩
    · rcases hp with ⟨x1, (⟨x2, x3⟩ | ⟨⟨x4, x5, x6⟩, x7, x8⟩)⟩
      · rcases hr with ⟨q1, (⟨q2, ⟨z2, q3⟩, q4⟩ | ⟨⟨q5, q6⟩, q7, (⟨q8, ⟨z2, q9⟩, q10⟩ | ⟨q11, q12, q13⟩)⟩)⟩
        · subst x1
          exact ⟨_, q3, fun q => absurd q (by decide), by decide, ⟨_, _, _, _, _, _, _, _, _, _, _, _, _, _, _, hI, q4, hB, Nat.le_refl _, Nat.le_refl _⟩⟩
        · exfalso
          first | omega | (first | exact q2 ⟨by omega, by omega⟩ (fun j hj => Nat.le_of_lt_succ (by first | exact p3 j hj | exact x6 j hj)) | exact x2 ⟨by omega, by omega, fun j hj => Nat.lt_succ_of_le (q7 j hj)⟩)
        · exfalso
          first | omega | (first | exact q2 ⟨by omega, by omega⟩ (fun j hj => Nat.le_of_lt_succ (by first | exact p3 j hj | exact x6 j hj)) | exact x2 ⟨by omega, by omega, fun j hj => Nat.lt_succ_of_le (q7 j hj)⟩)
      · exact absurd x8 (by decide)
    · rcases hp with ⟨x1, (⟨x2, x3⟩ | ⟨⟨x4, x5, x6⟩, x7, x8⟩)⟩
      · exact absurd x3 (by decide)
      · rcases hr with ⟨q1, (⟨q2, ⟨z2, q3⟩, q4⟩ | ⟨⟨q5, q6⟩, q7, (⟨q8, ⟨z2, q9⟩, q10⟩ | ⟨q11, q12, q13⟩)⟩)⟩
        · exfalso
          first | omega | (first | exact q2 ⟨by omega, by omega⟩ (fun j hj => Nat.le_of_lt_succ (by first | exact p3 j hj | exact x6 j hj)) | exact x2 ⟨by omega, by omega, fun j hj => Nat.lt_succ_of_le (q7 j hj)⟩)
        · subst x1
          exact ⟨_, q9, fun q => absurd q (by decide), by decide, ⟨_, _, _, _, _, _, _, _, _, _, _, _, _, _, _, hI, q10, hB, Nat.le_refl _, Nat.le_refl _⟩⟩
        · exfalso
          first | omega | (first | exact q2 ⟨by omega, by omega⟩ (fun j hj => Nat.le_of_lt_succ (by first | exact p3 j hj | exact x6 j hj)) | exact x2 ⟨by omega, by omega, fun j hj => Nat.lt_succ_of_le (q7 j hj)⟩)
def PC_columns (h : AH) (xo : Nat) (w : Nat → Nat) (c m : Nat) (E : Nat → Nat) (R : Nat → Nat → Nat) (br bf bs be : Int) (D2 D3 : Nat → Bool) (so : Nat) (a1 a2 : Int) (r : Option Value) (h' : AH) : Prop := ∃ f y0 : Nat, ((f = 2 ∨ f = 3 ∨ f = 5) ∧ a1 = (f : Int) ∧ 1 ≤ y0 ∧ y0 ≤ 6 ∧ a2 = (y0 : Int) ∧ (c % y0 = 0 ∧ c ≤ y0 * 10 ∧ ∀ j, j < c → w j < f)) ∧ m < 24 ∧ r = some (I (m : Nat)) ∧ HI h' xo w 0 (m + 1) (up E m (c / y0)) (up R m (rkE f y0 (colC w y0 (c / y0)))) br bf bs be D2 D3 so ∧ Fr HF h h'
def XC_columns (h : AH) (xo : Nat) (w : Nat → Nat) (c m : Nat) (E : Nat → Nat) (R : Nat → Nat → Nat) (br bf bs be : Int) (D2 D3 : Nat → Bool) (so : Nat) (a1 a2 : Int) (E' : String) (h' : AH) : Prop := h' = h ∧ ((¬ ((a1 = 2 ∨ a1 = 3 ∨ a1 = 5) ∧ 1 ≤ a2 ∧ a2 ≤ 6) ∧ E' = eIAE) ∨ ∃ f y0 : Nat, (f = 2 ∨ f = 3 ∨ f = 5) ∧ a1 = (f : Int) ∧ 1 ≤ y0 ∧ y0 ≤ 6 ∧ a2 = (y0 : Int) ∧ ((¬ (c % y0 = 0 ∧ c ≤ y0 * 10 ∧ ∀ j, j < c → w j < f) ∧ E' = eUOE) ∨ ((c % y0 = 0 ∧ c ≤ y0 * 10 ∧ ∀ j, j < c → w j < f) ∧ m = 24 ∧ E' = eISE)))
def PR_columns (S0 : State) (h : AH) (mo : Nat) (w : Nat → Nat) (c m : Nat) (E : Nat → Nat) (R : Nat → Nat → Nat) (b0 b1 b2 : Int) (a1 a2 : Int) (r : Option Value) (h' : AH) : Prop := Fr (fun x => 120 ≤ x ∧ x ≤ 139) h h' ∧ ((¬ ((a1 = 2 ∨ a1 = 3 ∨ a1 = 5) ∧ 1 ≤ a2 ∧ a2 ≤ 6) ∧ (∃ z, r = some (I z)) ∧ RI (zA S0) DRp h' mo 1 c w m E R b0 b1 b2) ∨ ∃ f rws : Nat, a1 = (f : Int) ∧ a2 = (rws : Int) ∧ (f = 2 ∨ f = 3 ∨ f = 5) ∧ 1 ≤ rws ∧ rws ≤ 6 ∧ ((((c % rws = 0 ∧ c / rws ≤ 10) → (∀ k, k < c → w k < f) → False) ∧ (∃ z, r = some (I z)) ∧ RI (zA S0) DRp h' mo 2 c w m E R b0 b1 b2) ∨ ((c % rws = 0 ∧ c / rws ≤ 10) ∧ (∀ k, k < c → w k < f) ∧ ((m = 24 ∧ (∃ z, r = some (I z)) ∧ RI (zA S0) DRp h' mo 3 c w m E R b0 b1 b2) ∨ (m ≠ 24 ∧ r = some (I (m : Nat)) ∧ RI (zA S0) DRp h' mo 0 0 w (m + 1) (up E m (c / rws)) (up R m (fun s => colM w f rws (c / rws) s)) b0 b1 b2)))))
theorem fP_columns {h h1 : AH} {xo : Nat} {w : Nat → Nat} {c m : Nat} {E : Nat → Nat} {R : Nat → Nat → Nat} {br bf bs be : Int} {D2 D3 : Nat → Bool} {so : Nat} {a1 a2 : Int} {r : Option Value} (q : PC_columns h xo w c m E R br bf bs be D2 D3 so a1 a2 r h1) : Fr HF h h1 := by
  unfold PC_columns at q
  obtain ⟨f, y0, ⟨p1, p2, p3, p4, p5, p6, p7, p8⟩, p9, p10, p11, p12⟩ := q
  exact p12
theorem vP_columns {h h1 : AH} {xo : Nat} {w : Nat → Nat} {c m : Nat} {E : Nat → Nat} {R : Nat → Nat → Nat} {br bf bs be : Int} {D2 D3 : Nat → Bool} {so : Nat} {a1 a2 : Int} {r : Option Value} (q : PC_columns h xo w c m E R br bf bs be D2 D3 so a1 a2 r h1) : ∃ z : Int, r = some (I z) := by
  unfold PC_columns at q
  obtain ⟨f, y0, ⟨p1, p2, p3, p4, p5, p6, p7, p8⟩, p9, p10, p11, p12⟩ := q
  exact ⟨_, p10⟩
theorem fX_columns {h h1 : AH} {xo : Nat} {w : Nat → Nat} {c m : Nat} {E : Nat → Nat} {R : Nat → Nat → Nat} {br bf bs be : Int} {D2 D3 : Nat → Bool} {so : Nat} {a1 a2 : Int} {e : String} (q : XC_columns h xo w c m E R br bf bs be D2 D3 so a1 a2 e h1) : Fr HF h h1 := by
  unfold XC_columns at q
  rcases q with ⟨x1, (⟨x2, x3⟩ | ⟨f, y0, x4, x5, x6, x7, x8, (⟨x9, x10⟩ | ⟨⟨x11, x12, x13⟩, x14, x15⟩)⟩)⟩
  · rw [x1]; exact Fr.rf
  · rw [x1]; exact Fr.rf
  · rw [x1]; exact Fr.rf
theorem eX_columns {h h1 : AH} {xo : Nat} {w : Nat → Nat} {c m : Nat} {E : Nat → Nat} {R : Nat → Nat → Nat} {br bf bs be : Int} {D2 D3 : Nat → Bool} {so : Nat} {a1 a2 : Int} {e : String} (q : XC_columns h xo w c m E R br bf bs be D2 D3 so a1 a2 e h1) : e = eIAE ∨ e = eUOE ∨ e = eISE := by
  unfold XC_columns at q
  rcases q with ⟨x1, (⟨x2, x3⟩ | ⟨f, y0, x4, x5, x6, x7, x8, (⟨x9, x10⟩ | ⟨⟨x11, x12, x13⟩, x14, x15⟩)⟩)⟩
  · exact Or.inl x3
  · exact Or.inr (Or.inl x10)
  · exact Or.inr (Or.inr (x15))
theorem fR_columns {S0 : State} {h h1 : AH} {mo : Nat} {w : Nat → Nat} {c m : Nat} {E : Nat → Nat} {R : Nat → Nat → Nat} {b0 b1 b2 : Int} {a1 a2 : Int} {r : Option Value} (q : PR_columns S0 h mo w c m E R b0 b1 b2 a1 a2 r h1) : Fr (fun x => 120 ≤ x ∧ x ≤ 139) h h1 := by
  unfold PR_columns at q
  exact q.1.mono (fun l z => by omega)
theorem op_columns {S0 : State} {h h1 h2 hb : AH} {g : Nat → Int64} {xo mo : Nat} {w : Nat → Nat} {c m : Nat} {E : Nat → Nat} {R : Nat → Nat → Nat} {br bf bs be b0 b1 b2 : Int} {D2 D3 : Nat → Bool} {so kk : Nat} {r2 : Option Value} {a1 a2 : Int} (hI : HI h xo w c m E R br bf bs be D2 D3 so) (hB : BrR br bf bs be b0 b1 b2) (hc : (kk = 0 ∧ ∃ z : Int, PC_columns h xo w c m E R br bf bs be D2 D3 so a1 a2 (some (I z)) h1 ∧ g 0 = (Int32.ofInt z).toInt64) ∨ ∃ e : String, [eIAE, eUOE, eISE][kk - 1]? = some e ∧ 1 ≤ kk ∧ XC_columns h xo w c m E R br bf bs be D2 D3 so a1 a2 e h1) (hr : PR_columns S0 hb mo w c m E R b0 b1 b2 a1 a2 r2 h2) : ∃ z2 : Int, r2 = some (I z2) ∧ (kk = 0 → g 0 = (Int32.ofInt z2).toInt64) ∧ kk ≤ 4 ∧ Mg S0 h1 h2 xo mo kk (pC so D2) (pS so D2) := by
  have hM := hI.mtr.2.2.2.2.2.2
  unfold PR_columns at hr
  rcases hc with ⟨rfl, z, hp, hg⟩ | ⟨e, he, hk, hp⟩
  · unfold PC_columns at hp
    rcases hp with ⟨f, y0, ⟨p1, p2, p3, p4, p5, p6, p7, p8⟩, p9, p10, p11, p12⟩
    rcases hr with ⟨q1, (⟨q2, ⟨z2, q3⟩, q4⟩ | ⟨f2, rws2, q5, q6, q7, q8, q9, (⟨q10, ⟨z2, q11⟩, q12⟩ | ⟨⟨q13, q14⟩, q15, (⟨q16, ⟨z2, q17⟩, q18⟩ | ⟨q19, q20, q21⟩)⟩)⟩)⟩
    · exfalso
      first | omega | (first | exact q10 ⟨p6, (col_ok p6 p3).mp p7⟩ p8 | exact x9 ⟨q13, (col_ok q13 x6).mpr q14, q15⟩ | exact q10 ⟨x11, (col_ok x11 x6).mp x12⟩ x13)
    · obtain rfl : f = f2 := by omega
      obtain rfl : y0 = rws2 := by omega
      exfalso
      first | omega | (first | exact q10 ⟨p6, (col_ok p6 p3).mp p7⟩ p8 | exact x9 ⟨q13, (col_ok q13 x6).mpr q14, q15⟩ | exact q10 ⟨x11, (col_ok x11 x6).mp x12⟩ x13)
    · obtain rfl : f = f2 := by omega
      obtain rfl : y0 = rws2 := by omega
      exfalso
      first | omega | (first | exact q10 ⟨p6, (col_ok p6 p3).mp p7⟩ p8 | exact x9 ⟨q13, (col_ok q13 x6).mpr q14, q15⟩ | exact q10 ⟨x11, (col_ok x11 x6).mp x12⟩ x13)
    · obtain rfl : f = f2 := by omega
      obtain rfl : y0 = rws2 := by omega
      refine ⟨_, q20, fun _ => ?_, by decide, ⟨_, _, _, _, _, _, _, _, _, _, _, _, _, _, _, p11, (col_up q21 (by assumption) (by assumption) (by assumption) (by assumption) (by assumption)), hB, Nat.le_refl _, Nat.le_refl _⟩⟩
      rw [hg, iI p10]
  · unfold XC_columns at hp
    rcases ex3 he hk with ⟨rfl, rfl⟩ | ⟨rfl, rfl⟩ | ⟨rfl, rfl⟩
    · rcases hp with ⟨x1, (⟨x2, x3⟩ | ⟨f, y0, x4, x5, x6, x7, x8, (⟨x9, x10⟩ | ⟨⟨x11, x12, x13⟩, x14, x15⟩)⟩)⟩
      · rcases hr with ⟨q1, (⟨q2, ⟨z2, q3⟩, q4⟩ | ⟨f2, rws2, q5, q6, q7, q8, q9, (⟨q10, ⟨z2, q11⟩, q12⟩ | ⟨⟨q13, q14⟩, q15, (⟨q16, ⟨z2, q17⟩, q18⟩ | ⟨q19, q20, q21⟩)⟩)⟩)⟩
        · subst x1
          exact ⟨_, q3, fun q => absurd q (by decide), by decide, ⟨_, _, _, _, _, _, _, _, _, _, _, _, _, _, _, hI, q4, hB, Nat.le_refl _, Nat.le_refl _⟩⟩
        · exfalso
          first | omega | (first | exact q10 ⟨p6, (col_ok p6 p3).mp p7⟩ p8 | exact x9 ⟨q13, (col_ok q13 x6).mpr q14, q15⟩ | exact q10 ⟨x11, (col_ok x11 x6).mp x12⟩ x13)
        · exfalso
          first | omega | (first | exact q10 ⟨p6, (col_ok p6 p3).mp p7⟩ p8 | exact x9 ⟨q13, (col_ok q13 x6).mpr q14, q15⟩ | exact q10 ⟨x11, (col_ok x11 x6).mp x12⟩ x13)
        · exfalso
          first | omega | (first | exact q10 ⟨p6, (col_ok p6 p3).mp p7⟩ p8 | exact x9 ⟨q13, (col_ok q13 x6).mpr q14, q15⟩ | exact q10 ⟨x11, (col_ok x11 x6).mp x12⟩ x13)
      · exact absurd x10 (by decide)
      · exact absurd x15 (by decide)
    · rcases hp with ⟨x1, (⟨x2, x3⟩ | ⟨f, y0, x4, x5, x6, x7, x8, (⟨x9, x10⟩ | ⟨⟨x11, x12, x13⟩, x14, x15⟩)⟩)⟩
      · exact absurd x3 (by decide)
      · rcases hr with ⟨q1, (⟨q2, ⟨z2, q3⟩, q4⟩ | ⟨f2, rws2, q5, q6, q7, q8, q9, (⟨q10, ⟨z2, q11⟩, q12⟩ | ⟨⟨q13, q14⟩, q15, (⟨q16, ⟨z2, q17⟩, q18⟩ | ⟨q19, q20, q21⟩)⟩)⟩)⟩
        · exfalso
          first | omega | (first | exact q10 ⟨p6, (col_ok p6 p3).mp p7⟩ p8 | exact x9 ⟨q13, (col_ok q13 x6).mpr q14, q15⟩ | exact q10 ⟨x11, (col_ok x11 x6).mp x12⟩ x13)
        · subst x1
          obtain rfl : f = f2 := by omega
          obtain rfl : y0 = rws2 := by omega
          exact ⟨_, q11, fun q => absurd q (by decide), by decide, ⟨_, _, _, _, _, _, _, _, _, _, _, _, _, _, _, hI, q12, hB, Nat.le_refl _, Nat.le_refl _⟩⟩
        · obtain rfl : f = f2 := by omega
          obtain rfl : y0 = rws2 := by omega
          exfalso
          first | omega | (first | exact q10 ⟨p6, (col_ok p6 p3).mp p7⟩ p8 | exact x9 ⟨q13, (col_ok q13 x6).mpr q14, q15⟩ | exact q10 ⟨x11, (col_ok x11 x6).mp x12⟩ x13)
        · obtain rfl : f = f2 := by omega
          obtain rfl : y0 = rws2 := by omega
          exfalso
          first | omega | (first | exact q10 ⟨p6, (col_ok p6 p3).mp p7⟩ p8 | exact x9 ⟨q13, (col_ok q13 x6).mpr q14, q15⟩ | exact q10 ⟨x11, (col_ok x11 x6).mp x12⟩ x13)
      · exact absurd x15 (by decide)
    · rcases hp with ⟨x1, (⟨x2, x3⟩ | ⟨f, y0, x4, x5, x6, x7, x8, (⟨x9, x10⟩ | ⟨⟨x11, x12, x13⟩, x14, x15⟩)⟩)⟩
      · exact absurd x3 (by decide)
      · exact absurd x10 (by decide)
      · rcases hr with ⟨q1, (⟨q2, ⟨z2, q3⟩, q4⟩ | ⟨f2, rws2, q5, q6, q7, q8, q9, (⟨q10, ⟨z2, q11⟩, q12⟩ | ⟨⟨q13, q14⟩, q15, (⟨q16, ⟨z2, q17⟩, q18⟩ | ⟨q19, q20, q21⟩)⟩)⟩)⟩
        · exfalso
          first | omega | (first | exact q10 ⟨p6, (col_ok p6 p3).mp p7⟩ p8 | exact x9 ⟨q13, (col_ok q13 x6).mpr q14, q15⟩ | exact q10 ⟨x11, (col_ok x11 x6).mp x12⟩ x13)
        · obtain rfl : f = f2 := by omega
          obtain rfl : y0 = rws2 := by omega
          exfalso
          first | omega | (first | exact q10 ⟨p6, (col_ok p6 p3).mp p7⟩ p8 | exact x9 ⟨q13, (col_ok q13 x6).mpr q14, q15⟩ | exact q10 ⟨x11, (col_ok x11 x6).mp x12⟩ x13)
        · subst x1
          obtain rfl : f = f2 := by omega
          obtain rfl : y0 = rws2 := by omega
          exact ⟨_, q17, fun q => absurd q (by decide), by decide, ⟨_, _, _, _, _, _, _, _, _, _, _, _, _, _, _, hI, q18, hB, Nat.le_refl _, Nat.le_refl _⟩⟩
        · obtain rfl : f = f2 := by omega
          obtain rfl : y0 = rws2 := by omega
          exfalso
          first | omega | (first | exact q10 ⟨p6, (col_ok p6 p3).mp p7⟩ p8 | exact x9 ⟨q13, (col_ok q13 x6).mpr q14, q15⟩ | exact q10 ⟨x11, (col_ok x11 x6).mp x12⟩ x13)
end Be
