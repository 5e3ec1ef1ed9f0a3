/-! The law: operations: both sides agree (Bb) -/
section Bb
def PC_type (h : AH) (xo : Nat) (w : Nat → Nat) (c m : Nat) (E : Nat → Nat) (R : Nat → Nat → Nat) (br bf bs be : Int) (D2 D3 : Nat → Bool) (so : Nat) (a1 : Int) (r : Option Value) (h' : AH) : Prop := ∃ t : Nat, t ≤ 1023 ∧ a1 = (t : Int) ∧ c < 60 ∧ r = some (I (c + 1 : Nat)) ∧ HI h' xo (up w c t) (c + 1) m E R br bf bs be D2 D3 so ∧ Fr HF h h'
def XC_type (h : AH) (xo : Nat) (w : Nat → Nat) (c m : Nat) (E : Nat → Nat) (R : Nat → Nat → Nat) (br bf bs be : Int) (D2 D3 : Nat → Bool) (so : Nat) (a1 : Int) (E' : String) (h' : AH) : Prop := h' = h ∧ ((¬ (0 ≤ a1 ∧ a1 ≤ 1023) ∧ E' = eIAE) ∨ (0 ≤ a1 ∧ a1 ≤ 1023 ∧ c = 60 ∧ E' = eISE))
def PR_type (S0 : State) (h : AH) (mo : Nat) (w : Nat → Nat) (c m : Nat) (E : Nat → Nat) (R : Nat → Nat → Nat) (b0 b1 b2 : Int) (a1 : Int) (r : Option Value) (h' : AH) : Prop := Fr (fun x => 120 ≤ x ∧ x ≤ 121) h h' ∧ ((¬ (0 ≤ a1 ∧ a1 ≤ 1023) ∧ (∃ z, r = some (I z)) ∧ RI (zA S0) DRp h' mo 1 c w m E R b0 b1 b2) ∨ (0 ≤ a1 ∧ a1 ≤ 1023 ∧ c = 60 ∧ (∃ z, r = some (I z)) ∧ RI (zA S0) DRp h' mo 2 c w m E R b0 b1 b2) ∨ ∃ t : Nat, t ≤ 1023 ∧ a1 = (t : Int) ∧ c < 60 ∧ r = some (I (c + 1 : Nat)) ∧ RI (zA S0) DRp h' mo 0 (c + 1) (up w c t) m E R b0 b1 b2)
theorem fP_type {h h1 : AH} {xo : Nat} {w : Nat → Nat} {c m : Nat} {E : Nat → Nat} {R : Nat → Nat → Nat} {br bf bs be : Int} {D2 D3 : Nat → Bool} {so : Nat} {a1 : Int} {r : Option Value} (q : PC_type h xo w c m E R br bf bs be D2 D3 so a1 r h1) : Fr HF h h1 := by
  unfold PC_type at q
  obtain ⟨t, p1, p2, p3, p4, p5, p6⟩ := q
  exact p6
theorem vP_type {h h1 : AH} {xo : Nat} {w : Nat → Nat} {c m : Nat} {E : Nat → Nat} {R : Nat → Nat → Nat} {br bf bs be : Int} {D2 D3 : Nat → Bool} {so : Nat} {a1 : Int} {r : Option Value} (q : PC_type h xo w c m E R br bf bs be D2 D3 so a1 r h1) : ∃ z : Int, r = some (I z) := by
  unfold PC_type at q
  obtain ⟨t, p1, p2, p3, p4, p5, p6⟩ := q
  exact ⟨_, p4⟩
theorem fX_type {h h1 : AH} {xo : Nat} {w : Nat → Nat} {c m : Nat} {E : Nat → Nat} {R : Nat → Nat → Nat} {br bf bs be : Int} {D2 D3 : Nat → Bool} {so : Nat} {a1 : Int} {e : String} (q : XC_type h xo w c m E R br bf bs be D2 D3 so a1 e h1) : Fr HF h h1 := by
  unfold XC_type at q
  rcases q with ⟨x1, (⟨x2, x3⟩ | ⟨x4, x5, x6, x7⟩)⟩
  · rw [x1]; exact Fr.rf
  · rw [x1]; exact Fr.rf
theorem eX_type {h h1 : AH} {xo : Nat} {w : Nat → Nat} {c m : Nat} {E : Nat → Nat} {R : Nat → Nat → Nat} {br bf bs be : Int} {D2 D3 : Nat → Bool} {so : Nat} {a1 : Int} {e : String} (q : XC_type h xo w c m E R br bf bs be D2 D3 so a1 e h1) : e = eIAE ∨ e = eISE := by
  unfold XC_type at q
  rcases q with ⟨x1, (⟨x2, x3⟩ | ⟨x4, x5, x6, x7⟩)⟩
  · exact Or.inl x3
  · exact Or.inr (x7)
theorem fR_type {S0 : State} {h h1 : AH} {mo : Nat} {w : Nat → Nat} {c m : Nat} {E : Nat → Nat} {R : Nat → Nat → Nat} {b0 b1 b2 : Int} {a1 : Int} {r : Option Value} (q : PR_type S0 h mo w c m E R b0 b1 b2 a1 r h1) : Fr (fun x => 120 ≤ x ∧ x ≤ 139) h h1 := by
  unfold PR_type at q
  exact q.1.mono (fun l z => by omega)
theorem op_type {S0 : State} {h h1 h2 hb : AH} {g : Nat → Int64} {xo mo : Nat} {w : Nat → Nat} {c m : Nat} {E : Nat → Nat} {R : Nat → Nat → Nat} {br bf bs be b0 b1 b2 : Int} {D2 D3 : Nat → Bool} {so kk : Nat} {r2 : Option Value} {a1 : Int} (hI : HI h xo w c m E R br bf bs be D2 D3 so) (hB : BrR br bf bs be b0 b1 b2) (hc : (kk = 0 ∧ ∃ z : Int, PC_type h xo w c m E R br bf bs be D2 D3 so a1 (some (I z)) h1 ∧ g 0 = (Int32.ofInt z).toInt64) ∨ ∃ e : String, [eIAE, eISE][kk - 1]? = some e ∧ 1 ≤ kk ∧ XC_type h xo w c m E R br bf bs be D2 D3 so a1 e h1) (hr : PR_type S0 hb mo w c m E R b0 b1 b2 a1 r2 h2) : ∃ z2 : Int, r2 = some (I z2) ∧ (kk = 0 → g 0 = (Int32.ofInt z2).toInt64) ∧ kk ≤ 4 ∧ Mg S0 h1 h2 xo mo kk (pC so D2) (pS so D2) := by
  have hM := hI.mtr.2.2.2.2.2.2
  unfold PR_type at hr
  rcases hc with ⟨rfl, z, hp, hg⟩ | ⟨e, he, hk, hp⟩
  · unfold PC_type at hp
    rcases hp with ⟨t, p1, p2, p3, p4, p5, p6⟩
    rcases hr with ⟨q1, (⟨q2, ⟨z2, q3⟩, q4⟩ | ⟨q5, q6, q7, ⟨z2, q8⟩, q9⟩ | ⟨t2, q10, q11, q12, q13, q14⟩)⟩
    · exfalso
      first | omega | (simp_all)
    · exfalso
      first | omega | (simp_all)
    · obtain rfl : t = t2 := by omega
      refine ⟨_, q13, fun _ => ?_, by decide, ⟨_, _, _, _, _, _, _, _, _, _, _, _, _, _, _, p5, q14, hB, Nat.le_refl _, Nat.le_refl _⟩⟩
      rw [hg, iI p4]
  · unfold XC_type at hp
    rcases ex2 he hk with ⟨rfl, rfl⟩ | ⟨rfl, rfl⟩
    · rcases hp with ⟨x1, (⟨x2, x3⟩ | ⟨x4, x5, x6, x7⟩)⟩
      · rcases hr with ⟨q1, (⟨q2, ⟨z2, q3⟩, q4⟩ | ⟨q5, q6, q7, ⟨z2, q8⟩, q9⟩ | ⟨t2, q10, q11, q12, q13, q14⟩)⟩
        · subst x1
          exact ⟨_, q3, fun q => absurd q (by decide), by decide, ⟨_, _, _, _, _, _, _, _, _, _, _, _, _, _, _, hI, q4, hB, Nat.le_refl _, Nat.le_refl _⟩⟩
        · exfalso
          first | omega | (simp_all)
        · exfalso
          first | omega | (simp_all)
      · exact absurd x7 (by decide)
    · rcases hp with ⟨x1, (⟨x2, x3⟩ | ⟨x4, x5, x6, x7⟩)⟩
      · exact absurd x3 (by decide)
      · rcases hr with ⟨q1, (⟨q2, ⟨z2, q3⟩, q4⟩ | ⟨q5, q6, q7, ⟨z2, q8⟩, q9⟩ | ⟨t2, q10, q11, q12, q13, q14⟩)⟩
        · exfalso
          first | omega | (simp_all)
        · subst x1
          exact ⟨_, q8, fun q => absurd q (by decide), by decide, ⟨_, _, _, _, _, _, _, _, _, _, _, _, _, _, _, hI, q9, hB, Nat.le_refl _, Nat.le_refl _⟩⟩
        · exfalso
          first | omega | (simp_all)
def PC_size (h : AH) (xo : Nat) (w : Nat → Nat) (c m : Nat) (E : Nat → Nat) (R : Nat → Nat → Nat) (br bf bs be : Int) (D2 D3 : Nat → Bool) (so : Nat) (a1 : Int) (r : Option Value) (h' : AH) : Prop := h' = h ∧ ∃ i, i < m ∧ a1 = (i : Int) ∧ r = some (I (E i : Nat))
def XC_size (h : AH) (xo : Nat) (w : Nat → Nat) (c m : Nat) (E : Nat → Nat) (R : Nat → Nat → Nat) (br bf bs be : Int) (D2 D3 : Nat → Bool) (so : Nat) (a1 : Int) (E' : String) (h' : AH) : Prop := h' = h ∧ noM a1 m ∧ E' = eIOO
def PR_size (S0 : State) (h : AH) (mo : Nat) (w : Nat → Nat) (c m : Nat) (E : Nat → Nat) (R : Nat → Nat → Nat) (b0 b1 b2 : Int) (a1 : Int) (r : Option Value) (h' : AH) : Prop := Fr (fun x => x = 120) h h' ∧ ((noM a1 m ∧ (∃ z, r = some (I z)) ∧ RI (zA S0) DRp h' mo 1 c w m E R b0 b1 b2) ∨ ∃ i, i < m ∧ a1 = (i : Int) ∧ r = some (I (E i : Nat)) ∧ RI (zA S0) DRp h' mo 0 c w m E R b0 b1 b2)
theorem fP_size {h h1 : AH} {xo : Nat} {w : Nat → Nat} {c m : Nat} {E : Nat → Nat} {R : Nat → Nat → Nat} {br bf bs be : Int} {D2 D3 : Nat → Bool} {so : Nat} {a1 : Int} {r : Option Value} (q : PC_size h xo w c m E R br bf bs be D2 D3 so a1 r h1) : Fr HF h h1 := by
  unfold PC_size at q
  obtain ⟨p1, i, p2, p3, p4⟩ := q
  rw [p1]; exact Fr.rf
theorem vP_size {h h1 : AH} {xo : Nat} {w : Nat → Nat} {c m : Nat} {E : Nat → Nat} {R : Nat → Nat → Nat} {br bf bs be : Int} {D2 D3 : Nat → Bool} {so : Nat} {a1 : Int} {r : Option Value} (q : PC_size h xo w c m E R br bf bs be D2 D3 so a1 r h1) : ∃ z : Int, r = some (I z) := by
  unfold PC_size at q
  obtain ⟨p1, i, p2, p3, p4⟩ := q
  exact ⟨_, p4⟩
theorem fX_size {h h1 : AH} {xo : Nat} {w : Nat → Nat} {c m : Nat} {E : Nat → Nat} {R : Nat → Nat → Nat} {br bf bs be : Int} {D2 D3 : Nat → Bool} {so : Nat} {a1 : Int} {e : String} (q : XC_size h xo w c m E R br bf bs be D2 D3 so a1 e h1) : Fr HF h h1 := by
  unfold XC_size at q
  rcases q with ⟨x1, x2, x3⟩
  · rw [x1]; exact Fr.rf
theorem eX_size {h h1 : AH} {xo : Nat} {w : Nat → Nat} {c m : Nat} {E : Nat → Nat} {R : Nat → Nat → Nat} {br bf bs be : Int} {D2 D3 : Nat → Bool} {so : Nat} {a1 : Int} {e : String} (q : XC_size h xo w c m E R br bf bs be D2 D3 so a1 e h1) : e = eIOO := by
  unfold XC_size at q
  rcases q with ⟨x1, x2, x3⟩
  · exact x3
theorem fR_size {S0 : State} {h h1 : AH} {mo : Nat} {w : Nat → Nat} {c m : Nat} {E : Nat → Nat} {R : Nat → Nat → Nat} {b0 b1 b2 : Int} {a1 : Int} {r : Option Value} (q : PR_size S0 h mo w c m E R b0 b1 b2 a1 r h1) : Fr (fun x => 120 ≤ x ∧ x ≤ 139) h h1 := by
  unfold PR_size at q
  exact q.1.mono (fun l z => by omega)
theorem op_size {S0 : State} {h h1 h2 hb : AH} {g : Nat → Int64} {xo mo : Nat} {w : Nat → Nat} {c m : Nat} {E : Nat → Nat} {R : Nat → Nat → Nat} {br bf bs be b0 b1 b2 : Int} {D2 D3 : Nat → Bool} {so kk : Nat} {r2 : Option Value} {a1 : Int} (hI : HI h xo w c m E R br bf bs be D2 D3 so) (hB : BrR br bf bs be b0 b1 b2) (hc : (kk = 0 ∧ ∃ z : Int, PC_size h xo w c m E R br bf bs be D2 D3 so a1 (some (I z)) h1 ∧ g 0 = (Int32.ofInt z).toInt64) ∨ ∃ e : String, [eIOO][kk - 1]? = some e ∧ 1 ≤ kk ∧ XC_size h xo w c m E R br bf bs be D2 D3 so a1 e h1) (hr : PR_size S0 hb mo w c m E R b0 b1 b2 a1 r2 h2) : ∃ z2 : Int, r2 = some (I z2) ∧ (kk = 0 → g 0 = (Int32.ofInt z2).toInt64) ∧ kk ≤ 4 ∧ Mg S0 h1 h2 xo mo kk (pC so D2) (pS so D2) := by
  have hM := hI.mtr.2.2.2.2.2.2
  unfold PR_size at hr
  rcases hc with ⟨rfl, z, hp, hg⟩ | ⟨e, he, hk, hp⟩
  · unfold PC_size at hp
    rcases hp with ⟨p1, i, p2, p3, p4⟩
    rcases hr with ⟨q1, (⟨q2, ⟨z2, q3⟩, q4⟩ | ⟨i2, q5, q6, q7, q8⟩)⟩
    · exfalso
      first | omega | (simp_all)
    · subst p1
      obtain rfl : i = i2 := by omega
      refine ⟨_, q7, fun _ => ?_, by decide, ⟨_, _, _, _, _, _, _, _, _, _, _, _, _, _, _, hI, q8, hB, Nat.le_refl _, Nat.le_refl _⟩⟩
      rw [hg, iI p4]
  · unfold XC_size at hp
    rcases ex1 he hk with ⟨rfl, rfl⟩
    · rcases hp with ⟨x1, x2, x3⟩
      · rcases hr with ⟨q1, (⟨q2, ⟨z2, q3⟩, q4⟩ | ⟨i2, q5, q6, q7, q8⟩)⟩
        · subst x1
          exact ⟨_, q3, fun q => absurd q (by decide), by decide, ⟨_, _, _, _, _, _, _, _, _, _, _, _, _, _, _, hI, q4, hB, Nat.le_refl _, Nat.le_refl _⟩⟩
        · exfalso
          first | omega | (simp_all)
def PC_rank (h : AH) (xo : Nat) (w : Nat → Nat) (c m : Nat) (E : Nat → Nat) (R : Nat → Nat → Nat) (br bf bs be : Int) (D2 D3 : Nat → Bool) (so : Nat) (a1 a2 : Int) (r : Option Value) (h' : AH) : Prop := h' = h ∧ ∃ i t : Nat, i < m ∧ a1 = (i : Int) ∧ t < 2 ^ E i ∧ a2 = (t : Int) ∧ r = some (I (R i t : Nat))
def XC_rank (h : AH) (xo : Nat) (w : Nat → Nat) (c m : Nat) (E : Nat → Nat) (R : Nat → Nat → Nat) (br bf bs be : Int) (D2 D3 : Nat → Bool) (so : Nat) (a1 a2 : Int) (E' : String) (h' : AH) : Prop := h' = h ∧ ((noM a1 m ∧ E' = eIOO) ∨ ∃ i, i < m ∧ a1 = (i : Int) ∧ ¬ (0 ≤ a2 ∧ a2 < ((2 ^ E i : Nat) : Int)) ∧ E' = eIAE)
def PR_rank (S0 : State) (h : AH) (mo : Nat) (w : Nat → Nat) (c m : Nat) (E : Nat → Nat) (R : Nat → Nat → Nat) (b0 b1 b2 : Int) (a1 a2 : Int) (r : Option Value) (h' : AH) : Prop := Fr (fun x => x = 120) h h' ∧ ((noM a1 m ∧ (∃ z, r = some (I z)) ∧ RI (zA S0) DRp h' mo 1 c w m E R b0 b1 b2) ∨ ∃ i, i < m ∧ a1 = (i : Int) ∧ ((¬ (0 ≤ a2 ∧ a2 < ((2 ^ E i : Nat) : Int)) ∧ (∃ z, r = some (I z)) ∧ RI (zA S0) DRp h' mo 2 c w m E R b0 b1 b2) ∨ ∃ t : Nat, t < 2 ^ E i ∧ a2 = (t : Int) ∧ r = some (I (R i t : Nat)) ∧ RI (zA S0) DRp h' mo 0 c w m E R b0 b1 b2))
theorem fP_rank {h h1 : AH} {xo : Nat} {w : Nat → Nat} {c m : Nat} {E : Nat → Nat} {R : Nat → Nat → Nat} {br bf bs be : Int} {D2 D3 : Nat → Bool} {so : Nat} {a1 a2 : Int} {r : Option Value} (q : PC_rank h xo w c m E R br bf bs be D2 D3 so a1 a2 r h1) : Fr HF h h1 := by
  unfold PC_rank at q
  obtain ⟨p1, i, t, p2, p3, p4, p5, p6⟩ := q
  rw [p1]; exact Fr.rf
theorem vP_rank {h h1 : AH} {xo : Nat} {w : Nat → Nat} {c m : Nat} {E : Nat → Nat} {R : Nat → Nat → Nat} {br bf bs be : Int} {D2 D3 : Nat → Bool} {so : Nat} {a1 a2 : Int} {r : Option Value} (q : PC_rank h xo w c m E R br bf bs be D2 D3 so a1 a2 r h1) : ∃ z : Int, r = some (I z) := by
  unfold PC_rank at q
  obtain ⟨p1, i, t, p2, p3, p4, p5, p6⟩ := q
  exact ⟨_, p6⟩
theorem fX_rank {h h1 : AH} {xo : Nat} {w : Nat → Nat} {c m : Nat} {E : Nat → Nat} {R : Nat → Nat → Nat} {br bf bs be : Int} {D2 D3 : Nat → Bool} {so : Nat} {a1 a2 : Int} {e : String} (q : XC_rank h xo w c m E R br bf bs be D2 D3 so a1 a2 e h1) : Fr HF h h1 := by
  unfold XC_rank at q
  rcases q with ⟨x1, (⟨x2, x3⟩ | ⟨i, x4, x5, x6, x7⟩)⟩
  · rw [x1]; exact Fr.rf
  · rw [x1]; exact Fr.rf
theorem eX_rank {h h1 : AH} {xo : Nat} {w : Nat → Nat} {c m : Nat} {E : Nat → Nat} {R : Nat → Nat → Nat} {br bf bs be : Int} {D2 D3 : Nat → Bool} {so : Nat} {a1 a2 : Int} {e : String} (q : XC_rank h xo w c m E R br bf bs be D2 D3 so a1 a2 e h1) : e = eIOO ∨ e = eIAE := by
  unfold XC_rank at q
  rcases q with ⟨x1, (⟨x2, x3⟩ | ⟨i, x4, x5, x6, x7⟩)⟩
  · exact Or.inl x3
  · exact Or.inr (x7)
theorem fR_rank {S0 : State} {h h1 : AH} {mo : Nat} {w : Nat → Nat} {c m : Nat} {E : Nat → Nat} {R : Nat → Nat → Nat} {b0 b1 b2 : Int} {a1 a2 : Int} {r : Option Value} (q : PR_rank S0 h mo w c m E R b0 b1 b2 a1 a2 r h1) : Fr (fun x => 120 ≤ x ∧ x ≤ 139) h h1 := by
  unfold PR_rank at q
  exact q.1.mono (fun l z => by omega)
theorem op_rank {S0 : State} {h h1 h2 hb : AH} {g : Nat → Int64} {xo mo : Nat} {w : Nat → Nat} {c m : Nat} {E : Nat → Nat} {R : Nat → Nat → Nat} {br bf bs be b0 b1 b2 : Int} {D2 D3 : Nat → Bool} {so kk : Nat} {r2 : Option Value} {a1 a2 : Int} (hI : HI h xo w c m E R br bf bs be D2 D3 so) (hB : BrR br bf bs be b0 b1 b2) (hc : (kk = 0 ∧ ∃ z : Int, PC_rank h xo w c m E R br bf bs be D2 D3 so a1 a2 (some (I z)) h1 ∧ g 0 = (Int32.ofInt z).toInt64) ∨ ∃ e : String, [eIOO, eIAE][kk - 1]? = some e ∧ 1 ≤ kk ∧ XC_rank h xo w c m E R br bf bs be D2 D3 so a1 a2 e h1) (hr : PR_rank S0 hb mo w c m E R b0 b1 b2 a1 a2 r2 h2) : ∃ z2 : Int, r2 = some (I z2) ∧ (kk = 0 → g 0 = (Int32.ofInt z2).toInt64) ∧ kk ≤ 4 ∧ Mg S0 h1 h2 xo mo kk (pC so D2) (pS so D2) := by
  have hM := hI.mtr.2.2.2.2.2.2
  unfold PR_rank at hr
  rcases hc with ⟨rfl, z, hp, hg⟩ | ⟨e, he, hk, hp⟩
  · unfold PC_rank at hp
    rcases hp with ⟨p1, i, t, p2, p3, p4, p5, p6⟩
    rcases hr with ⟨q1, (⟨q2, ⟨z2, q3⟩, q4⟩ | ⟨i2, q5, q6, (⟨q7, ⟨z2, q8⟩, q9⟩ | ⟨t2, q10, q11, q12, q13⟩)⟩)⟩
    · exfalso
      first | omega | (simp_all)
    · obtain rfl : i = i2 := by omega
      exfalso
      first | omega | (simp_all)
    · subst p1
      obtain rfl : i = i2 := by omega
      obtain rfl : t = t2 := by omega
      refine ⟨_, q12, fun _ => ?_, by decide, ⟨_, _, _, _, _, _, _, _, _, _, _, _, _, _, _, hI, q13, hB, Nat.le_refl _, Nat.le_refl _⟩⟩
      rw [hg, iI p6]
  · unfold XC_rank at hp
    rcases ex2 he hk with ⟨rfl, rfl⟩ | ⟨rfl, rfl⟩
    · rcases hp with ⟨x1, (⟨x2, x3⟩ | ⟨i, x4, x5, x6, x7⟩)⟩
      · rcases hr with ⟨q1, (⟨q2, ⟨z2, q3⟩, q4⟩ | ⟨i2, q5, q6, (⟨q7, ⟨z2, q8⟩, q9⟩ | ⟨t2, q10, q11, q12, q13⟩)⟩)⟩
        · subst x1
          exact ⟨_, q3, fun q => absurd q (by decide), by decide, ⟨_, _, _, _, _, _, _, _, _, _, _, _, _, _, _, hI, q4, hB, Nat.le_refl _, Nat.le_refl _⟩⟩
        · exfalso
          first | omega | (simp_all)
        · exfalso
          first | omega | (simp_all)
      · exact absurd x7 (by decide)
    · rcases hp with ⟨x1, (⟨x2, x3⟩ | ⟨i, x4, x5, x6, x7⟩)⟩
      · exact absurd x3 (by decide)
      · rcases hr with ⟨q1, (⟨q2, ⟨z2, q3⟩, q4⟩ | ⟨i2, q5, q6, (⟨q7, ⟨z2, q8⟩, q9⟩ | ⟨t2, q10, q11, q12, q13⟩)⟩)⟩
        · exfalso
          first | omega | (simp_all)
        · subst x1
          obtain rfl : i = i2 := by omega
          exact ⟨_, q8, fun q => absurd q (by decide), by decide, ⟨_, _, _, _, _, _, _, _, _, _, _, _, _, _, _, hI, q9, hB, Nat.le_refl _, Nat.le_refl _⟩⟩
        · obtain rfl : i = i2 := by omega
          exfalso
          first | omega | (simp_all)
def PC_closure (h : AH) (xo : Nat) (w : Nat → Nat) (c m : Nat) (E : Nat → Nat) (R : Nat → Nat → Nat) (br bf bs be : Int) (D2 D3 : Nat → Bool) (so : Nat) (a1 a2 : Int) (r : Option Value) (h' : AH) : Prop := h' = h ∧ ∃ i t : Nat, i < m ∧ a1 = (i : Int) ∧ t < 2 ^ E i ∧ a2 = (t : Int) ∧ r = some (I (cloN (R i) (E i) t : Nat))
def XC_closure (h : AH) (xo : Nat) (w : Nat → Nat) (c m : Nat) (E : Nat → Nat) (R : Nat → Nat → Nat) (br bf bs be : Int) (D2 D3 : Nat → Bool) (so : Nat) (a1 a2 : Int) (E' : String) (h' : AH) : Prop := h' = h ∧ ((noM a1 m ∧ E' = eIOO) ∨ ∃ i, i < m ∧ a1 = (i : Int) ∧ ¬ (0 ≤ a2 ∧ a2 < ((2 ^ E i : Nat) : Int)) ∧ E' = eIAE)
def PR_closure (S0 : State) (h : AH) (mo : Nat) (w : Nat → Nat) (c m : Nat) (E : Nat → Nat) (R : Nat → Nat → Nat) (b0 b1 b2 : Int) (a1 a2 : Int) (r : Option Value) (h' : AH) : Prop := Fr (fun x => x = 120) h h' ∧ ((noM a1 m ∧ (∃ z, r = some (I z)) ∧ RI (zA S0) DRp h' mo 1 c w m E R b0 b1 b2) ∨ ∃ i, i < m ∧ a1 = (i : Int) ∧ ((¬ (0 ≤ a2 ∧ a2 < ((2 ^ E i : Nat) : Int)) ∧ (∃ z, r = some (I z)) ∧ RI (zA S0) DRp h' mo 2 c w m E R b0 b1 b2) ∨ ∃ t : Nat, t < 2 ^ E i ∧ a2 = (t : Int) ∧ r = some (I (cloN (R i) (E i) t : Nat)) ∧ RI (zA S0) DRp h' mo 0 c w m E R b0 b1 b2))
theorem fP_closure {h h1 : AH} {xo : Nat} {w : Nat → Nat} {c m : Nat} {E : Nat → Nat} {R : Nat → Nat → Nat} {br bf bs be : Int} {D2 D3 : Nat → Bool} {so : Nat} {a1 a2 : Int} {r : Option Value} (q : PC_closure h xo w c m E R br bf bs be D2 D3 so a1 a2 r h1) : Fr HF h h1 := by
  unfold PC_closure at q
  obtain ⟨p1, i, t, p2, p3, p4, p5, p6⟩ := q
  rw [p1]; exact Fr.rf
theorem vP_closure {h h1 : AH} {xo : Nat} {w : Nat → Nat} {c m : Nat} {E : Nat → Nat} {R : Nat → Nat → Nat} {br bf bs be : Int} {D2 D3 : Nat → Bool} {so : Nat} {a1 a2 : Int} {r : Option Value} (q : PC_closure h xo w c m E R br bf bs be D2 D3 so a1 a2 r h1) : ∃ z : Int, r = some (I z) := by
  unfold PC_closure at q
  obtain ⟨p1, i, t, p2, p3, p4, p5, p6⟩ := q
  exact ⟨_, p6⟩
theorem fX_closure {h h1 : AH} {xo : Nat} {w : Nat → Nat} {c m : Nat} {E : Nat → Nat} {R : Nat → Nat → Nat} {br bf bs be : Int} {D2 D3 : Nat → Bool} {so : Nat} {a1 a2 : Int} {e : String} (q : XC_closure h xo w c m E R br bf bs be D2 D3 so a1 a2 e h1) : Fr HF h h1 := by
  unfold XC_closure at q
  rcases q with ⟨x1, (⟨x2, x3⟩ | ⟨i, x4, x5, x6, x7⟩)⟩
  · rw [x1]; exact Fr.rf
  · rw [x1]; exact Fr.rf
theorem eX_closure {h h1 : AH} {xo : Nat} {w : Nat → Nat} {c m : Nat} {E : Nat → Nat} {R : Nat → Nat → Nat} {br bf bs be : Int} {D2 D3 : Nat → Bool} {so : Nat} {a1 a2 : Int} {e : String} (q : XC_closure h xo w c m E R br bf bs be D2 D3 so a1 a2 e h1) : e = eIOO ∨ e = eIAE := by
  unfold XC_closure at q
  rcases q with ⟨x1, (⟨x2, x3⟩ | ⟨i, x4, x5, x6, x7⟩)⟩
  · exact Or.inl x3
  · exact Or.inr (x7)
theorem fR_closure {S0 : State} {h h1 : AH} {mo : Nat} {w : Nat → Nat} {c m : Nat} {E : Nat → Nat} {R : Nat → Nat → Nat} {b0 b1 b2 : Int} {a1 a2 : Int} {r : Option Value} (q : PR_closure S0 h mo w c m E R b0 b1 b2 a1 a2 r h1) : Fr (fun x => 120 ≤ x ∧ x ≤ 139) h h1 := by
  unfold PR_closure at q
  exact q.1.mono (fun l z => by omega)
theorem op_closure {S0 : State} {h h1 h2 hb : AH} {g : Nat → Int64} {xo mo : Nat} {w : Nat → Nat} {c m : Nat} {E : Nat → Nat} {R : Nat → Nat → Nat} {br bf bs be b0 b1 b2 : Int} {D2 D3 : Nat → Bool} {so kk : Nat} {r2 : Option Value} {a1 a2 : Int} (hI : HI h xo w c m E R br bf bs be D2 D3 so) (hB : BrR br bf bs be b0 b1 b2) (hc : (kk = 0 ∧ ∃ z : Int, PC_closure h xo w c m E R br bf bs be D2 D3 so a1 a2 (some (I z)) h1 ∧ g 0 = (Int32.ofInt z).toInt64) ∨ ∃ e : String, [eIOO, eIAE][kk - 1]? = some e ∧ 1 ≤ kk ∧ XC_closure h xo w c m E R br bf bs be D2 D3 so a1 a2 e h1) (hr : PR_closure S0 hb mo w c m E R b0 b1 b2 a1 a2 r2 h2) : ∃ z2 : Int, r2 = some (I z2) ∧ (kk = 0 → g 0 = (Int32.ofInt z2).toInt64) ∧ kk ≤ 4 ∧ Mg S0 h1 h2 xo mo kk (pC so D2) (pS so D2) := by
  have hM := hI.mtr.2.2.2.2.2.2
  unfold PR_closure at hr
  rcases hc with ⟨rfl, z, hp, hg⟩ | ⟨e, he, hk, hp⟩
  · unfold PC_closure at hp
    rcases hp with ⟨p1, i, t, p2, p3, p4, p5, p6⟩
    rcases hr with ⟨q1, (⟨q2, ⟨z2, q3⟩, q4⟩ | ⟨i2, q5, q6, (⟨q7, ⟨z2, q8⟩, q9⟩ | ⟨t2, q10, q11, q12, q13⟩)⟩)⟩
    · exfalso
      first | omega | (simp_all)
    · obtain rfl : i = i2 := by omega
      exfalso
      first | omega | (simp_all)
    · subst p1
      obtain rfl : i = i2 := by omega
      obtain rfl : t = t2 := by omega
      refine ⟨_, q12, fun _ => ?_, by decide, ⟨_, _, _, _, _, _, _, _, _, _, _, _, _, _, _, hI, q13, hB, Nat.le_refl _, Nat.le_refl _⟩⟩
      rw [hg, iI p6]
  · unfold XC_closure at hp
    rcases ex2 he hk with ⟨rfl, rfl⟩ | ⟨rfl, rfl⟩
    · rcases hp with ⟨x1, (⟨x2, x3⟩ | ⟨i, x4, x5, x6, x7⟩)⟩
      · rcases hr with ⟨q1, (⟨q2, ⟨z2, q3⟩, q4⟩ | ⟨i2, q5, q6, (⟨q7, ⟨z2, q8⟩, q9⟩ | ⟨t2, q10, q11, q12, q13⟩)⟩)⟩
        · subst x1
          exact ⟨_, q3, fun q => absurd q (by decide), by decide, ⟨_, _, _, _, _, _, _, _, _, _, _, _, _, _, _, hI, q4, hB, Nat.le_refl _, Nat.le_refl _⟩⟩
        · exfalso
          first | omega | (simp_all)
        · exfalso
          first | omega | (simp_all)
      · exact absurd x7 (by decide)
    · rcases hp with ⟨x1, (⟨x2, x3⟩ | ⟨i, x4, x5, x6, x7⟩)⟩
      · exact absurd x3 (by decide)
      · rcases hr with ⟨q1, (⟨q2, ⟨z2, q3⟩, q4⟩ | ⟨i2, q5, q6, (⟨q7, ⟨z2, q8⟩, q9⟩ | ⟨t2, q10, q11, q12, q13⟩)⟩)⟩
        · exfalso
          first | omega | (simp_all)
        · subst x1
          obtain rfl : i = i2 := by omega
          exact ⟨_, q8, fun q => absurd q (by decide), by decide, ⟨_, _, _, _, _, _, _, _, _, _, _, _, _, _, _, hI, q9, hB, Nat.le_refl _, Nat.le_refl _⟩⟩
        · obtain rfl : i = i2 := by omega
          exfalso
          first | omega | (simp_all)
def PC_component (h : AH) (xo : Nat) (w : Nat → Nat) (c m : Nat) (E : Nat → Nat) (R : Nat → Nat → Nat) (br bf bs be : Int) (D2 D3 : Nat → Bool) (so : Nat) (a1 a2 : Int) (r : Option Value) (h' : AH) : Prop := h' = h ∧ ∃ i k : Nat, i < m ∧ a1 = (i : Int) ∧ k < E i ∧ a2 = (k : Int) ∧ r = some (I (lowN (sortN (R i) (E i)) (E i) k : Nat))
def XC_component (h : AH) (xo : Nat) (w : Nat → Nat) (c m : Nat) (E : Nat → Nat) (R : Nat → Nat → Nat) (br bf bs be : Int) (D2 D3 : Nat → Bool) (so : Nat) (a1 a2 : Int) (E' : String) (h' : AH) : Prop := h' = h ∧ ((noM a1 m ∧ E' = eIOO) ∨ ∃ i, i < m ∧ a1 = (i : Int) ∧ ¬ (0 ≤ a2 ∧ a2 < ((E i : Nat) : Int)) ∧ E' = eIOO)
def PR_component (S0 : State) (h : AH) (mo : Nat) (w : Nat → Nat) (c m : Nat) (E : Nat → Nat) (R : Nat → Nat → Nat) (b0 b1 b2 : Int) (a1 a2 : Int) (r : Option Value) (h' : AH) : Prop := Fr (fun x => x = 120) h h' ∧ (((noM a1 m ∨ ∃ i, i < m ∧ a1 = (i : Int) ∧ ¬ (0 ≤ a2 ∧ a2 < ((E i : Nat) : Int))) ∧ (∃ z, r = some (I z)) ∧ RI (zA S0) DRp h' mo 1 c w m E R b0 b1 b2) ∨ ∃ i k : Nat, i < m ∧ a1 = (i : Int) ∧ k < E i ∧ a2 = (k : Int) ∧ r = some (I (cmpN (R i) (E i) k (2 ^ E i) : Nat)) ∧ RI (zA S0) DRp h' mo 0 c w m E R b0 b1 b2)
theorem fP_component {h h1 : AH} {xo : Nat} {w : Nat → Nat} {c m : Nat} {E : Nat → Nat} {R : Nat → Nat → Nat} {br bf bs be : Int} {D2 D3 : Nat → Bool} {so : Nat} {a1 a2 : Int} {r : Option Value} (q : PC_component h xo w c m E R br bf bs be D2 D3 so a1 a2 r h1) : Fr HF h h1 := by
  unfold PC_component at q
  obtain ⟨p1, i, k, p2, p3, p4, p5, p6⟩ := q
  rw [p1]; exact Fr.rf
theorem vP_component {h h1 : AH} {xo : Nat} {w : Nat → Nat} {c m : Nat} {E : Nat → Nat} {R : Nat → Nat → Nat} {br bf bs be : Int} {D2 D3 : Nat → Bool} {so : Nat} {a1 a2 : Int} {r : Option Value} (q : PC_component h xo w c m E R br bf bs be D2 D3 so a1 a2 r h1) : ∃ z : Int, r = some (I z) := by
  unfold PC_component at q
  obtain ⟨p1, i, k, p2, p3, p4, p5, p6⟩ := q
  exact ⟨_, p6⟩
theorem fX_component {h h1 : AH} {xo : Nat} {w : Nat → Nat} {c m : Nat} {E : Nat → Nat} {R : Nat → Nat → Nat} {br bf bs be : Int} {D2 D3 : Nat → Bool} {so : Nat} {a1 a2 : Int} {e : String} (q : XC_component h xo w c m E R br bf bs be D2 D3 so a1 a2 e h1) : Fr HF h h1 := by
  unfold XC_component at q
  rcases q with ⟨x1, (⟨x2, x3⟩ | ⟨i, x4, x5, x6, x7⟩)⟩
  · rw [x1]; exact Fr.rf
  · rw [x1]; exact Fr.rf
theorem eX_component {h h1 : AH} {xo : Nat} {w : Nat → Nat} {c m : Nat} {E : Nat → Nat} {R : Nat → Nat → Nat} {br bf bs be : Int} {D2 D3 : Nat → Bool} {so : Nat} {a1 a2 : Int} {e : String} (q : XC_component h xo w c m E R br bf bs be D2 D3 so a1 a2 e h1) : e = eIOO := by
  unfold XC_component at q
  rcases q with ⟨x1, (⟨x2, x3⟩ | ⟨i, x4, x5, x6, x7⟩)⟩
  · exact x3
  · exact x7
theorem fR_component {S0 : State} {h h1 : AH} {mo : Nat} {w : Nat → Nat} {c m : Nat} {E : Nat → Nat} {R : Nat → Nat → Nat} {b0 b1 b2 : Int} {a1 a2 : Int} {r : Option Value} (q : PR_component S0 h mo w c m E R b0 b1 b2 a1 a2 r h1) : Fr (fun x => 120 ≤ x ∧ x ≤ 139) h h1 := by
  unfold PR_component at q
  exact q.1.mono (fun l z => by omega)
theorem op_component {S0 : State} {h h1 h2 hb : AH} {g : Nat → Int64} {xo mo : Nat} {w : Nat → Nat} {c m : Nat} {E : Nat → Nat} {R : Nat → Nat → Nat} {br bf bs be b0 b1 b2 : Int} {D2 D3 : Nat → Bool} {so kk : Nat} {r2 : Option Value} {a1 a2 : Int} (hI : HI h xo w c m E R br bf bs be D2 D3 so) (hB : BrR br bf bs be b0 b1 b2) (hc : (kk = 0 ∧ ∃ z : Int, PC_component h xo w c m E R br bf bs be D2 D3 so a1 a2 (some (I z)) h1 ∧ g 0 = (Int32.ofInt z).toInt64) ∨ ∃ e : String, [eIOO][kk - 1]? = some e ∧ 1 ≤ kk ∧ XC_component h xo w c m E R br bf bs be D2 D3 so a1 a2 e h1) (hr : PR_component S0 hb mo w c m E R b0 b1 b2 a1 a2 r2 h2) : ∃ z2 : Int, r2 = some (I z2) ∧ (kk = 0 → g 0 = (Int32.ofInt z2).toInt64) ∧ kk ≤ 4 ∧ Mg S0 h1 h2 xo mo kk (pC so D2) (pS so D2) := by
  have hM := hI.mtr.2.2.2.2.2.2
  unfold PR_component at hr
  rcases hc with ⟨rfl, z, hp, hg⟩ | ⟨e, he, hk, hp⟩
  · unfold PC_component at hp
    rcases hp with ⟨p1, i, k, p2, p3, p4, p5, p6⟩
    rcases hr with ⟨q1, (⟨(q2 | ⟨i2, q3, q4, q5⟩), ⟨z2, q6⟩, q7⟩ | ⟨i2, k2, q8, q9, q10, q11, q12, q13⟩)⟩
    · exfalso
      first | omega | (simp_all)
    · obtain rfl : i = i2 := by omega
      exfalso
      first | omega | (simp_all)
    · subst p1
      obtain rfl : i = i2 := by omega
      obtain rfl : k = k2 := by omega
      refine ⟨_, q12, fun _ => ?_, by decide, ⟨_, _, _, _, _, _, _, _, _, _, _, _, _, _, _, hI, q13, hB, Nat.le_refl _, Nat.le_refl _⟩⟩
      rw [hg, iI p6]
      rw [component_same (hM i (by assumption)) (by assumption)]
  · unfold XC_component at hp
    rcases ex1 he hk with ⟨rfl, rfl⟩
    · rcases hp with ⟨x1, (⟨x2, x3⟩ | ⟨i, x4, x5, x6, x7⟩)⟩
      · rcases hr with ⟨q1, (⟨(q2 | ⟨i2, q3, q4, q5⟩), ⟨z2, q6⟩, q7⟩ | ⟨i2, k2, q8, q9, q10, q11, q12, q13⟩)⟩
        · subst x1
          exact ⟨_, q6, fun q => absurd q (by decide), by decide, ⟨_, _, _, _, _, _, _, _, _, _, _, _, _, _, _, hI, q7, hB, Nat.le_refl _, Nat.le_refl _⟩⟩
        · subst x1
          exact ⟨_, q6, fun q => absurd q (by decide), by decide, ⟨_, _, _, _, _, _, _, _, _, _, _, _, _, _, _, hI, q7, hB, Nat.le_refl _, Nat.le_refl _⟩⟩
        · exfalso
          first | omega | (simp_all)
      · rcases hr with ⟨q1, (⟨(q2 | ⟨i2, q3, q4, q5⟩), ⟨z2, q6⟩, q7⟩ | ⟨i2, k2, q8, q9, q10, q11, q12, q13⟩)⟩
        · subst x1
          exact ⟨_, q6, fun q => absurd q (by decide), by decide, ⟨_, _, _, _, _, _, _, _, _, _, _, _, _, _, _, hI, q7, hB, Nat.le_refl _, Nat.le_refl _⟩⟩
        · subst x1
          obtain rfl : i = i2 := by omega
          exact ⟨_, q6, fun q => absurd q (by decide), by decide, ⟨_, _, _, _, _, _, _, _, _, _, _, _, _, _, _, hI, q7, hB, Nat.le_refl _, Nat.le_refl _⟩⟩
        · obtain rfl : i = i2 := by omega
          exfalso
          first | omega | (simp_all)
def PC_coefficient (h : AH) (xo : Nat) (w : Nat → Nat) (c m : Nat) (E : Nat → Nat) (R : Nat → Nat → Nat) (br bf bs be : Int) (D2 D3 : Nat → Bool) (so : Nat) (a1 a2 a3 : Int) (r : Option Value) (h' : AH) : Prop := h' = h ∧ ∃ i s t : Nat, i < m ∧ a1 = (i : Int) ∧ s ≤ 10 ∧ a2 = (s : Int) ∧ t ≤ 10 ∧ a3 = (t : Int) ∧ r = some (I (coefN (shpN (R i) (E i)) s t))
def XC_coefficient (h : AH) (xo : Nat) (w : Nat → Nat) (c m : Nat) (E : Nat → Nat) (R : Nat → Nat → Nat) (br bf bs be : Int) (D2 D3 : Nat → Bool) (so : Nat) (a1 a2 a3 : Int) (E' : String) (h' : AH) : Prop := h' = h ∧ ((noM a1 m ∧ E' = eIOO) ∨ ∃ i, i < m ∧ a1 = (i : Int) ∧ ¬ (0 ≤ a2 ∧ a2 ≤ 10 ∧ 0 ≤ a3 ∧ a3 ≤ 10) ∧ E' = eIAE)
def PR_coefficient (S0 : State) (h : AH) (mo : Nat) (w : Nat → Nat) (c m : Nat) (E : Nat → Nat) (R : Nat → Nat → Nat) (b0 b1 b2 : Int) (a1 a2 a3 : Int) (r : Option Value) (h' : AH) : Prop := Fr (fun a2 => a2 = 120) h h' ∧ ((noM a1 m ∧ (∃ z, r = some (I z)) ∧ RI (zA S0) DRp h' mo 1 c w m E R b0 b1 b2) ∨ ∃ i, i < m ∧ a1 = (i : Int) ∧ ((¬ (0 ≤ a2 ∧ a2 ≤ 10) ∨ ¬ (0 ≤ a3 ∧ a3 ≤ 10)) ∧ (∃ z, r = some (I z)) ∧ RI (zA S0) DRp h' mo 2 c w m E R b0 b1 b2 ∨ (∃ u v : Nat, u ≤ 10 ∧ v ≤ 10 ∧ a2 = (u : Int) ∧ a3 = (v : Int) ∧ r = some (I (cofM (R i) (E i) u v (2 ^ E i)))) ∧ RI (zA S0) DRp h' mo 0 c w m E R b0 b1 b2))
theorem fP_coefficient {h h1 : AH} {xo : Nat} {w : Nat → Nat} {c m : Nat} {E : Nat → Nat} {R : Nat → Nat → Nat} {br bf bs be : Int} {D2 D3 : Nat → Bool} {so : Nat} {a1 a2 a3 : Int} {r : Option Value} (q : PC_coefficient h xo w c m E R br bf bs be D2 D3 so a1 a2 a3 r h1) : Fr HF h h1 := by
  unfold PC_coefficient at q
  obtain ⟨p1, i, s, t, p2, p3, p4, p5, p6, p7, p8⟩ := q
  rw [p1]; exact Fr.rf
theorem vP_coefficient {h h1 : AH} {xo : Nat} {w : Nat → Nat} {c m : Nat} {E : Nat → Nat} {R : Nat → Nat → Nat} {br bf bs be : Int} {D2 D3 : Nat → Bool} {so : Nat} {a1 a2 a3 : Int} {r : Option Value} (q : PC_coefficient h xo w c m E R br bf bs be D2 D3 so a1 a2 a3 r h1) : ∃ z : Int, r = some (I z) := by
  unfold PC_coefficient at q
  obtain ⟨p1, i, s, t, p2, p3, p4, p5, p6, p7, p8⟩ := q
  exact ⟨_, p8⟩
theorem fX_coefficient {h h1 : AH} {xo : Nat} {w : Nat → Nat} {c m : Nat} {E : Nat → Nat} {R : Nat → Nat → Nat} {br bf bs be : Int} {D2 D3 : Nat → Bool} {so : Nat} {a1 a2 a3 : Int} {e : String} (q : XC_coefficient h xo w c m E R br bf bs be D2 D3 so a1 a2 a3 e h1) : Fr HF h h1 := by
  unfold XC_coefficient at q
  rcases q with ⟨x1, (⟨x2, x3⟩ | ⟨i, x4, x5, x6, x7⟩)⟩
  · rw [x1]; exact Fr.rf
  · rw [x1]; exact Fr.rf
theorem eX_coefficient {h h1 : AH} {xo : Nat} {w : Nat → Nat} {c m : Nat} {E : Nat → Nat} {R : Nat → Nat → Nat} {br bf bs be : Int} {D2 D3 : Nat → Bool} {so : Nat} {a1 a2 a3 : Int} {e : String} (q : XC_coefficient h xo w c m E R br bf bs be D2 D3 so a1 a2 a3 e h1) : e = eIOO ∨ e = eIAE := by
  unfold XC_coefficient at q
  rcases q with ⟨x1, (⟨x2, x3⟩ | ⟨i, x4, x5, x6, x7⟩)⟩
  · exact Or.inl x3
  · exact Or.inr (x7)
theorem fR_coefficient {S0 : State} {h h1 : AH} {mo : Nat} {w : Nat → Nat} {c m : Nat} {E : Nat → Nat} {R : Nat → Nat → Nat} {b0 b1 b2 : Int} {a1 a2 a3 : Int} {r : Option Value} (q : PR_coefficient S0 h mo w c m E R b0 b1 b2 a1 a2 a3 r h1) : Fr (fun x => 120 ≤ x ∧ x ≤ 139) h h1 := by
  unfold PR_coefficient at q
  exact q.1.mono (fun l z => by omega)
theorem op_coefficient {S0 : State} {h h1 h2 hb : AH} {g : Nat → Int64} {xo mo : Nat} {w : Nat → Nat} {c m : Nat} {E : Nat → Nat} {R : Nat → Nat → Nat} {br bf bs be b0 b1 b2 : Int} {D2 D3 : Nat → Bool} {so kk : Nat} {r2 : Option Value} {a1 a2 a3 : Int} (hI : HI h xo w c m E R br bf bs be D2 D3 so) (hB : BrR br bf bs be b0 b1 b2) (hc : (kk = 0 ∧ ∃ z : Int, PC_coefficient h xo w c m E R br bf bs be D2 D3 so a1 a2 a3 (some (I z)) h1 ∧ g 0 = (Int32.ofInt z).toInt64) ∨ ∃ e : String, [eIOO, eIAE][kk - 1]? = some e ∧ 1 ≤ kk ∧ XC_coefficient h xo w c m E R br bf bs be D2 D3 so a1 a2 a3 e h1) (hr : PR_coefficient S0 hb mo w c m E R b0 b1 b2 a1 a2 a3 r2 h2) : ∃ z2 : Int, r2 = some (I z2) ∧ (kk = 0 → g 0 = (Int32.ofInt z2).toInt64) ∧ kk ≤ 4 ∧ Mg S0 h1 h2 xo mo kk (pC so D2) (pS so D2) := by
  have hM := hI.mtr.2.2.2.2.2.2
  unfold PR_coefficient at hr
  rcases hc with ⟨rfl, z, hp, hg⟩ | ⟨e, he, hk, hp⟩
  · unfold PC_coefficient at hp
    rcases hp with ⟨p1, i, s, t, p2, p3, p4, p5, p6, p7, p8⟩
    rcases hr with ⟨q1, (⟨q2, ⟨z2, q3⟩, q4⟩ | ⟨i2, q5, q6, (⟨q7, ⟨z2, q8⟩, q9⟩ | ⟨⟨u2, v2, q10, q11, q12, q13, q14⟩, q15⟩)⟩)⟩
    · exfalso
      first | omega | (simp_all)
    · obtain rfl : i = i2 := by omega
      exfalso
      first | omega | (simp_all)
    · subst p1
      obtain rfl : i = i2 := by omega
      obtain rfl : s = u2 := by omega
      obtain rfl : t = v2 := by omega
      refine ⟨_, q14, fun _ => ?_, by decide, ⟨_, _, _, _, _, _, _, _, _, _, _, _, _, _, _, hI, q15, hB, Nat.le_refl _, Nat.le_refl _⟩⟩
      rw [hg, iI p8]
      rw [coefficient_same (hM i (by assumption)) (by assumption) (by assumption)]
  · unfold XC_coefficient at hp
    rcases ex2 he hk with ⟨rfl, rfl⟩ | ⟨rfl, rfl⟩
    · rcases hp with ⟨x1, (⟨x2, x3⟩ | ⟨i, x4, x5, x6, x7⟩)⟩
      · rcases hr with ⟨q1, (⟨q2, ⟨z2, q3⟩, q4⟩ | ⟨i2, q5, q6, (⟨q7, ⟨z2, q8⟩, q9⟩ | ⟨⟨u2, v2, q10, q11, q12, q13, q14⟩, q15⟩)⟩)⟩
        · subst x1
          exact ⟨_, q3, fun q => absurd q (by decide), by decide, ⟨_, _, _, _, _, _, _, _, _, _, _, _, _, _, _, hI, q4, hB, Nat.le_refl _, Nat.le_refl _⟩⟩
        · exfalso
          first | omega | (simp_all)
        · exfalso
          first | omega | (simp_all)
      · exact absurd x7 (by decide)
    · rcases hp with ⟨x1, (⟨x2, x3⟩ | ⟨i, x4, x5, x6, x7⟩)⟩
      · exact absurd x3 (by decide)
      · rcases hr with ⟨q1, (⟨q2, ⟨z2, q3⟩, q4⟩ | ⟨i2, q5, q6, (⟨q7, ⟨z2, q8⟩, q9⟩ | ⟨⟨u2, v2, q10, q11, q12, q13, q14⟩, q15⟩)⟩)⟩
        · exfalso
          first | omega | (simp_all)
        · subst x1
          obtain rfl : i = i2 := by omega
          exact ⟨_, q8, fun q => absurd q (by decide), by decide, ⟨_, _, _, _, _, _, _, _, _, _, _, _, _, _, _, hI, q9, hB, Nat.le_refl _, Nat.le_refl _⟩⟩
        · obtain rfl : i = i2 := by omega
          exfalso
          first | omega | (simp_all)
def PC_other (h : AH) (xo : Nat) (w : Nat → Nat) (c m : Nat) (E : Nat → Nat) (R : Nat → Nat → Nat) (br bf bs be : Int) (D2 D3 : Nat → Bool) (so : Nat) (a1 a2 : Int) (r : Option Value) (h' : AH) : Prop := h' = h ∧ ∃ i s : Nat, i < m ∧ a1 = (i : Int) ∧ s ≤ 10 ∧ a2 = (s : Int) ∧ r = some (I (othN (shpN (R i) (E i)) (R i (2 ^ E i - 1)) s))
def XC_other (h : AH) (xo : Nat) (w : Nat → Nat) (c m : Nat) (E : Nat → Nat) (R : Nat → Nat → Nat) (br bf bs be : Int) (D2 D3 : Nat → Bool) (so : Nat) (a1 a2 : Int) (E' : String) (h' : AH) : Prop := h' = h ∧ ((noM a1 m ∧ E' = eIOO) ∨ ∃ i, i < m ∧ a1 = (i : Int) ∧ ¬ (0 ≤ a2 ∧ a2 ≤ 10) ∧ E' = eIAE)
def PR_other (S0 : State) (h : AH) (mo : Nat) (w : Nat → Nat) (c m : Nat) (E : Nat → Nat) (R : Nat → Nat → Nat) (b0 b1 b2 : Int) (a1 a2 : Int) (r : Option Value) (h' : AH) : Prop := Fr (fun a2 => a2 = 120) h h' ∧ ((noM a1 m ∧ (∃ z, r = some (I z)) ∧ RI (zA S0) DRp h' mo 1 c w m E R b0 b1 b2) ∨ ∃ i, i < m ∧ a1 = (i : Int) ∧ ((¬ (0 ≤ a2 ∧ a2 ≤ 10) ∧ (∃ z, r = some (I z)) ∧ RI (zA S0) DRp h' mo 2 c w m E R b0 b1 b2) ∨ ∃ t : Nat, t ≤ 10 ∧ a2 = (t : Int) ∧ r = some (I (othM (R i) (E i) t (2 ^ E i))) ∧ RI (zA S0) DRp h' mo 0 c w m E R b0 b1 b2))
theorem fP_other {h h1 : AH} {xo : Nat} {w : Nat → Nat} {c m : Nat} {E : Nat → Nat} {R : Nat → Nat → Nat} {br bf bs be : Int} {D2 D3 : Nat → Bool} {so : Nat} {a1 a2 : Int} {r : Option Value} (q : PC_other h xo w c m E R br bf bs be D2 D3 so a1 a2 r h1) : Fr HF h h1 := by
  unfold PC_other at q
  obtain ⟨p1, i, s, p2, p3, p4, p5, p6⟩ := q
  rw [p1]; exact Fr.rf
theorem vP_other {h h1 : AH} {xo : Nat} {w : Nat → Nat} {c m : Nat} {E : Nat → Nat} {R : Nat → Nat → Nat} {br bf bs be : Int} {D2 D3 : Nat → Bool} {so : Nat} {a1 a2 : Int} {r : Option Value} (q : PC_other h xo w c m E R br bf bs be D2 D3 so a1 a2 r h1) : ∃ z : Int, r = some (I z) := by
  unfold PC_other at q
  obtain ⟨p1, i, s, p2, p3, p4, p5, p6⟩ := q
  exact ⟨_, p6⟩
theorem fX_other {h h1 : AH} {xo : Nat} {w : Nat → Nat} {c m : Nat} {E : Nat → Nat} {R : Nat → Nat → Nat} {br bf bs be : Int} {D2 D3 : Nat → Bool} {so : Nat} {a1 a2 : Int} {e : String} (q : XC_other h xo w c m E R br bf bs be D2 D3 so a1 a2 e h1) : Fr HF h h1 := by
  unfold XC_other at q
  rcases q with ⟨x1, (⟨x2, x3⟩ | ⟨i, x4, x5, x6, x7⟩)⟩
  · rw [x1]; exact Fr.rf
  · rw [x1]; exact Fr.rf
theorem eX_other {h h1 : AH} {xo : Nat} {w : Nat → Nat} {c m : Nat} {E : Nat → Nat} {R : Nat → Nat → Nat} {br bf bs be : Int} {D2 D3 : Nat → Bool} {so : Nat} {a1 a2 : Int} {e : String} (q : XC_other h xo w c m E R br bf bs be D2 D3 so a1 a2 e h1) : e = eIOO ∨ e = eIAE := by
  unfold XC_other at q
  rcases q with ⟨x1, (⟨x2, x3⟩ | ⟨i, x4, x5, x6, x7⟩)⟩
  · exact Or.inl x3
  · exact Or.inr (x7)
theorem fR_other {S0 : State} {h h1 : AH} {mo : Nat} {w : Nat → Nat} {c m : Nat} {E : Nat → Nat} {R : Nat → Nat → Nat} {b0 b1 b2 : Int} {a1 a2 : Int} {r : Option Value} (q : PR_other S0 h mo w c m E R b0 b1 b2 a1 a2 r h1) : Fr (fun x => 120 ≤ x ∧ x ≤ 139) h h1 := by
  unfold PR_other at q
  exact q.1.mono (fun l z => by omega)
theorem op_other {S0 : State} {h h1 h2 hb : AH} {g : Nat → Int64} {xo mo : Nat} {w : Nat → Nat} {c m : Nat} {E : Nat → Nat} {R : Nat → Nat → Nat} {br bf bs be b0 b1 b2 : Int} {D2 D3 : Nat → Bool} {so kk : Nat} {r2 : Option Value} {a1 a2 : Int} (hI : HI h xo w c m E R br bf bs be D2 D3 so) (hB : BrR br bf bs be b0 b1 b2) (hc : (kk = 0 ∧ ∃ z : Int, PC_other h xo w c m E R br bf bs be D2 D3 so a1 a2 (some (I z)) h1 ∧ g 0 = (Int32.ofInt z).toInt64) ∨ ∃ e : String, [eIOO, eIAE][kk - 1]? = some e ∧ 1 ≤ kk ∧ XC_other h xo w c m E R br bf bs be D2 D3 so a1 a2 e h1) (hr : PR_other S0 hb mo w c m E R b0 b1 b2 a1 a2 r2 h2) : ∃ z2 : Int, r2 = some (I z2) ∧ (kk = 0 → g 0 = (Int32.ofInt z2).toInt64) ∧ kk ≤ 4 ∧ Mg S0 h1 h2 xo mo kk (pC so D2) (pS so D2) := by
  have hM := hI.mtr.2.2.2.2.2.2
  unfold PR_other at hr
  rcases hc with ⟨rfl, z, hp, hg⟩ | ⟨e, he, hk, hp⟩
  · unfold PC_other at hp
    rcases hp with ⟨p1, i, s, p2, p3, p4, p5, p6⟩
    rcases hr with ⟨q1, (⟨q2, ⟨z2, q3⟩, q4⟩ | ⟨i2, q5, q6, (⟨q7, ⟨z2, q8⟩, q9⟩ | ⟨t2, q10, q11, q12, q13⟩)⟩)⟩
    · exfalso
      first | omega | (simp_all)
    · obtain rfl : i = i2 := by omega
      exfalso
      first | omega | (simp_all)
    · subst p1
      obtain rfl : i = i2 := by omega
      obtain rfl : s = t2 := by omega
      refine ⟨_, q12, fun _ => ?_, by decide, ⟨_, _, _, _, _, _, _, _, _, _, _, _, _, _, _, hI, q13, hB, Nat.le_refl _, Nat.le_refl _⟩⟩
      rw [hg, iI p6]
      rw [other_same (hM i (by assumption)) (by assumption)]
  · unfold XC_other at hp
    rcases ex2 he hk with ⟨rfl, rfl⟩ | ⟨rfl, rfl⟩
    · rcases hp with ⟨x1, (⟨x2, x3⟩ | ⟨i, x4, x5, x6, x7⟩)⟩
      · rcases hr with ⟨q1, (⟨q2, ⟨z2, q3⟩, q4⟩ | ⟨i2, q5, q6, (⟨q7, ⟨z2, q8⟩, q9⟩ | ⟨t2, q10, q11, q12, q13⟩)⟩)⟩
        · subst x1
          exact ⟨_, q3, fun q => absurd q (by decide), by decide, ⟨_, _, _, _, _, _, _, _, _, _, _, _, _, _, _, hI, q4, hB, Nat.le_refl _, Nat.le_refl _⟩⟩
        · exfalso
          first | omega | (simp_all)
        · exfalso
          first | omega | (simp_all)
      · exact absurd x7 (by decide)
    · rcases hp with ⟨x1, (⟨x2, x3⟩ | ⟨i, x4, x5, x6, x7⟩)⟩
      · exact absurd x3 (by decide)
      · rcases hr with ⟨q1, (⟨q2, ⟨z2, q3⟩, q4⟩ | ⟨i2, q5, q6, (⟨q7, ⟨z2, q8⟩, q9⟩ | ⟨t2, q10, q11, q12, q13⟩)⟩)⟩
        · exfalso
          first | omega | (simp_all)
        · subst x1
          obtain rfl : i = i2 := by omega
          exact ⟨_, q8, fun q => absurd q (by decide), by decide, ⟨_, _, _, _, _, _, _, _, _, _, _, _, _, _, _, hI, q9, hB, Nat.le_refl _, Nat.le_refl _⟩⟩
        · obtain rfl : i = i2 := by omega
          exfalso
          first | omega | (simp_all)
def PC_count (h : AH) (xo : Nat) (w : Nat → Nat) (c m : Nat) (E : Nat → Nat) (R : Nat → Nat → Nat) (br bf bs be : Int) (D2 D3 : Nat → Bool) (so : Nat) (a1 a2 : Int) (r : Option Value) (h' : AH) : Prop := h' = h ∧ ∃ i t : Nat, i < m ∧ a1 = (i : Int) ∧ sortOf a2 = some t ∧ r = some (I (cnt (fun s => sortN (R i) (E i) s &&& t != 0) (2 ^ E i) : Nat))
def XC_count (h : AH) (xo : Nat) (w : Nat → Nat) (c m : Nat) (E : Nat → Nat) (R : Nat → Nat → Nat) (br bf bs be : Int) (D2 D3 : Nat → Bool) (so : Nat) (a1 a2 : Int) (E' : String) (h' : AH) : Prop := h' = h ∧ ((noM a1 m ∧ E' = eIOO) ∨ ∃ i, i < m ∧ a1 = (i : Int) ∧ sortOf a2 = none ∧ E' = eIAE)
def PR_count (S0 : State) (h : AH) (mo : Nat) (w : Nat → Nat) (c m : Nat) (E : Nat → Nat) (R : Nat → Nat → Nat) (b0 b1 b2 : Int) (a1 a2 : Int) (r : Option Value) (h' : AH) : Prop := Fr (fun x => x = 120) h h' ∧ ((noM a1 m ∧ (∃ z, r = some (I z)) ∧ RI (zA S0) DRp h' mo 1 c w m E R b0 b1 b2) ∨ ∃ i, i < m ∧ a1 = (i : Int) ∧ ((¬ srtC a2 ∧ (∃ z, r = some (I z)) ∧ RI (zA S0) DRp h' mo 2 c w m E R b0 b1 b2) ∨ (srtC a2 ∧ r = some (I (cnt (isB (R i) (E i) a2) (2 ^ E i) : Nat)) ∧ RI (zA S0) DRp h' mo 0 c w m E R b0 b1 b2)))
theorem fP_count {h h1 : AH} {xo : Nat} {w : Nat → Nat} {c m : Nat} {E : Nat → Nat} {R : Nat → Nat → Nat} {br bf bs be : Int} {D2 D3 : Nat → Bool} {so : Nat} {a1 a2 : Int} {r : Option Value} (q : PC_count h xo w c m E R br bf bs be D2 D3 so a1 a2 r h1) : Fr HF h h1 := by
  unfold PC_count at q
  obtain ⟨p1, i, t, p2, p3, p4, p5⟩ := q
  rw [p1]; exact Fr.rf
theorem vP_count {h h1 : AH} {xo : Nat} {w : Nat → Nat} {c m : Nat} {E : Nat → Nat} {R : Nat → Nat → Nat} {br bf bs be : Int} {D2 D3 : Nat → Bool} {so : Nat} {a1 a2 : Int} {r : Option Value} (q : PC_count h xo w c m E R br bf bs be D2 D3 so a1 a2 r h1) : ∃ z : Int, r = some (I z) := by
  unfold PC_count at q
  obtain ⟨p1, i, t, p2, p3, p4, p5⟩ := q
  exact ⟨_, p5⟩
theorem fX_count {h h1 : AH} {xo : Nat} {w : Nat → Nat} {c m : Nat} {E : Nat → Nat} {R : Nat → Nat → Nat} {br bf bs be : Int} {D2 D3 : Nat → Bool} {so : Nat} {a1 a2 : Int} {e : String} (q : XC_count h xo w c m E R br bf bs be D2 D3 so a1 a2 e h1) : Fr HF h h1 := by
  unfold XC_count at q
  rcases q with ⟨x1, (⟨x2, x3⟩ | ⟨i, x4, x5, x6, x7⟩)⟩
  · rw [x1]; exact Fr.rf
  · rw [x1]; exact Fr.rf
theorem eX_count {h h1 : AH} {xo : Nat} {w : Nat → Nat} {c m : Nat} {E : Nat → Nat} {R : Nat → Nat → Nat} {br bf bs be : Int} {D2 D3 : Nat → Bool} {so : Nat} {a1 a2 : Int} {e : String} (q : XC_count h xo w c m E R br bf bs be D2 D3 so a1 a2 e h1) : e = eIOO ∨ e = eIAE := by
  unfold XC_count at q
  rcases q with ⟨x1, (⟨x2, x3⟩ | ⟨i, x4, x5, x6, x7⟩)⟩
  · exact Or.inl x3
  · exact Or.inr (x7)
theorem fR_count {S0 : State} {h h1 : AH} {mo : Nat} {w : Nat → Nat} {c m : Nat} {E : Nat → Nat} {R : Nat → Nat → Nat} {b0 b1 b2 : Int} {a1 a2 : Int} {r : Option Value} (q : PR_count S0 h mo w c m E R b0 b1 b2 a1 a2 r h1) : Fr (fun x => 120 ≤ x ∧ x ≤ 139) h h1 := by
  unfold PR_count at q
  exact q.1.mono (fun l z => by omega)
theorem op_count {S0 : State} {h h1 h2 hb : AH} {g : Nat → Int64} {xo mo : Nat} {w : Nat → Nat} {c m : Nat} {E : Nat → Nat} {R : Nat → Nat → Nat} {br bf bs be b0 b1 b2 : Int} {D2 D3 : Nat → Bool} {so kk : Nat} {r2 : Option Value} {a1 a2 : Int} (hI : HI h xo w c m E R br bf bs be D2 D3 so) (hB : BrR br bf bs be b0 b1 b2) (hc : (kk = 0 ∧ ∃ z : Int, PC_count h xo w c m E R br bf bs be D2 D3 so a1 a2 (some (I z)) h1 ∧ g 0 = (Int32.ofInt z).toInt64) ∨ ∃ e : String, [eIOO, eIAE][kk - 1]? = some e ∧ 1 ≤ kk ∧ XC_count h xo w c m E R br bf bs be D2 D3 so a1 a2 e h1) (hr : PR_count S0 hb mo w c m E R b0 b1 b2 a1 a2 r2 h2) : ∃ z2 : Int, r2 = some (I z2) ∧ (kk = 0 → g 0 = (Int32.ofInt z2).toInt64) ∧ kk ≤ 4 ∧ Mg S0 h1 h2 xo mo kk (pC so D2) (pS so D2) := by
  have hM := hI.mtr.2.2.2.2.2.2
  unfold PR_count at hr
  rcases hc with ⟨rfl, z, hp, hg⟩ | ⟨e, he, hk, hp⟩
  · unfold PC_count at hp
    rcases hp with ⟨p1, i, t, p2, p3, p4, p5⟩
    rcases hr with ⟨q1, (⟨q2, ⟨z2, q3⟩, q4⟩ | ⟨i2, q5, q6, (⟨q7, ⟨z2, q8⟩, q9⟩ | ⟨q10, q11, q12⟩)⟩)⟩
    · exfalso
      first | omega | (first | exact absurd (srt_some (by assumption)) (by assumption) | exact absurd (by assumption) (srt_none (by assumption)))
    · obtain rfl : i = i2 := by omega
      exfalso
      first | omega | (first | exact absurd (srt_some (by assumption)) (by assumption) | exact absurd (by assumption) (srt_none (by assumption)))
    · subst p1
      obtain rfl : i = i2 := by omega
      refine ⟨_, q11, fun _ => ?_, by decide, ⟨_, _, _, _, _, _, _, _, _, _, _, _, _, _, _, hI, q12, hB, Nat.le_refl _, Nat.le_refl _⟩⟩
      rw [hg, iI p5]
      rw [count_same (hM i (by assumption)) (by assumption)]
  · unfold XC_count at hp
    rcases ex2 he hk with ⟨rfl, rfl⟩ | ⟨rfl, rfl⟩
    · rcases hp with ⟨x1, (⟨x2, x3⟩ | ⟨i, x4, x5, x6, x7⟩)⟩
      · rcases hr with ⟨q1, (⟨q2, ⟨z2, q3⟩, q4⟩ | ⟨i2, q5, q6, (⟨q7, ⟨z2, q8⟩, q9⟩ | ⟨q10, q11, q12⟩)⟩)⟩
        · subst x1
          exact ⟨_, q3, fun q => absurd q (by decide), by decide, ⟨_, _, _, _, _, _, _, _, _, _, _, _, _, _, _, hI, q4, hB, Nat.le_refl _, Nat.le_refl _⟩⟩
        · exfalso
          first | omega | (first | exact absurd (srt_some (by assumption)) (by assumption) | exact absurd (by assumption) (srt_none (by assumption)))
        · exfalso
          first | omega | (first | exact absurd (srt_some (by assumption)) (by assumption) | exact absurd (by assumption) (srt_none (by assumption)))
      · exact absurd x7 (by decide)
    · rcases hp with ⟨x1, (⟨x2, x3⟩ | ⟨i, x4, x5, x6, x7⟩)⟩
      · exact absurd x3 (by decide)
      · rcases hr with ⟨q1, (⟨q2, ⟨z2, q3⟩, q4⟩ | ⟨i2, q5, q6, (⟨q7, ⟨z2, q8⟩, q9⟩ | ⟨q10, q11, q12⟩)⟩)⟩
        · exfalso
          first | omega | (first | exact absurd (srt_some (by assumption)) (by assumption) | exact absurd (by assumption) (srt_none (by assumption)))
        · subst x1
          obtain rfl : i = i2 := by omega
          exact ⟨_, q8, fun q => absurd q (by decide), by decide, ⟨_, _, _, _, _, _, _, _, _, _, _, _, _, _, _, hI, q9, hB, Nat.le_refl _, Nat.le_refl _⟩⟩
        · obtain rfl : i = i2 := by omega
          exfalso
          first | omega | (first | exact absurd (srt_some (by assumption)) (by assumption) | exact absurd (by assumption) (srt_none (by assumption)))
def PC_setAt (h : AH) (xo : Nat) (w : Nat → Nat) (c m : Nat) (E : Nat → Nat) (R : Nat → Nat → Nat) (br bf bs be : Int) (D2 D3 : Nat → Bool) (so : Nat) (a1 a2 a3 : Int) (r : Option Value) (h' : AH) : Prop := h' = h ∧ ∃ i t : Nat, i < m ∧ a1 = (i : Int) ∧ sortOf a2 = some t ∧ 0 ≤ nth (fun s => sortN (R i) (E i) s &&& t != 0) (2 ^ E i) a3 ∧ r = some (I (nth (fun s => sortN (R i) (E i) s &&& t != 0) (2 ^ E i) a3))
def XC_setAt (h : AH) (xo : Nat) (w : Nat → Nat) (c m : Nat) (E : Nat → Nat) (R : Nat → Nat → Nat) (br bf bs be : Int) (D2 D3 : Nat → Bool) (so : Nat) (a1 a2 a3 : Int) (E' : String) (h' : AH) : Prop := h' = h ∧ ((noM a1 m ∧ E' = eIOO) ∨ ∃ i, i < m ∧ a1 = (i : Int) ∧ ((sortOf a2 = none ∧ E' = eIAE) ∨ ∃ t, sortOf a2 = some t ∧ nth (fun s => sortN (R i) (E i) s &&& t != 0) (2 ^ E i) a3 < 0 ∧ E' = eNSE))
def PR_setAt (S0 : State) (h : AH) (mo : Nat) (w : Nat → Nat) (c m : Nat) (E : Nat → Nat) (R : Nat → Nat → Nat) (b0 b1 b2 : Int) (a1 a2 a3 : Int) (r : Option Value) (h' : AH) : Prop := Fr (fun x => x = 120) h h' ∧ ((noM a1 m ∧ (∃ z, r = some (I z)) ∧ RI (zA S0) DRp h' mo 1 c w m E R b0 b1 b2) ∨ ∃ i, i < m ∧ a1 = (i : Int) ∧ ((¬ srtC a2 ∧ (∃ z, r = some (I z)) ∧ RI (zA S0) DRp h' mo 2 c w m E R b0 b1 b2) ∨ (srtC a2 ∧ ((∃ z : Nat, z < 2 ^ E i ∧ isB (R i) (E i) a2 z = true ∧ ((cnt (isB (R i) (E i) a2) z : Nat) : Int) = a3 ∧ r = some (I (z : Int)) ∧ RI (zA S0) DRp h' mo 0 c w m E R b0 b1 b2) ∨ ((0 ≤ a3 → ∀ z : Nat, z < 2 ^ E i → isB (R i) (E i) a2 z = true → ((cnt (isB (R i) (E i) a2) z : Nat) : Int) = a3 → False) ∧ (∃ z, r = some (I z)) ∧ RI (zA S0) DRp h' mo 3 c w m E R b0 b1 b2)))))
theorem fP_setAt {h h1 : AH} {xo : Nat} {w : Nat → Nat} {c m : Nat} {E : Nat → Nat} {R : Nat → Nat → Nat} {br bf bs be : Int} {D2 D3 : Nat → Bool} {so : Nat} {a1 a2 a3 : Int} {r : Option Value} (q : PC_setAt h xo w c m E R br bf bs be D2 D3 so a1 a2 a3 r h1) : Fr HF h h1 := by
  unfold PC_setAt at q
  obtain ⟨p1, i, t, p2, p3, p4, p5, p6⟩ := q
  rw [p1]; exact Fr.rf
theorem vP_setAt {h h1 : AH} {xo : Nat} {w : Nat → Nat} {c m : Nat} {E : Nat → Nat} {R : Nat → Nat → Nat} {br bf bs be : Int} {D2 D3 : Nat → Bool} {so : Nat} {a1 a2 a3 : Int} {r : Option Value} (q : PC_setAt h xo w c m E R br bf bs be D2 D3 so a1 a2 a3 r h1) : ∃ z : Int, r = some (I z) := by
  unfold PC_setAt at q
  obtain ⟨p1, i, t, p2, p3, p4, p5, p6⟩ := q
  exact ⟨_, p6⟩
theorem fX_setAt {h h1 : AH} {xo : Nat} {w : Nat → Nat} {c m : Nat} {E : Nat → Nat} {R : Nat → Nat → Nat} {br bf bs be : Int} {D2 D3 : Nat → Bool} {so : Nat} {a1 a2 a3 : Int} {e : String} (q : XC_setAt h xo w c m E R br bf bs be D2 D3 so a1 a2 a3 e h1) : Fr HF h h1 := by
  unfold XC_setAt at q
  rcases q with ⟨x1, (⟨x2, x3⟩ | ⟨i, x4, x5, (⟨x6, x7⟩ | ⟨t, x8, x9, x10⟩)⟩)⟩
  · rw [x1]; exact Fr.rf
  · rw [x1]; exact Fr.rf
  · rw [x1]; exact Fr.rf
theorem eX_setAt {h h1 : AH} {xo : Nat} {w : Nat → Nat} {c m : Nat} {E : Nat → Nat} {R : Nat → Nat → Nat} {br bf bs be : Int} {D2 D3 : Nat → Bool} {so : Nat} {a1 a2 a3 : Int} {e : String} (q : XC_setAt h xo w c m E R br bf bs be D2 D3 so a1 a2 a3 e h1) : e = eIOO ∨ e = eIAE ∨ e = eNSE := by
  unfold XC_setAt at q
  rcases q with ⟨x1, (⟨x2, x3⟩ | ⟨i, x4, x5, (⟨x6, x7⟩ | ⟨t, x8, x9, x10⟩)⟩)⟩
  · exact Or.inl x3
  · exact Or.inr (Or.inl x7)
  · exact Or.inr (Or.inr (x10))
theorem fR_setAt {S0 : State} {h h1 : AH} {mo : Nat} {w : Nat → Nat} {c m : Nat} {E : Nat → Nat} {R : Nat → Nat → Nat} {b0 b1 b2 : Int} {a1 a2 a3 : Int} {r : Option Value} (q : PR_setAt S0 h mo w c m E R b0 b1 b2 a1 a2 a3 r h1) : Fr (fun x => 120 ≤ x ∧ x ≤ 139) h h1 := by
  unfold PR_setAt at q
  exact q.1.mono (fun l z => by omega)
theorem op_setAt {S0 : State} {h h1 h2 hb : AH} {g : Nat → Int64} {xo mo : Nat} {w : Nat → Nat} {c m : Nat} {E : Nat → Nat} {R : Nat → Nat → Nat} {br bf bs be b0 b1 b2 : Int} {D2 D3 : Nat → Bool} {so kk : Nat} {r2 : Option Value} {a1 a2 a3 : Int} (hI : HI h xo w c m E R br bf bs be D2 D3 so) (hB : BrR br bf bs be b0 b1 b2) (hc : (kk = 0 ∧ ∃ z : Int, PC_setAt h xo w c m E R br bf bs be D2 D3 so a1 a2 a3 (some (I z)) h1 ∧ g 0 = (Int32.ofInt z).toInt64) ∨ ∃ e : String, [eIOO, eIAE, eNSE][kk - 1]? = some e ∧ 1 ≤ kk ∧ XC_setAt h xo w c m E R br bf bs be D2 D3 so a1 a2 a3 e h1) (hr : PR_setAt S0 hb mo w c m E R b0 b1 b2 a1 a2 a3 r2 h2) : ∃ z2 : Int, r2 = some (I z2) ∧ (kk = 0 → g 0 = (Int32.ofInt z2).toInt64) ∧ kk ≤ 4 ∧ Mg S0 h1 h2 xo mo kk (pC so D2) (pS so D2) := by
  have hM := hI.mtr.2.2.2.2.2.2
  unfold PR_setAt at hr
  rcases hc with ⟨rfl, z, hp, hg⟩ | ⟨e, he, hk, hp⟩
  · unfold PC_setAt at hp
    rcases hp with ⟨p1, i, t, p2, p3, p4, p5, p6⟩
    rcases hr with ⟨q1, (⟨q2, ⟨z2, q3⟩, q4⟩ | ⟨i2, q5, q6, (⟨q7, ⟨z2, q8⟩, q9⟩ | ⟨q10, (⟨z2, q11, q12, q13, q14, q15⟩ | ⟨q16, ⟨z2, q17⟩, q18⟩)⟩)⟩)⟩
    · exfalso
      first | omega | (first | exact absurd (srt_some (by assumption)) (by assumption) | exact absurd (by assumption) (srt_none (by assumption)) | (have zz := setAt_none (hM i (by assumption)) (by assumption) (by assumption); omega) | (have zz := setAt_same (hM i (by assumption)) (by assumption) (by assumption) (by assumption) (by assumption); omega))
    · obtain rfl : i = i2 := by omega
      exfalso
      first | omega | (first | exact absurd (srt_some (by assumption)) (by assumption) | exact absurd (by assumption) (srt_none (by assumption)) | (have zz := setAt_none (hM i (by assumption)) (by assumption) (by assumption); omega) | (have zz := setAt_same (hM i (by assumption)) (by assumption) (by assumption) (by assumption) (by assumption); omega))
    · subst p1
      obtain rfl : i = i2 := by omega
      refine ⟨_, q14, fun _ => ?_, by decide, ⟨_, _, _, _, _, _, _, _, _, _, _, _, _, _, _, hI, q15, hB, Nat.le_refl _, Nat.le_refl _⟩⟩
      rw [hg, iI p6]
      rw [setAt_same (hM i (by assumption)) (by assumption) (by assumption) (by assumption) (by assumption)]
    · obtain rfl : i = i2 := by omega
      exfalso
      first | omega | (first | exact absurd (srt_some (by assumption)) (by assumption) | exact absurd (by assumption) (srt_none (by assumption)) | (have zz := setAt_none (hM i (by assumption)) (by assumption) (by assumption); omega) | (have zz := setAt_same (hM i (by assumption)) (by assumption) (by assumption) (by assumption) (by assumption); omega))
  · unfold XC_setAt at hp
    rcases ex3 he hk with ⟨rfl, rfl⟩ | ⟨rfl, rfl⟩ | ⟨rfl, rfl⟩
    · rcases hp with ⟨x1, (⟨x2, x3⟩ | ⟨i, x4, x5, (⟨x6, x7⟩ | ⟨t, x8, x9, x10⟩)⟩)⟩
      · rcases hr with ⟨q1, (⟨q2, ⟨z2, q3⟩, q4⟩ | ⟨i2, q5, q6, (⟨q7, ⟨z2, q8⟩, q9⟩ | ⟨q10, (⟨z2, q11, q12, q13, q14, q15⟩ | ⟨q16, ⟨z2, q17⟩, q18⟩)⟩)⟩)⟩
        · subst x1
          exact ⟨_, q3, fun q => absurd q (by decide), by decide, ⟨_, _, _, _, _, _, _, _, _, _, _, _, _, _, _, hI, q4, hB, Nat.le_refl _, Nat.le_refl _⟩⟩
        · exfalso
          first | omega | (first | exact absurd (srt_some (by assumption)) (by assumption) | exact absurd (by assumption) (srt_none (by assumption)) | (have zz := setAt_none (hM i (by assumption)) (by assumption) (by assumption); omega) | (have zz := setAt_same (hM i (by assumption)) (by assumption) (by assumption) (by assumption) (by assumption); omega))
        · exfalso
          first | omega | (first | exact absurd (srt_some (by assumption)) (by assumption) | exact absurd (by assumption) (srt_none (by assumption)) | (have zz := setAt_none (hM i (by assumption)) (by assumption) (by assumption); omega) | (have zz := setAt_same (hM i (by assumption)) (by assumption) (by assumption) (by assumption) (by assumption); omega))
        · exfalso
          first | omega | (first | exact absurd (srt_some (by assumption)) (by assumption) | exact absurd (by assumption) (srt_none (by assumption)) | (have zz := setAt_none (hM i (by assumption)) (by assumption) (by assumption); omega) | (have zz := setAt_same (hM i (by assumption)) (by assumption) (by assumption) (by assumption) (by assumption); omega))
      · exact absurd x7 (by decide)
      · exact absurd x10 (by decide)
    · rcases hp with ⟨x1, (⟨x2, x3⟩ | ⟨i, x4, x5, (⟨x6, x7⟩ | ⟨t, x8, x9, x10⟩)⟩)⟩
      · exact absurd x3 (by decide)
      · rcases hr with ⟨q1, (⟨q2, ⟨z2, q3⟩, q4⟩ | ⟨i2, q5, q6, (⟨q7, ⟨z2, q8⟩, q9⟩ | ⟨q10, (⟨z2, q11, q12, q13, q14, q15⟩ | ⟨q16, ⟨z2, q17⟩, q18⟩)⟩)⟩)⟩
        · exfalso
          first | omega | (first | exact absurd (srt_some (by assumption)) (by assumption) | exact absurd (by assumption) (srt_none (by assumption)) | (have zz := setAt_none (hM i (by assumption)) (by assumption) (by assumption); omega) | (have zz := setAt_same (hM i (by assumption)) (by assumption) (by assumption) (by assumption) (by assumption); omega))
        · subst x1
          obtain rfl : i = i2 := by omega
          exact ⟨_, q8, fun q => absurd q (by decide), by decide, ⟨_, _, _, _, _, _, _, _, _, _, _, _, _, _, _, hI, q9, hB, Nat.le_refl _, Nat.le_refl _⟩⟩
        · obtain rfl : i = i2 := by omega
          exfalso
          first | omega | (first | exact absurd (srt_some (by assumption)) (by assumption) | exact absurd (by assumption) (srt_none (by assumption)) | (have zz := setAt_none (hM i (by assumption)) (by assumption) (by assumption); omega) | (have zz := setAt_same (hM i (by assumption)) (by assumption) (by assumption) (by assumption) (by assumption); omega))
        · obtain rfl : i = i2 := by omega
          exfalso
          first | omega | (first | exact absurd (srt_some (by assumption)) (by assumption) | exact absurd (by assumption) (srt_none (by assumption)) | (have zz := setAt_none (hM i (by assumption)) (by assumption) (by assumption); omega) | (have zz := setAt_same (hM i (by assumption)) (by assumption) (by assumption) (by assumption) (by assumption); omega))
      · exact absurd x10 (by decide)
    · rcases hp with ⟨x1, (⟨x2, x3⟩ | ⟨i, x4, x5, (⟨x6, x7⟩ | ⟨t, x8, x9, x10⟩)⟩)⟩
      · exact absurd x3 (by decide)
      · exact absurd x7 (by decide)
      · rcases hr with ⟨q1, (⟨q2, ⟨z2, q3⟩, q4⟩ | ⟨i2, q5, q6, (⟨q7, ⟨z2, q8⟩, q9⟩ | ⟨q10, (⟨z2, q11, q12, q13, q14, q15⟩ | ⟨q16, ⟨z2, q17⟩, q18⟩)⟩)⟩)⟩
        · exfalso
          first | omega | (first | exact absurd (srt_some (by assumption)) (by assumption) | exact absurd (by assumption) (srt_none (by assumption)) | (have zz := setAt_none (hM i (by assumption)) (by assumption) (by assumption); omega) | (have zz := setAt_same (hM i (by assumption)) (by assumption) (by assumption) (by assumption) (by assumption); omega))
        · obtain rfl : i = i2 := by omega
          exfalso
          first | omega | (first | exact absurd (srt_some (by assumption)) (by assumption) | exact absurd (by assumption) (srt_none (by assumption)) | (have zz := setAt_none (hM i (by assumption)) (by assumption) (by assumption); omega) | (have zz := setAt_same (hM i (by assumption)) (by assumption) (by assumption) (by assumption) (by assumption); omega))
        · obtain rfl : i = i2 := by omega
          exfalso
          first | omega | (first | exact absurd (srt_some (by assumption)) (by assumption) | exact absurd (by assumption) (srt_none (by assumption)) | (have zz := setAt_none (hM i (by assumption)) (by assumption) (by assumption); omega) | (have zz := setAt_same (hM i (by assumption)) (by assumption) (by assumption) (by assumption) (by assumption); omega))
        · subst x1
          obtain rfl : i = i2 := by omega
          exact ⟨_, q17, fun q => absurd q (by decide), by decide, ⟨_, _, _, _, _, _, _, _, _, _, _, _, _, _, _, hI, q18, hB, Nat.le_refl _, Nat.le_refl _⟩⟩
def PC_circuitWith (h : AH) (xo : Nat) (w : Nat → Nat) (c m : Nat) (E : Nat → Nat) (R : Nat → Nat → Nat) (br bf bs be : Int) (D2 D3 : Nat → Bool) (so : Nat) (a1 a2 a3 : Int) (r : Option Value) (h' : AH) : Prop := h' = h ∧ ∃ i t k : Nat, i < m ∧ a1 = (i : Int) ∧ t < 2 ^ E i ∧ a2 = (t : Int) ∧ k < E i ∧ a3 = (k : Int) ∧ (sortN (R i) (E i) t &&& 2 != 0) = true ∧ t.testBit k = false ∧ r = some (I (cirN (sortN (R i) (E i)) (E i) t k : Nat))
def XC_circuitWith (h : AH) (xo : Nat) (w : Nat → Nat) (c m : Nat) (E : Nat → Nat) (R : Nat → Nat → Nat) (br bf bs be : Int) (D2 D3 : Nat → Bool) (so : Nat) (a1 a2 a3 : Int) (E' : String) (h' : AH) : Prop := h' = h ∧ ((noM a1 m ∧ E' = eIOO) ∨ ∃ i, i < m ∧ a1 = (i : Int) ∧ ((¬ (0 ≤ a3 ∧ a3 < ((E i : Nat) : Int)) ∧ E' = eIOO) ∨ ∃ k : Nat, k < E i ∧ a3 = (k : Int) ∧ ((¬ (0 ≤ a2 ∧ a2 < ((2 ^ E i : Nat) : Int) ∧ sortN (R i) (E i) a2.toNat &&& 2 ≠ 0) ∧ E' = eUOE) ∨ ∃ t : Nat, t < 2 ^ E i ∧ a2 = (t : Int) ∧ (sortN (R i) (E i) t &&& 2 != 0) = true ∧ t.testBit k = true ∧ E' = eNSE)))
def PR_circuitWith (S0 : State) (h : AH) (mo : Nat) (w : Nat → Nat) (c m : Nat) (E : Nat → Nat) (R : Nat → Nat → Nat) (b0 b1 b2 : Int) (a1 a2 a3 : Int) (r : Option Value) (h' : AH) : Prop := Fr (fun x => x = 120) h h' ∧ (((noM a1 m ∨ ∃ i, i < m ∧ a1 = (i : Int) ∧ ¬ (0 ≤ a3 ∧ a3 < ((E i : Nat) : Int))) ∧ (∃ z, r = some (I z)) ∧ RI (zA S0) DRp h' mo 1 c w m E R b0 b1 b2) ∨ ∃ i k : Nat, i < m ∧ a1 = (i : Int) ∧ k < E i ∧ a3 = (k : Int) ∧ (((¬ (0 ≤ a2 ∧ a2 < ((2 ^ E i : Nat) : Int)) ∨ ∃ t : Nat, a2 = (t : Int) ∧ t < 2 ^ E i ∧ bsB (R i) (E i) t = false) ∧ (∃ z, r = some (I z)) ∧ RI (zA S0) DRp h' mo 2 c w m E R b0 b1 b2) ∨ ∃ t : Nat, a2 = (t : Int) ∧ t < 2 ^ E i ∧ bsB (R i) (E i) t = true ∧ ((t.testBit k = true ∧ (∃ z, r = some (I z)) ∧ RI (zA S0) DRp h' mo 3 c w m E R b0 b1 b2) ∨ (t.testBit k = false ∧ r = some (I (cwM (R i) (E i) t k (E i) : Nat)) ∧ RI (zA S0) DRp h' mo 0 c w m E R b0 b1 b2))))
theorem fP_circuitWith {h h1 : AH} {xo : Nat} {w : Nat → Nat} {c m : Nat} {E : Nat → Nat} {R : Nat → Nat → Nat} {br bf bs be : Int} {D2 D3 : Nat → Bool} {so : Nat} {a1 a2 a3 : Int} {r : Option Value} (q : PC_circuitWith h xo w c m E R br bf bs be D2 D3 so a1 a2 a3 r h1) : Fr HF h h1 := by
  unfold PC_circuitWith at q
  obtain ⟨p1, i, t, k, p2, p3, p4, p5, p6, p7, p8, p9, p10⟩ := q
  rw [p1]; exact Fr.rf
theorem vP_circuitWith {h h1 : AH} {xo : Nat} {w : Nat → Nat} {c m : Nat} {E : Nat → Nat} {R : Nat → Nat → Nat} {br bf bs be : Int} {D2 D3 : Nat → Bool} {so : Nat} {a1 a2 a3 : Int} {r : Option Value} (q : PC_circuitWith h xo w c m E R br bf bs be D2 D3 so a1 a2 a3 r h1) : ∃ z : Int, r = some (I z) := by
  unfold PC_circuitWith at q
  obtain ⟨p1, i, t, k, p2, p3, p4, p5, p6, p7, p8, p9, p10⟩ := q
  exact ⟨_, p10⟩
theorem fX_circuitWith {h h1 : AH} {xo : Nat} {w : Nat → Nat} {c m : Nat} {E : Nat → Nat} {R : Nat → Nat → Nat} {br bf bs be : Int} {D2 D3 : Nat → Bool} {so : Nat} {a1 a2 a3 : Int} {e : String} (q : XC_circuitWith h xo w c m E R br bf bs be D2 D3 so a1 a2 a3 e h1) : Fr HF h h1 := by
  unfold XC_circuitWith at q
  rcases q with ⟨x1, (⟨x2, x3⟩ | ⟨i, x4, x5, (⟨x6, x7⟩ | ⟨k, x8, x9, (⟨x10, x11⟩ | ⟨t, x12, x13, x14, x15, x16⟩)⟩)⟩)⟩
  · rw [x1]; exact Fr.rf
  · rw [x1]; exact Fr.rf
  · rw [x1]; exact Fr.rf
  · rw [x1]; exact Fr.rf
theorem eX_circuitWith {h h1 : AH} {xo : Nat} {w : Nat → Nat} {c m : Nat} {E : Nat → Nat} {R : Nat → Nat → Nat} {br bf bs be : Int} {D2 D3 : Nat → Bool} {so : Nat} {a1 a2 a3 : Int} {e : String} (q : XC_circuitWith h xo w c m E R br bf bs be D2 D3 so a1 a2 a3 e h1) : e = eIOO ∨ e = eUOE ∨ e = eNSE := by
  unfold XC_circuitWith at q
  rcases q with ⟨x1, (⟨x2, x3⟩ | ⟨i, x4, x5, (⟨x6, x7⟩ | ⟨k, x8, x9, (⟨x10, x11⟩ | ⟨t, x12, x13, x14, x15, x16⟩)⟩)⟩)⟩
  · exact Or.inl x3
  · exact Or.inl x7
  · exact Or.inr (Or.inl x11)
  · exact Or.inr (Or.inr (x16))
theorem fR_circuitWith {S0 : State} {h h1 : AH} {mo : Nat} {w : Nat → Nat} {c m : Nat} {E : Nat → Nat} {R : Nat → Nat → Nat} {b0 b1 b2 : Int} {a1 a2 a3 : Int} {r : Option Value} (q : PR_circuitWith S0 h mo w c m E R b0 b1 b2 a1 a2 a3 r h1) : Fr (fun x => 120 ≤ x ∧ x ≤ 139) h h1 := by
  unfold PR_circuitWith at q
  exact q.1.mono (fun l z => by omega)
theorem op_circuitWith {S0 : State} {h h1 h2 hb : AH} {g : Nat → Int64} {xo mo : Nat} {w : Nat → Nat} {c m : Nat} {E : Nat → Nat} {R : Nat → Nat → Nat} {br bf bs be b0 b1 b2 : Int} {D2 D3 : Nat → Bool} {so kk : Nat} {r2 : Option Value} {a1 a2 a3 : Int} (hI : HI h xo w c m E R br bf bs be D2 D3 so) (hB : BrR br bf bs be b0 b1 b2) (hc : (kk = 0 ∧ ∃ z : Int, PC_circuitWith h xo w c m E R br bf bs be D2 D3 so a1 a2 a3 (some (I z)) h1 ∧ g 0 = (Int32.ofInt z).toInt64) ∨ ∃ e : String, [eIOO, eUOE, eNSE][kk - 1]? = some e ∧ 1 ≤ kk ∧ XC_circuitWith h xo w c m E R br bf bs be D2 D3 so a1 a2 a3 e h1) (hr : PR_circuitWith S0 hb mo w c m E R b0 b1 b2 a1 a2 a3 r2 h2) : ∃ z2 : Int, r2 = some (I z2) ∧ (kk = 0 → g 0 = (Int32.ofInt z2).toInt64) ∧ kk ≤ 4 ∧ Mg S0 h1 h2 xo mo kk (pC so D2) (pS so D2) := by
  have hM := hI.mtr.2.2.2.2.2.2
  unfold PR_circuitWith at hr
  rcases hc with ⟨rfl, z, hp, hg⟩ | ⟨e, he, hk, hp⟩
  · unfold PC_circuitWith at hp
    rcases hp with ⟨p1, i, t, k, p2, p3, p4, p5, p6, p7, p8, p9, p10⟩
    rcases hr with ⟨q1, (⟨(q2 | ⟨i2, q3, q4, q5⟩), ⟨z2, q6⟩, q7⟩ | ⟨i2, k2, q8, q9, q10, q11, (⟨(q12 | ⟨t2, q13, q14, q15⟩), ⟨z2, q16⟩, q17⟩ | ⟨t2, q18, q19, q20, (⟨q21, ⟨z2, q22⟩, q23⟩ | ⟨q24, q25, q26⟩)⟩)⟩)⟩
    · exfalso
      first | omega | (first | (have zz := cw_yes (by assumption); simp_all; done) | (have zz := cw_no (by assumption) (by assumption) (by assumption); simp_all; done) | (simp_all; done))
    · obtain rfl : i = i2 := by omega
      exfalso
      first | omega | (first | (have zz := cw_yes (by assumption); simp_all; done) | (have zz := cw_no (by assumption) (by assumption) (by assumption); simp_all; done) | (simp_all; done))
    · obtain rfl : i = i2 := by omega
      obtain rfl : k = k2 := by omega
      exfalso
      first | omega | (first | (have zz := cw_yes (by assumption); simp_all; done) | (have zz := cw_no (by assumption) (by assumption) (by assumption); simp_all; done) | (simp_all; done))
    · obtain rfl : i = i2 := by omega
      obtain rfl : k = k2 := by omega
      obtain rfl : t = t2 := by omega
      exfalso
      first | omega | (first | (have zz := cw_yes (by assumption); simp_all; done) | (have zz := cw_no (by assumption) (by assumption) (by assumption); simp_all; done) | (simp_all; done))
    · obtain rfl : i = i2 := by omega
      obtain rfl : k = k2 := by omega
      obtain rfl : t = t2 := by omega
      exfalso
      first | omega | (first | (have zz := cw_yes (by assumption); simp_all; done) | (have zz := cw_no (by assumption) (by assumption) (by assumption); simp_all; done) | (simp_all; done))
    · subst p1
      obtain rfl : i = i2 := by omega
      obtain rfl : k = k2 := by omega
      obtain rfl : t = t2 := by omega
      refine ⟨_, q25, fun _ => ?_, by decide, ⟨_, _, _, _, _, _, _, _, _, _, _, _, _, _, _, hI, q26, hB, Nat.le_refl _, Nat.le_refl _⟩⟩
      rw [hg, iI p10]
      rw [cir_same]
  · unfold XC_circuitWith at hp
    rcases ex3 he hk with ⟨rfl, rfl⟩ | ⟨rfl, rfl⟩ | ⟨rfl, rfl⟩
    · rcases hp with ⟨x1, (⟨x2, x3⟩ | ⟨i, x4, x5, (⟨x6, x7⟩ | ⟨k, x8, x9, (⟨x10, x11⟩ | ⟨t, x12, x13, x14, x15, x16⟩)⟩)⟩)⟩
      · rcases hr with ⟨q1, (⟨(q2 | ⟨i2, q3, q4, q5⟩), ⟨z2, q6⟩, q7⟩ | ⟨i2, k2, q8, q9, q10, q11, (⟨(q12 | ⟨t2, q13, q14, q15⟩), ⟨z2, q16⟩, q17⟩ | ⟨t2, q18, q19, q20, (⟨q21, ⟨z2, q22⟩, q23⟩ | ⟨q24, q25, q26⟩)⟩)⟩)⟩
        · subst x1
          exact ⟨_, q6, fun q => absurd q (by decide), by decide, ⟨_, _, _, _, _, _, _, _, _, _, _, _, _, _, _, hI, q7, hB, Nat.le_refl _, Nat.le_refl _⟩⟩
        · subst x1
          exact ⟨_, q6, fun q => absurd q (by decide), by decide, ⟨_, _, _, _, _, _, _, _, _, _, _, _, _, _, _, hI, q7, hB, Nat.le_refl _, Nat.le_refl _⟩⟩
        · exfalso
          first | omega | (first | (have zz := cw_yes (by assumption); simp_all; done) | (have zz := cw_no (by assumption) (by assumption) (by assumption); simp_all; done) | (simp_all; done))
        · exfalso
          first | omega | (first | (have zz := cw_yes (by assumption); simp_all; done) | (have zz := cw_no (by assumption) (by assumption) (by assumption); simp_all; done) | (simp_all; done))
        · exfalso
          first | omega | (first | (have zz := cw_yes (by assumption); simp_all; done) | (have zz := cw_no (by assumption) (by assumption) (by assumption); simp_all; done) | (simp_all; done))
        · exfalso
          first | omega | (first | (have zz := cw_yes (by assumption); simp_all; done) | (have zz := cw_no (by assumption) (by assumption) (by assumption); simp_all; done) | (simp_all; done))
      · rcases hr with ⟨q1, (⟨(q2 | ⟨i2, q3, q4, q5⟩), ⟨z2, q6⟩, q7⟩ | ⟨i2, k2, q8, q9, q10, q11, (⟨(q12 | ⟨t2, q13, q14, q15⟩), ⟨z2, q16⟩, q17⟩ | ⟨t2, q18, q19, q20, (⟨q21, ⟨z2, q22⟩, q23⟩ | ⟨q24, q25, q26⟩)⟩)⟩)⟩
        · subst x1
          exact ⟨_, q6, fun q => absurd q (by decide), by decide, ⟨_, _, _, _, _, _, _, _, _, _, _, _, _, _, _, hI, q7, hB, Nat.le_refl _, Nat.le_refl _⟩⟩
        · subst x1
          obtain rfl : i = i2 := by omega
          exact ⟨_, q6, fun q => absurd q (by decide), by decide, ⟨_, _, _, _, _, _, _, _, _, _, _, _, _, _, _, hI, q7, hB, Nat.le_refl _, Nat.le_refl _⟩⟩
        · obtain rfl : i = i2 := by omega
          exfalso
          first | omega | (first | (have zz := cw_yes (by assumption); simp_all; done) | (have zz := cw_no (by assumption) (by assumption) (by assumption); simp_all; done) | (simp_all; done))
        · obtain rfl : i = i2 := by omega
          exfalso
          first | omega | (first | (have zz := cw_yes (by assumption); simp_all; done) | (have zz := cw_no (by assumption) (by assumption) (by assumption); simp_all; done) | (simp_all; done))
        · obtain rfl : i = i2 := by omega
          exfalso
          first | omega | (first | (have zz := cw_yes (by assumption); simp_all; done) | (have zz := cw_no (by assumption) (by assumption) (by assumption); simp_all; done) | (simp_all; done))
        · obtain rfl : i = i2 := by omega
          exfalso
          first | omega | (first | (have zz := cw_yes (by assumption); simp_all; done) | (have zz := cw_no (by assumption) (by assumption) (by assumption); simp_all; done) | (simp_all; done))
      · exact absurd x11 (by decide)
      · exact absurd x16 (by decide)
    · rcases hp with ⟨x1, (⟨x2, x3⟩ | ⟨i, x4, x5, (⟨x6, x7⟩ | ⟨k, x8, x9, (⟨x10, x11⟩ | ⟨t, x12, x13, x14, x15, x16⟩)⟩)⟩)⟩
      · exact absurd x3 (by decide)
      · exact absurd x7 (by decide)
      · rcases hr with ⟨q1, (⟨(q2 | ⟨i2, q3, q4, q5⟩), ⟨z2, q6⟩, q7⟩ | ⟨i2, k2, q8, q9, q10, q11, (⟨(q12 | ⟨t2, q13, q14, q15⟩), ⟨z2, q16⟩, q17⟩ | ⟨t2, q18, q19, q20, (⟨q21, ⟨z2, q22⟩, q23⟩ | ⟨q24, q25, q26⟩)⟩)⟩)⟩
        · exfalso
          first | omega | (first | (have zz := cw_yes (by assumption); simp_all; done) | (have zz := cw_no (by assumption) (by assumption) (by assumption); simp_all; done) | (simp_all; done))
        · obtain rfl : i = i2 := by omega
          exfalso
          first | omega | (first | (have zz := cw_yes (by assumption); simp_all; done) | (have zz := cw_no (by assumption) (by assumption) (by assumption); simp_all; done) | (simp_all; done))
        · subst x1
          obtain rfl : i = i2 := by omega
          obtain rfl : k = k2 := by omega
          exact ⟨_, q16, fun q => absurd q (by decide), by decide, ⟨_, _, _, _, _, _, _, _, _, _, _, _, _, _, _, hI, q17, hB, Nat.le_refl _, Nat.le_refl _⟩⟩
        · subst x1
          obtain rfl : i = i2 := by omega
          obtain rfl : k = k2 := by omega
          exact ⟨_, q16, fun q => absurd q (by decide), by decide, ⟨_, _, _, _, _, _, _, _, _, _, _, _, _, _, _, hI, q17, hB, Nat.le_refl _, Nat.le_refl _⟩⟩
        · obtain rfl : i = i2 := by omega
          obtain rfl : k = k2 := by omega
          exfalso
          first | omega | (first | (have zz := cw_yes (by assumption); simp_all; done) | (have zz := cw_no (by assumption) (by assumption) (by assumption); simp_all; done) | (simp_all; done))
        · obtain rfl : i = i2 := by omega
          obtain rfl : k = k2 := by omega
          exfalso
          first | omega | (first | (have zz := cw_yes (by assumption); simp_all; done) | (have zz := cw_no (by assumption) (by assumption) (by assumption); simp_all; done) | (simp_all; done))
      · exact absurd x16 (by decide)
    · rcases hp with ⟨x1, (⟨x2, x3⟩ | ⟨i, x4, x5, (⟨x6, x7⟩ | ⟨k, x8, x9, (⟨x10, x11⟩ | ⟨t, x12, x13, x14, x15, x16⟩)⟩)⟩)⟩
      · exact absurd x3 (by decide)
      · exact absurd x7 (by decide)
      · exact absurd x11 (by decide)
      · rcases hr with ⟨q1, (⟨(q2 | ⟨i2, q3, q4, q5⟩), ⟨z2, q6⟩, q7⟩ | ⟨i2, k2, q8, q9, q10, q11, (⟨(q12 | ⟨t2, q13, q14, q15⟩), ⟨z2, q16⟩, q17⟩ | ⟨t2, q18, q19, q20, (⟨q21, ⟨z2, q22⟩, q23⟩ | ⟨q24, q25, q26⟩)⟩)⟩)⟩
        · exfalso
          first | omega | (first | (have zz := cw_yes (by assumption); simp_all; done) | (have zz := cw_no (by assumption) (by assumption) (by assumption); simp_all; done) | (simp_all; done))
        · obtain rfl : i = i2 := by omega
          exfalso
          first | omega | (first | (have zz := cw_yes (by assumption); simp_all; done) | (have zz := cw_no (by assumption) (by assumption) (by assumption); simp_all; done) | (simp_all; done))
        · obtain rfl : i = i2 := by omega
          obtain rfl : k = k2 := by omega
          exfalso
          first | omega | (first | (have zz := cw_yes (by assumption); simp_all; done) | (have zz := cw_no (by assumption) (by assumption) (by assumption); simp_all; done) | (simp_all; done))
        · obtain rfl : i = i2 := by omega
          obtain rfl : k = k2 := by omega
          obtain rfl : t = t2 := by omega
          exfalso
          first | omega | (first | (have zz := cw_yes (by assumption); simp_all; done) | (have zz := cw_no (by assumption) (by assumption) (by assumption); simp_all; done) | (simp_all; done))
        · subst x1
          obtain rfl : i = i2 := by omega
          obtain rfl : k = k2 := by omega
          obtain rfl : t = t2 := by omega
          exact ⟨_, q22, fun q => absurd q (by decide), by decide, ⟨_, _, _, _, _, _, _, _, _, _, _, _, _, _, _, hI, q23, hB, Nat.le_refl _, Nat.le_refl _⟩⟩
        · obtain rfl : i = i2 := by omega
          obtain rfl : k = k2 := by omega
          obtain rfl : t = t2 := by omega
          exfalso
          first | omega | (first | (have zz := cw_yes (by assumption); simp_all; done) | (have zz := cw_no (by assumption) (by assumption) (by assumption); simp_all; done) | (simp_all; done))
end Bb
