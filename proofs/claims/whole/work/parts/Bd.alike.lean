/-! The law: operations: both sides agree (Bd) -/
section Bd
def PC_areAlike (h : AH) (xo : Nat) (w : Nat → Nat) (c m : Nat) (E : Nat → Nat) (R : Nat → Nat → Nat) (br bf bs be : Int) (D2 D3 : Nat → Bool) (so : Nat) (a1 a2 : Int) (r : Option Value) (h' : AH) : Prop := ∃ (i j : Nat) (v : Bool), i < m ∧ a1 = (i : Int) ∧ j < m ∧ a2 = (j : Int) ∧ r = some (I ((b2n v : Nat) : Int)) ∧ HI h' xo w c m E R br bf bs be D2 D3 so ∧ Fr HF h h' ∧ PairAt h' xo E R i j v
def XC_areAlike (h : AH) (xo : Nat) (w : Nat → Nat) (c m : Nat) (E : Nat → Nat) (R : Nat → Nat → Nat) (br bf bs be : Int) (D2 D3 : Nat → Bool) (so : Nat) (a1 a2 : Int) (E' : String) (h' : AH) : Prop := h' = h ∧ (noM a1 m ∨ noM a2 m) ∧ E' = eIOO
def PR_areAlike (S0 : State) (h : AH) (mo : Nat) (w : Nat → Nat) (c m : Nat) (E : Nat → Nat) (R : Nat → Nat → Nat) (b0 b1 b2 : Int) (a1 a2 : Int) (r : Option Value) (h' : AH) : Prop := Fr (fun x => 120 ≤ x ∧ x ≤ 139) h h' ∧ (((noM a1 m ∨ noM a2 m) ∧ r = some (I 0) ∧ RI (zA S0) DRp h' mo 1 c w m E R b0 b1 b2) ∨ ∃ i j : Nat, i < m ∧ a1 = (i : Int) ∧ j < m ∧ a2 = (j : Int) ∧ ∃ (vv : Bool) (im : Nat → Nat), r = some (I ((b2n vv : Nat) : Int)) ∧ IsoG (R i) (E i) (R j) (E j) vv im ∧ RI (zA S0) DRp h' mo 0 c w m E R b0 b1 b2)
theorem fP_areAlike {h h1 : AH} {xo : Nat} {w : Nat → Nat} {c m : Nat} {E : Nat → Nat} {R : Nat → Nat → Nat} {br bf bs be : Int} {D2 D3 : Nat → Bool} {so : Nat} {a1 a2 : Int} {r : Option Value} (q : PC_areAlike h xo w c m E R br bf bs be D2 D3 so a1 a2 r h1) : Fr HF h h1 := by
  unfold PC_areAlike at q
  obtain ⟨i, j, v, p1, p2, p3, p4, p5, p6, p7, p8⟩ := q
  exact p7
theorem vP_areAlike {h h1 : AH} {xo : Nat} {w : Nat → Nat} {c m : Nat} {E : Nat → Nat} {R : Nat → Nat → Nat} {br bf bs be : Int} {D2 D3 : Nat → Bool} {so : Nat} {a1 a2 : Int} {r : Option Value} (q : PC_areAlike h xo w c m E R br bf bs be D2 D3 so a1 a2 r h1) : ∃ b : Bool, r = some (I ((b2n b : Nat) : Int)) := by
  unfold PC_areAlike at q
  obtain ⟨i, j, v, p1, p2, p3, p4, p5, p6, p7, p8⟩ := q
  exact ⟨_, p5⟩
theorem fX_areAlike {h h1 : AH} {xo : Nat} {w : Nat → Nat} {c m : Nat} {E : Nat → Nat} {R : Nat → Nat → Nat} {br bf bs be : Int} {D2 D3 : Nat → Bool} {so : Nat} {a1 a2 : Int} {e : String} (q : XC_areAlike h xo w c m E R br bf bs be D2 D3 so a1 a2 e h1) : Fr HF h h1 := by
  unfold XC_areAlike at q
  rcases q with ⟨x1, x2, x3⟩
  · rw [x1]; exact Fr.rf
theorem eX_areAlike {h h1 : AH} {xo : Nat} {w : Nat → Nat} {c m : Nat} {E : Nat → Nat} {R : Nat → Nat → Nat} {br bf bs be : Int} {D2 D3 : Nat → Bool} {so : Nat} {a1 a2 : Int} {e : String} (q : XC_areAlike h xo w c m E R br bf bs be D2 D3 so a1 a2 e h1) : e = eIOO := by
  unfold XC_areAlike at q
  rcases q with ⟨x1, x2, x3⟩
  · exact x3
theorem fR_areAlike {S0 : State} {h h1 : AH} {mo : Nat} {w : Nat → Nat} {c m : Nat} {E : Nat → Nat} {R : Nat → Nat → Nat} {b0 b1 b2 : Int} {a1 a2 : Int} {r : Option Value} (q : PR_areAlike S0 h mo w c m E R b0 b1 b2 a1 a2 r h1) : Fr (fun x => 120 ≤ x ∧ x ≤ 139) h h1 := by
  unfold PR_areAlike at q
  exact q.1.mono (fun l z => by omega)
theorem op_areAlike {S0 : State} {h h1 h2 hb : AH} {g : Nat → Int64} {xo mo : Nat} {w : Nat → Nat} {c m : Nat} {E : Nat → Nat} {R : Nat → Nat → Nat} {br bf bs be b0 b1 b2 : Int} {D2 D3 : Nat → Bool} {so kk : Nat} {r2 : Option Value} {a1 a2 : Int} (hI : HI h xo w c m E R br bf bs be D2 D3 so) (hB : BrR br bf bs be b0 b1 b2) (hc : (kk = 0 ∧ ∃ z : Int, PC_areAlike h xo w c m E R br bf bs be D2 D3 so a1 a2 (some (I z)) h1 ∧ g 0 = (Int32.ofInt z).toInt64) ∨ ∃ e : String, [eIOO][kk - 1]? = some e ∧ 1 ≤ kk ∧ XC_areAlike h xo w c m E R br bf bs be D2 D3 so a1 a2 e h1) (hr : PR_areAlike S0 hb mo w c m E R b0 b1 b2 a1 a2 r2 h2) : ∃ z2 : Int, r2 = some (I z2) ∧ (kk = 0 → (z2 = 0 ∨ z2 = 1) ∧ g 0 = (Int32.ofInt z2).toInt64) ∧ kk ≤ 4 ∧ Mg S0 h1 h2 xo mo kk (pC so D2) (pS so D2) := by
  have hM := hI.mtr.2.2.2.2.2.2
  unfold PR_areAlike at hr
  rcases hc with ⟨rfl, z, hp, hg⟩ | ⟨e, he, hk, hp⟩
  · unfold PC_areAlike at hp
    rcases hp with ⟨i, j, v, p1, p2, p3, p4, p5, p6, p7, p8⟩
    rcases hr with ⟨q1, (⟨q2, q3, q4⟩ | ⟨i2, j2, q5, q6, q7, q8, vv2, im2, q9, q10, q11⟩)⟩
    · exfalso
      first | omega | (simp_all)
    · obtain rfl : i = i2 := by omega
      obtain rfl : j = j2 := by omega
      refine ⟨_, q9, fun _ => ?_, by decide, ⟨_, _, _, _, _, _, _, _, _, _, _, _, _, _, _, p6, q11, hB, Nat.le_refl _, Nat.le_refl _⟩⟩
      refine ⟨b2n_01 _, ?_⟩
      rw [hg, iI p5]
      rw [pair_v (hM i p1) (hM j p3) p8 q10]
  · unfold XC_areAlike at hp
    rcases ex1 he hk with ⟨rfl, rfl⟩
    · rcases hp with ⟨x1, x2, x3⟩
      · rcases hr with ⟨q1, (⟨q2, q3, q4⟩ | ⟨i2, j2, q5, q6, q7, q8, vv2, im2, q9, q10, q11⟩)⟩
        · subst x1
          exact ⟨_, q3, fun q => absurd q (by decide), by decide, ⟨_, _, _, _, _, _, _, _, _, _, _, _, _, _, _, hI, q4, hB, Nat.le_refl _, Nat.le_refl _⟩⟩
        · exfalso
          first | omega | (simp_all)
def PC_image (h : AH) (xo : Nat) (w : Nat → Nat) (c m : Nat) (E : Nat → Nat) (R : Nat → Nat → Nat) (br bf bs be : Int) (D2 D3 : Nat → Bool) (so : Nat) (a1 a2 a3 : Int) (r : Option Value) (h' : AH) : Prop := ∃ (i j k : Nat) (Im : Nat → Nat), i < m ∧ a1 = (i : Int) ∧ j < m ∧ a2 = (j : Int) ∧ k < E i ∧ a3 = (k : Int) ∧ AlkP (R i) (E i) (R j) (E j) true Im ∧ r = some (I (ntz (Im (2 ^ k)) : Nat)) ∧ HI h' xo w c m E R br bf bs be D2 D3 so ∧ Fr HF h h'
def XC_image (h : AH) (xo : Nat) (w : Nat → Nat) (c m : Nat) (E : Nat → Nat) (R : Nat → Nat → Nat) (br bf bs be : Int) (D2 D3 : Nat → Bool) (so : Nat) (a1 a2 a3 : Int) (E' : String) (h' : AH) : Prop := (h' = h ∧ (((noM a1 m ∨ noM a2 m) ∧ E' = eIOO) ∨ ∃ i j, i < m ∧ a1 = (i : Int) ∧ j < m ∧ a2 = (j : Int) ∧ ¬ (0 ≤ a3 ∧ a3 < ((E i : Nat) : Int)) ∧ E' = eIOO)) ∨ ∃ (i j k : Nat) (Im : Nat → Nat), i < m ∧ a1 = (i : Int) ∧ j < m ∧ a2 = (j : Int) ∧ k < E i ∧ a3 = (k : Int) ∧ AlkP (R i) (E i) (R j) (E j) false Im ∧ E' = eNSE ∧ HI h' xo w c m E R br bf bs be D2 D3 so ∧ Fr HF h h'
def PR_image (S0 : State) (h : AH) (mo : Nat) (w : Nat → Nat) (c m : Nat) (E : Nat → Nat) (R : Nat → Nat → Nat) (b0 b1 b2 : Int) (a1 a2 a3 : Int) (r : Option Value) (h' : AH) : Prop := Fr (fun x => 120 ≤ x ∧ x ≤ 139) h h' ∧ (((noM a1 m ∨ noM a2 m ∨ ∃ i, i < m ∧ a1 = (i : Int) ∧ ¬ (0 ≤ a3 ∧ a3 < ((E i : Nat) : Int))) ∧ (∃ z, r = some (I z)) ∧ RI (zA S0) DRp h' mo 1 c w m E R b0 b1 b2) ∨ ∃ i j k : Nat, i < m ∧ a1 = (i : Int) ∧ j < m ∧ a2 = (j : Int) ∧ k < E i ∧ a3 = (k : Int) ∧ (((∃ z, r = some (I z)) ∧ (∃ im : Nat → Nat, IsoG (R i) (E i) (R j) (E j) false im) ∧ RI (zA S0) DRp h' mo 2 c w m E R b0 b1 b2) ∨ ∃ im : Nat → Nat, r = some (I ((im k : Nat) : Int)) ∧ IsoG (R i) (E i) (R j) (E j) true im ∧ RI (zA S0) DRp h' mo 0 c w m E R b0 b1 b2))
theorem fP_image {h h1 : AH} {xo : Nat} {w : Nat → Nat} {c m : Nat} {E : Nat → Nat} {R : Nat → Nat → Nat} {br bf bs be : Int} {D2 D3 : Nat → Bool} {so : Nat} {a1 a2 a3 : Int} {r : Option Value} (q : PC_image h xo w c m E R br bf bs be D2 D3 so a1 a2 a3 r h1) : Fr HF h h1 := by
  unfold PC_image at q
  obtain ⟨i, j, k, Im, p1, p2, p3, p4, p5, p6, p7, p8, p9, p10⟩ := q
  exact p10
theorem vP_image {h h1 : AH} {xo : Nat} {w : Nat → Nat} {c m : Nat} {E : Nat → Nat} {R : Nat → Nat → Nat} {br bf bs be : Int} {D2 D3 : Nat → Bool} {so : Nat} {a1 a2 a3 : Int} {r : Option Value} (q : PC_image h xo w c m E R br bf bs be D2 D3 so a1 a2 a3 r h1) : ∃ z : Int, r = some (I z) := by
  unfold PC_image at q
  obtain ⟨i, j, k, Im, p1, p2, p3, p4, p5, p6, p7, p8, p9, p10⟩ := q
  exact ⟨_, p8⟩
theorem fX_image {h h1 : AH} {xo : Nat} {w : Nat → Nat} {c m : Nat} {E : Nat → Nat} {R : Nat → Nat → Nat} {br bf bs be : Int} {D2 D3 : Nat → Bool} {so : Nat} {a1 a2 a3 : Int} {e : String} (q : XC_image h xo w c m E R br bf bs be D2 D3 so a1 a2 a3 e h1) : Fr HF h h1 := by
  unfold XC_image at q
  rcases q with (⟨x1, (⟨x2, x3⟩ | ⟨i, j, x4, x5, x6, x7, x8, x9⟩)⟩ | ⟨i, j, k, Im, x10, x11, x12, x13, x14, x15, x16, x17, x18, x19⟩)
  · rw [x1]; exact Fr.rf
  · rw [x1]; exact Fr.rf
  · exact x19
theorem eX_image {h h1 : AH} {xo : Nat} {w : Nat → Nat} {c m : Nat} {E : Nat → Nat} {R : Nat → Nat → Nat} {br bf bs be : Int} {D2 D3 : Nat → Bool} {so : Nat} {a1 a2 a3 : Int} {e : String} (q : XC_image h xo w c m E R br bf bs be D2 D3 so a1 a2 a3 e h1) : e = eIOO ∨ e = eNSE := by
  unfold XC_image at q
  rcases q with (⟨x1, (⟨x2, x3⟩ | ⟨i, j, x4, x5, x6, x7, x8, x9⟩)⟩ | ⟨i, j, k, Im, x10, x11, x12, x13, x14, x15, x16, x17, x18, x19⟩)
  · exact Or.inl x3
  · exact Or.inl x9
  · exact Or.inr (x17)
theorem fR_image {S0 : State} {h h1 : AH} {mo : Nat} {w : Nat → Nat} {c m : Nat} {E : Nat → Nat} {R : Nat → Nat → Nat} {b0 b1 b2 : Int} {a1 a2 a3 : Int} {r : Option Value} (q : PR_image S0 h mo w c m E R b0 b1 b2 a1 a2 a3 r h1) : Fr (fun x => 120 ≤ x ∧ x ≤ 139) h h1 := by
  unfold PR_image at q
  exact q.1.mono (fun l z => by omega)
theorem op_image {S0 : State} {h h1 h2 hb : AH} {g : Nat → Int64} {xo mo : Nat} {w : Nat → Nat} {c m : Nat} {E : Nat → Nat} {R : Nat → Nat → Nat} {br bf bs be b0 b1 b2 : Int} {D2 D3 : Nat → Bool} {so kk : Nat} {r2 : Option Value} {a1 a2 a3 : Int} (hI : HI h xo w c m E R br bf bs be D2 D3 so) (hB : BrR br bf bs be b0 b1 b2) (hc : (kk = 0 ∧ ∃ z : Int, PC_image h xo w c m E R br bf bs be D2 D3 so a1 a2 a3 (some (I z)) h1 ∧ g 0 = (Int32.ofInt z).toInt64) ∨ ∃ e : String, [eIOO, eNSE][kk - 1]? = some e ∧ 1 ≤ kk ∧ XC_image h xo w c m E R br bf bs be D2 D3 so a1 a2 a3 e h1) (hr : PR_image S0 hb mo w c m E R b0 b1 b2 a1 a2 a3 r2 h2) : ∃ z2 : Int, r2 = some (I z2) ∧ (kk = 0 → g 0 = (Int32.ofInt z2).toInt64) ∧ kk ≤ 4 ∧ Mg S0 h1 h2 xo mo kk (pC so D2) (pS so D2) := by
  have hM := hI.mtr.2.2.2.2.2.2
  unfold PR_image at hr
  rcases hc with ⟨rfl, z, hp, hg⟩ | ⟨e, he, hk, hp⟩
  · unfold PC_image at hp
    rcases hp with ⟨i, j, k, Im, p1, p2, p3, p4, p5, p6, p7, p8, p9, p10⟩
    rcases hr with ⟨q1, (⟨(q2 | q3 | ⟨i2, q4, q5, q6⟩), ⟨z2, q7⟩, q8⟩ | ⟨i2, j2, k2, q9, q10, q11, q12, q13, q14, (⟨⟨z2, q15⟩, ⟨im2, q16⟩, q17⟩ | ⟨im2, q18, q19, q20⟩)⟩)⟩
    · exfalso
      first | omega | ((have zz := (alike_same (hM i (by assumption)) (hM j (by assumption)) (by assumption) (by assumption)).1; cases zz))
    · exfalso
      first | omega | ((have zz := (alike_same (hM i (by assumption)) (hM j (by assumption)) (by assumption) (by assumption)).1; cases zz))
    · obtain rfl : i = i2 := by omega
      exfalso
      first | omega | ((have zz := (alike_same (hM i (by assumption)) (hM j (by assumption)) (by assumption) (by assumption)).1; cases zz))
    · obtain rfl : i = i2 := by omega
      obtain rfl : j = j2 := by omega
      obtain rfl : k = k2 := by omega
      exfalso
      first | omega | ((have zz := (alike_same (hM i (by assumption)) (hM j (by assumption)) (by assumption) (by assumption)).1; cases zz))
    · obtain rfl : i = i2 := by omega
      obtain rfl : j = j2 := by omega
      obtain rfl : k = k2 := by omega
      refine ⟨_, q18, fun _ => ?_, by decide, ⟨_, _, _, _, _, _, _, _, _, _, _, _, _, _, _, p9, q20, hB, Nat.le_refl _, Nat.le_refl _⟩⟩
      rw [hg, iI p8]
      rw [(alike_same (hM i (by assumption)) (hM j (by assumption)) (by assumption) (by assumption)).2 rfl k (by assumption)]
  · unfold XC_image at hp
    rcases ex2 he hk with ⟨rfl, rfl⟩ | ⟨rfl, rfl⟩
    · rcases hp with (⟨x1, (⟨x2, x3⟩ | ⟨i, j, x4, x5, x6, x7, x8, x9⟩)⟩ | ⟨i, j, k, Im, x10, x11, x12, x13, x14, x15, x16, x17, x18, x19⟩)
      · rcases hr with ⟨q1, (⟨(q2 | q3 | ⟨i2, q4, q5, q6⟩), ⟨z2, q7⟩, q8⟩ | ⟨i2, j2, k2, q9, q10, q11, q12, q13, q14, (⟨⟨z2, q15⟩, ⟨im2, q16⟩, q17⟩ | ⟨im2, q18, q19, q20⟩)⟩)⟩
        · subst x1
          exact ⟨_, q7, fun q => absurd q (by decide), by decide, ⟨_, _, _, _, _, _, _, _, _, _, _, _, _, _, _, hI, q8, hB, Nat.le_refl _, Nat.le_refl _⟩⟩
        · subst x1
          exact ⟨_, q7, fun q => absurd q (by decide), by decide, ⟨_, _, _, _, _, _, _, _, _, _, _, _, _, _, _, hI, q8, hB, Nat.le_refl _, Nat.le_refl _⟩⟩
        · subst x1
          exact ⟨_, q7, fun q => absurd q (by decide), by decide, ⟨_, _, _, _, _, _, _, _, _, _, _, _, _, _, _, hI, q8, hB, Nat.le_refl _, Nat.le_refl _⟩⟩
        · exfalso
          first | omega | ((have zz := (alike_same (hM i (by assumption)) (hM j (by assumption)) (by assumption) (by assumption)).1; cases zz))
        · exfalso
          first | omega | ((have zz := (alike_same (hM i (by assumption)) (hM j (by assumption)) (by assumption) (by assumption)).1; cases zz))
      · rcases hr with ⟨q1, (⟨(q2 | q3 | ⟨i2, q4, q5, q6⟩), ⟨z2, q7⟩, q8⟩ | ⟨i2, j2, k2, q9, q10, q11, q12, q13, q14, (⟨⟨z2, q15⟩, ⟨im2, q16⟩, q17⟩ | ⟨im2, q18, q19, q20⟩)⟩)⟩
        · subst x1
          exact ⟨_, q7, fun q => absurd q (by decide), by decide, ⟨_, _, _, _, _, _, _, _, _, _, _, _, _, _, _, hI, q8, hB, Nat.le_refl _, Nat.le_refl _⟩⟩
        · subst x1
          exact ⟨_, q7, fun q => absurd q (by decide), by decide, ⟨_, _, _, _, _, _, _, _, _, _, _, _, _, _, _, hI, q8, hB, Nat.le_refl _, Nat.le_refl _⟩⟩
        · subst x1
          obtain rfl : i = i2 := by omega
          exact ⟨_, q7, fun q => absurd q (by decide), by decide, ⟨_, _, _, _, _, _, _, _, _, _, _, _, _, _, _, hI, q8, hB, Nat.le_refl _, Nat.le_refl _⟩⟩
        · obtain rfl : i = i2 := by omega
          obtain rfl : j = j2 := by omega
          exfalso
          first | omega | ((have zz := (alike_same (hM i (by assumption)) (hM j (by assumption)) (by assumption) (by assumption)).1; cases zz))
        · obtain rfl : i = i2 := by omega
          obtain rfl : j = j2 := by omega
          exfalso
          first | omega | ((have zz := (alike_same (hM i (by assumption)) (hM j (by assumption)) (by assumption) (by assumption)).1; cases zz))
      · exact absurd x17 (by decide)
    · rcases hp with (⟨x1, (⟨x2, x3⟩ | ⟨i, j, x4, x5, x6, x7, x8, x9⟩)⟩ | ⟨i, j, k, Im, x10, x11, x12, x13, x14, x15, x16, x17, x18, x19⟩)
      · exact absurd x3 (by decide)
      · exact absurd x9 (by decide)
      · rcases hr with ⟨q1, (⟨(q2 | q3 | ⟨i2, q4, q5, q6⟩), ⟨z2, q7⟩, q8⟩ | ⟨i2, j2, k2, q9, q10, q11, q12, q13, q14, (⟨⟨z2, q15⟩, ⟨im2, q16⟩, q17⟩ | ⟨im2, q18, q19, q20⟩)⟩)⟩
        · exfalso
          first | omega | ((have zz := (alike_same (hM i (by assumption)) (hM j (by assumption)) (by assumption) (by assumption)).1; cases zz))
        · exfalso
          first | omega | ((have zz := (alike_same (hM i (by assumption)) (hM j (by assumption)) (by assumption) (by assumption)).1; cases zz))
        · obtain rfl : i = i2 := by omega
          exfalso
          first | omega | ((have zz := (alike_same (hM i (by assumption)) (hM j (by assumption)) (by assumption) (by assumption)).1; cases zz))
        · obtain rfl : i = i2 := by omega
          obtain rfl : j = j2 := by omega
          obtain rfl : k = k2 := by omega
          exact ⟨_, q15, fun q => absurd q (by decide), by decide, ⟨_, _, _, _, _, _, _, _, _, _, _, _, _, _, _, x18, q17, hB, Nat.le_refl _, Nat.le_refl _⟩⟩
        · obtain rfl : i = i2 := by omega
          obtain rfl : j = j2 := by omega
          obtain rfl : k = k2 := by omega
          exfalso
          first | omega | ((have zz := (alike_same (hM i (by assumption)) (hM j (by assumption)) (by assumption) (by assumption)).1; cases zz))
def PC_symmetries (h : AH) (xo : Nat) (w : Nat → Nat) (c m : Nat) (E : Nat → Nat) (R : Nat → Nat → Nat) (br bf bs be : Int) (D2 D3 : Nat → Bool) (so : Nat) (a1 : Int) (r : Option Value) (h' : AH) : Prop := ∃ i v : Nat, i < m ∧ a1 = (i : Int) ∧ SymP (R i) (E i) v ∧ r = some (I (v : Nat)) ∧ HI h' xo w c m E R br bf bs be D2 D3 so ∧ Fr HF h h'
def XC_symmetries (h : AH) (xo : Nat) (w : Nat → Nat) (c m : Nat) (E : Nat → Nat) (R : Nat → Nat → Nat) (br bf bs be : Int) (D2 D3 : Nat → Bool) (so : Nat) (a1 : Int) (E' : String) (h' : AH) : Prop := h' = h ∧ noM a1 m ∧ E' = eIOO
def PR_symmetries (S0 : State) (h : AH) (mo : Nat) (w : Nat → Nat) (c m : Nat) (E : Nat → Nat) (R : Nat → Nat → Nat) (b0 b1 b2 : Int) (a1 : Int) (r : Option Value) (h' : AH) : Prop := Fr (fun x => 120 ≤ x ∧ x ≤ 139) h h' ∧ ((noM a1 m ∧ (∃ z, r = some (I z)) ∧ RI (zA S0) DRp h' mo 1 c w m E R b0 b1 b2) ∨ ∃ i, i < m ∧ a1 = (i : Int) ∧ ∃ A : Nat → Nat → Bool, (∀ k t, (A k t = true ↔ AutP (R i) (E i) k t)) ∧ r = some (I ((symM A (E i) (E i) : Nat) : Int)) ∧ RI (zA S0) DRp h' mo 0 c w m E R b0 b1 b2)
theorem fP_symmetries {h h1 : AH} {xo : Nat} {w : Nat → Nat} {c m : Nat} {E : Nat → Nat} {R : Nat → Nat → Nat} {br bf bs be : Int} {D2 D3 : Nat → Bool} {so : Nat} {a1 : Int} {r : Option Value} (q : PC_symmetries h xo w c m E R br bf bs be D2 D3 so a1 r h1) : Fr HF h h1 := by
  unfold PC_symmetries at q
  obtain ⟨i, v, p1, p2, p3, p4, p5, p6⟩ := q
  exact p6
theorem vP_symmetries {h h1 : AH} {xo : Nat} {w : Nat → Nat} {c m : Nat} {E : Nat → Nat} {R : Nat → Nat → Nat} {br bf bs be : Int} {D2 D3 : Nat → Bool} {so : Nat} {a1 : Int} {r : Option Value} (q : PC_symmetries h xo w c m E R br bf bs be D2 D3 so a1 r h1) : ∃ z : Int, r = some (I z) := by
  unfold PC_symmetries at q
  obtain ⟨i, v, p1, p2, p3, p4, p5, p6⟩ := q
  exact ⟨_, p4⟩
theorem fX_symmetries {h h1 : AH} {xo : Nat} {w : Nat → Nat} {c m : Nat} {E : Nat → Nat} {R : Nat → Nat → Nat} {br bf bs be : Int} {D2 D3 : Nat → Bool} {so : Nat} {a1 : Int} {e : String} (q : XC_symmetries h xo w c m E R br bf bs be D2 D3 so a1 e h1) : Fr HF h h1 := by
  unfold XC_symmetries at q
  rcases q with ⟨x1, x2, x3⟩
  · rw [x1]; exact Fr.rf
theorem eX_symmetries {h h1 : AH} {xo : Nat} {w : Nat → Nat} {c m : Nat} {E : Nat → Nat} {R : Nat → Nat → Nat} {br bf bs be : Int} {D2 D3 : Nat → Bool} {so : Nat} {a1 : Int} {e : String} (q : XC_symmetries h xo w c m E R br bf bs be D2 D3 so a1 e h1) : e = eIOO := by
  unfold XC_symmetries at q
  rcases q with ⟨x1, x2, x3⟩
  · exact x3
theorem fR_symmetries {S0 : State} {h h1 : AH} {mo : Nat} {w : Nat → Nat} {c m : Nat} {E : Nat → Nat} {R : Nat → Nat → Nat} {b0 b1 b2 : Int} {a1 : Int} {r : Option Value} (q : PR_symmetries S0 h mo w c m E R b0 b1 b2 a1 r h1) : Fr (fun x => 120 ≤ x ∧ x ≤ 139) h h1 := by
  unfold PR_symmetries at q
  exact q.1.mono (fun l z => by omega)
theorem op_symmetries {S0 : State} {h h1 h2 hb : AH} {g : Nat → Int64} {xo mo : Nat} {w : Nat → Nat} {c m : Nat} {E : Nat → Nat} {R : Nat → Nat → Nat} {br bf bs be b0 b1 b2 : Int} {D2 D3 : Nat → Bool} {so kk : Nat} {r2 : Option Value} {a1 : Int} (hI : HI h xo w c m E R br bf bs be D2 D3 so) (hB : BrR br bf bs be b0 b1 b2) (hc : (kk = 0 ∧ ∃ z : Int, PC_symmetries h xo w c m E R br bf bs be D2 D3 so a1 (some (I z)) h1 ∧ g 0 = (Int32.ofInt z).toInt64) ∨ ∃ e : String, [eIOO][kk - 1]? = some e ∧ 1 ≤ kk ∧ XC_symmetries h xo w c m E R br bf bs be D2 D3 so a1 e h1) (hr : PR_symmetries S0 hb mo w c m E R b0 b1 b2 a1 r2 h2) : ∃ z2 : Int, r2 = some (I z2) ∧ (kk = 0 → g 0 = (Int32.ofInt z2).toInt64) ∧ kk ≤ 4 ∧ Mg S0 h1 h2 xo mo kk (pC so D2) (pS so D2) := by
  have hM := hI.mtr.2.2.2.2.2.2
  unfold PR_symmetries at hr
  rcases hc with ⟨rfl, z, hp, hg⟩ | ⟨e, he, hk, hp⟩
  · unfold PC_symmetries at hp
    rcases hp with ⟨i, v, p1, p2, p3, p4, p5, p6⟩
    rcases hr with ⟨q1, (⟨q2, ⟨z2, q3⟩, q4⟩ | ⟨i2, q5, q6, A2, q7, q8, q9⟩)⟩
    · exfalso
      first | omega | (simp_all)
    · obtain rfl : i = i2 := by omega
      refine ⟨_, q8, fun _ => ?_, by decide, ⟨_, _, _, _, _, _, _, _, _, _, _, _, _, _, _, p5, q9, hB, Nat.le_refl _, Nat.le_refl _⟩⟩
      rw [hg, iI p4]
      have zz : v = symM A2 (E i) (E i) := sym_same (hM i (by assumption)) (by assumption) (by assumption)
      rw [zz]
  · unfold XC_symmetries at hp
    rcases ex1 he hk with ⟨rfl, rfl⟩
    · rcases hp with ⟨x1, x2, x3⟩
      · rcases hr with ⟨q1, (⟨q2, ⟨z2, q3⟩, q4⟩ | ⟨i2, q5, q6, A2, q7, q8, q9⟩)⟩
        · subst x1
          exact ⟨_, q3, fun q => absurd q (by decide), by decide, ⟨_, _, _, _, _, _, _, _, _, _, _, _, _, _, _, hI, q4, hB, Nat.le_refl _, Nat.le_refl _⟩⟩
        · exfalso
          first | omega | (simp_all)
def PC_minorBy (h : AH) (xo : Nat) (w : Nat → Nat) (c m : Nat) (E : Nat → Nat) (R : Nat → Nat → Nat) (br bf bs be : Int) (D2 D3 : Nat → Bool) (so : Nat) (a1 a2 : Int) (r : Option Value) (h' : AH) : Prop := ∃ (i j : Nat) (co de : Int), i < m ∧ a1 = (i : Int) ∧ j < m ∧ a2 = (j : Int) ∧ MinP (R i) (E i) (R j) (E j) 1 co de ∧ r = some (I co) ∧ HI h' xo w c m E R br bf bs be D2 D3 so ∧ Fr HF h h'
def XC_minorBy (h : AH) (xo : Nat) (w : Nat → Nat) (c m : Nat) (E : Nat → Nat) (R : Nat → Nat → Nat) (br bf bs be : Int) (D2 D3 : Nat → Bool) (so : Nat) (a1 a2 : Int) (E' : String) (h' : AH) : Prop := (h' = h ∧ (noM a1 m ∨ noM a2 m) ∧ E' = eIOO) ∨ ∃ (i j : Nat) (co de : Int), i < m ∧ a1 = (i : Int) ∧ j < m ∧ a2 = (j : Int) ∧ MinP (R i) (E i) (R j) (E j) 0 co de ∧ E' = eNSE ∧ HI h' xo w c m E R br bf bs be D2 D3 so ∧ Fr HF h h'
def PR_minorBy (S0 : State) (h : AH) (mo : Nat) (w : Nat → Nat) (c m : Nat) (E : Nat → Nat) (R : Nat → Nat → Nat) (b0 b1 b2 : Int) (a1 a2 : Int) (r : Option Value) (h' : AH) : Prop := Fr (fun x => 120 ≤ x ∧ x ≤ 139) h h' ∧ (((noM a1 m ∨ noM a2 m) ∧ (∃ z, r = some (I z)) ∧ RI (zA S0) DRp h' mo 1 c w m E R b0 b1 b2) ∨ ∃ i j : Nat, i < m ∧ a1 = (i : Int) ∧ j < m ∧ a2 = (j : Int) ∧ ((MinG (R i) (E i) (R j) (E j) (-1) ∧ (∃ z, r = some (I z)) ∧ RI (zA S0) DRp h' mo 2 c w m E R b0 b1 b2) ∨ ∃ c1 d1 : Nat, c1 < 1024 ∧ d1 < 1024 ∧ MinG (R i) (E i) (R j) (E j) ((1024 * c1 + d1 : Nat) : Int) ∧ r = some (I (c1 : Int)) ∧ RI (zA S0) DRp h' mo 0 c w m E R b0 b1 b2))
theorem fP_minorBy {h h1 : AH} {xo : Nat} {w : Nat → Nat} {c m : Nat} {E : Nat → Nat} {R : Nat → Nat → Nat} {br bf bs be : Int} {D2 D3 : Nat → Bool} {so : Nat} {a1 a2 : Int} {r : Option Value} (q : PC_minorBy h xo w c m E R br bf bs be D2 D3 so a1 a2 r h1) : Fr HF h h1 := by
  unfold PC_minorBy at q
  obtain ⟨i, j, co, de, p1, p2, p3, p4, p5, p6, p7, p8⟩ := q
  exact p8
theorem vP_minorBy {h h1 : AH} {xo : Nat} {w : Nat → Nat} {c m : Nat} {E : Nat → Nat} {R : Nat → Nat → Nat} {br bf bs be : Int} {D2 D3 : Nat → Bool} {so : Nat} {a1 a2 : Int} {r : Option Value} (q : PC_minorBy h xo w c m E R br bf bs be D2 D3 so a1 a2 r h1) : ∃ z : Int, r = some (I z) := by
  unfold PC_minorBy at q
  obtain ⟨i, j, co, de, p1, p2, p3, p4, p5, p6, p7, p8⟩ := q
  exact ⟨_, p6⟩
theorem fX_minorBy {h h1 : AH} {xo : Nat} {w : Nat → Nat} {c m : Nat} {E : Nat → Nat} {R : Nat → Nat → Nat} {br bf bs be : Int} {D2 D3 : Nat → Bool} {so : Nat} {a1 a2 : Int} {e : String} (q : XC_minorBy h xo w c m E R br bf bs be D2 D3 so a1 a2 e h1) : Fr HF h h1 := by
  unfold XC_minorBy at q
  rcases q with (⟨x1, x2, x3⟩ | ⟨i, j, co, de, x4, x5, x6, x7, x8, x9, x10, x11⟩)
  · rw [x1]; exact Fr.rf
  · exact x11
theorem eX_minorBy {h h1 : AH} {xo : Nat} {w : Nat → Nat} {c m : Nat} {E : Nat → Nat} {R : Nat → Nat → Nat} {br bf bs be : Int} {D2 D3 : Nat → Bool} {so : Nat} {a1 a2 : Int} {e : String} (q : XC_minorBy h xo w c m E R br bf bs be D2 D3 so a1 a2 e h1) : e = eIOO ∨ e = eNSE := by
  unfold XC_minorBy at q
  rcases q with (⟨x1, x2, x3⟩ | ⟨i, j, co, de, x4, x5, x6, x7, x8, x9, x10, x11⟩)
  · exact Or.inl x3
  · exact Or.inr (x9)
theorem fR_minorBy {S0 : State} {h h1 : AH} {mo : Nat} {w : Nat → Nat} {c m : Nat} {E : Nat → Nat} {R : Nat → Nat → Nat} {b0 b1 b2 : Int} {a1 a2 : Int} {r : Option Value} (q : PR_minorBy S0 h mo w c m E R b0 b1 b2 a1 a2 r h1) : Fr (fun x => 120 ≤ x ∧ x ≤ 139) h h1 := by
  unfold PR_minorBy at q
  exact q.1.mono (fun l z => by omega)
theorem op_minorBy {S0 : State} {h h1 h2 hb : AH} {g : Nat → Int64} {xo mo : Nat} {w : Nat → Nat} {c m : Nat} {E : Nat → Nat} {R : Nat → Nat → Nat} {br bf bs be b0 b1 b2 : Int} {D2 D3 : Nat → Bool} {so kk : Nat} {r2 : Option Value} {a1 a2 : Int} (hI : HI h xo w c m E R br bf bs be D2 D3 so) (hB : BrR br bf bs be b0 b1 b2) (hc : (kk = 0 ∧ ∃ z : Int, PC_minorBy h xo w c m E R br bf bs be D2 D3 so a1 a2 (some (I z)) h1 ∧ g 0 = (Int32.ofInt z).toInt64) ∨ ∃ e : String, [eIOO, eNSE][kk - 1]? = some e ∧ 1 ≤ kk ∧ XC_minorBy h xo w c m E R br bf bs be D2 D3 so a1 a2 e h1) (hr : PR_minorBy S0 hb mo w c m E R b0 b1 b2 a1 a2 r2 h2) : ∃ z2 : Int, r2 = some (I z2) ∧ (kk = 0 → g 0 = (Int32.ofInt z2).toInt64) ∧ kk ≤ 4 ∧ Mg S0 h1 h2 xo mo kk (pC so D2) (pS so D2) := by
  have hM := hI.mtr.2.2.2.2.2.2
  unfold PR_minorBy at hr
  rcases hc with ⟨rfl, z, hp, hg⟩ | ⟨e, he, hk, hp⟩
  · unfold PC_minorBy at hp
    rcases hp with ⟨i, j, co, de, p1, p2, p3, p4, p5, p6, p7, p8⟩
    rcases hr with ⟨q1, (⟨q2, ⟨z2, q3⟩, q4⟩ | ⟨i2, j2, q5, q6, q7, q8, (⟨q9, ⟨z2, q10⟩, q11⟩ | ⟨c12, d12, q12, q13, q14, q15, q16⟩)⟩)⟩
    · exfalso
      first | omega | (first | exact minor_n1 (hM i (by assumption)) (hM j (by assumption)) (by assumption) (by assumption) | exact minor_n2 (hM i (by assumption)) (hM j (by assumption)) (by assumption) (by assumption))
    · obtain rfl : i = i2 := by omega
      obtain rfl : j = j2 := by omega
      exfalso
      first | omega | (first | exact minor_n1 (hM i (by assumption)) (hM j (by assumption)) (by assumption) (by assumption) | exact minor_n2 (hM i (by assumption)) (hM j (by assumption)) (by assumption) (by assumption))
    · obtain rfl : i = i2 := by omega
      obtain rfl : j = j2 := by omega
      refine ⟨_, q15, fun _ => ?_, by decide, ⟨_, _, _, _, _, _, _, _, _, _, _, _, _, _, _, p7, q16, hB, Nat.le_refl _, Nat.le_refl _⟩⟩
      rw [hg, iI p6]
      rw [(minor_v (hM i p1) (hM j p3) p5 q12 q13 q14).1]
  · unfold XC_minorBy at hp
    rcases ex2 he hk with ⟨rfl, rfl⟩ | ⟨rfl, rfl⟩
    · rcases hp with (⟨x1, x2, x3⟩ | ⟨i, j, co, de, x4, x5, x6, x7, x8, x9, x10, x11⟩)
      · rcases hr with ⟨q1, (⟨q2, ⟨z2, q3⟩, q4⟩ | ⟨i2, j2, q5, q6, q7, q8, (⟨q9, ⟨z2, q10⟩, q11⟩ | ⟨c12, d12, q12, q13, q14, q15, q16⟩)⟩)⟩
        · subst x1
          exact ⟨_, q3, fun q => absurd q (by decide), by decide, ⟨_, _, _, _, _, _, _, _, _, _, _, _, _, _, _, hI, q4, hB, Nat.le_refl _, Nat.le_refl _⟩⟩
        · exfalso
          first | omega | (first | exact minor_n1 (hM i (by assumption)) (hM j (by assumption)) (by assumption) (by assumption) | exact minor_n2 (hM i (by assumption)) (hM j (by assumption)) (by assumption) (by assumption))
        · exfalso
          first | omega | (first | exact minor_n1 (hM i (by assumption)) (hM j (by assumption)) (by assumption) (by assumption) | exact minor_n2 (hM i (by assumption)) (hM j (by assumption)) (by assumption) (by assumption))
      · exact absurd x9 (by decide)
    · rcases hp with (⟨x1, x2, x3⟩ | ⟨i, j, co, de, x4, x5, x6, x7, x8, x9, x10, x11⟩)
      · exact absurd x3 (by decide)
      · rcases hr with ⟨q1, (⟨q2, ⟨z2, q3⟩, q4⟩ | ⟨i2, j2, q5, q6, q7, q8, (⟨q9, ⟨z2, q10⟩, q11⟩ | ⟨c12, d12, q12, q13, q14, q15, q16⟩)⟩)⟩
        · exfalso
          first | omega | (first | exact minor_n1 (hM i (by assumption)) (hM j (by assumption)) (by assumption) (by assumption) | exact minor_n2 (hM i (by assumption)) (hM j (by assumption)) (by assumption) (by assumption))
        · obtain rfl : i = i2 := by omega
          obtain rfl : j = j2 := by omega
          exact ⟨_, q10, fun q => absurd q (by decide), by decide, ⟨_, _, _, _, _, _, _, _, _, _, _, _, _, _, _, x10, q11, hB, Nat.le_refl _, Nat.le_refl _⟩⟩
        · obtain rfl : i = i2 := by omega
          obtain rfl : j = j2 := by omega
          exfalso
          first | omega | (first | exact minor_n1 (hM i (by assumption)) (hM j (by assumption)) (by assumption) (by assumption) | exact minor_n2 (hM i (by assumption)) (hM j (by assumption)) (by assumption) (by assumption))
def PC_minorWithout (h : AH) (xo : Nat) (w : Nat → Nat) (c m : Nat) (E : Nat → Nat) (R : Nat → Nat → Nat) (br bf bs be : Int) (D2 D3 : Nat → Bool) (so : Nat) (a1 a2 : Int) (r : Option Value) (h' : AH) : Prop := ∃ (i j : Nat) (co de : Int), i < m ∧ a1 = (i : Int) ∧ j < m ∧ a2 = (j : Int) ∧ MinP (R i) (E i) (R j) (E j) 1 co de ∧ r = some (I de) ∧ HI h' xo w c m E R br bf bs be D2 D3 so ∧ Fr HF h h'
def XC_minorWithout (h : AH) (xo : Nat) (w : Nat → Nat) (c m : Nat) (E : Nat → Nat) (R : Nat → Nat → Nat) (br bf bs be : Int) (D2 D3 : Nat → Bool) (so : Nat) (a1 a2 : Int) (E' : String) (h' : AH) : Prop := (h' = h ∧ (noM a1 m ∨ noM a2 m) ∧ E' = eIOO) ∨ ∃ (i j : Nat) (co de : Int), i < m ∧ a1 = (i : Int) ∧ j < m ∧ a2 = (j : Int) ∧ MinP (R i) (E i) (R j) (E j) 0 co de ∧ E' = eNSE ∧ HI h' xo w c m E R br bf bs be D2 D3 so ∧ Fr HF h h'
def PR_minorWithout (S0 : State) (h : AH) (mo : Nat) (w : Nat → Nat) (c m : Nat) (E : Nat → Nat) (R : Nat → Nat → Nat) (b0 b1 b2 : Int) (a1 a2 : Int) (r : Option Value) (h' : AH) : Prop := Fr (fun x => 120 ≤ x ∧ x ≤ 139) h h' ∧ (((noM a1 m ∨ noM a2 m) ∧ (∃ z, r = some (I z)) ∧ RI (zA S0) DRp h' mo 1 c w m E R b0 b1 b2) ∨ ∃ i j : Nat, i < m ∧ a1 = (i : Int) ∧ j < m ∧ a2 = (j : Int) ∧ ((MinG (R i) (E i) (R j) (E j) (-1) ∧ (∃ z, r = some (I z)) ∧ RI (zA S0) DRp h' mo 2 c w m E R b0 b1 b2) ∨ ∃ c1 d1 : Nat, c1 < 1024 ∧ d1 < 1024 ∧ MinG (R i) (E i) (R j) (E j) ((1024 * c1 + d1 : Nat) : Int) ∧ r = some (I (d1 : Int)) ∧ RI (zA S0) DRp h' mo 0 c w m E R b0 b1 b2))
theorem fP_minorWithout {h h1 : AH} {xo : Nat} {w : Nat → Nat} {c m : Nat} {E : Nat → Nat} {R : Nat → Nat → Nat} {br bf bs be : Int} {D2 D3 : Nat → Bool} {so : Nat} {a1 a2 : Int} {r : Option Value} (q : PC_minorWithout h xo w c m E R br bf bs be D2 D3 so a1 a2 r h1) : Fr HF h h1 := by
  unfold PC_minorWithout at q
  obtain ⟨i, j, co, de, p1, p2, p3, p4, p5, p6, p7, p8⟩ := q
  exact p8
theorem vP_minorWithout {h h1 : AH} {xo : Nat} {w : Nat → Nat} {c m : Nat} {E : Nat → Nat} {R : Nat → Nat → Nat} {br bf bs be : Int} {D2 D3 : Nat → Bool} {so : Nat} {a1 a2 : Int} {r : Option Value} (q : PC_minorWithout h xo w c m E R br bf bs be D2 D3 so a1 a2 r h1) : ∃ z : Int, r = some (I z) := by
  unfold PC_minorWithout at q
  obtain ⟨i, j, co, de, p1, p2, p3, p4, p5, p6, p7, p8⟩ := q
  exact ⟨_, p6⟩
theorem fX_minorWithout {h h1 : AH} {xo : Nat} {w : Nat → Nat} {c m : Nat} {E : Nat → Nat} {R : Nat → Nat → Nat} {br bf bs be : Int} {D2 D3 : Nat → Bool} {so : Nat} {a1 a2 : Int} {e : String} (q : XC_minorWithout h xo w c m E R br bf bs be D2 D3 so a1 a2 e h1) : Fr HF h h1 := by
  unfold XC_minorWithout at q
  rcases q with (⟨x1, x2, x3⟩ | ⟨i, j, co, de, x4, x5, x6, x7, x8, x9, x10, x11⟩)
  · rw [x1]; exact Fr.rf
  · exact x11
theorem eX_minorWithout {h h1 : AH} {xo : Nat} {w : Nat → Nat} {c m : Nat} {E : Nat → Nat} {R : Nat → Nat → Nat} {br bf bs be : Int} {D2 D3 : Nat → Bool} {so : Nat} {a1 a2 : Int} {e : String} (q : XC_minorWithout h xo w c m E R br bf bs be D2 D3 so a1 a2 e h1) : e = eIOO ∨ e = eNSE := by
  unfold XC_minorWithout at q
  rcases q with (⟨x1, x2, x3⟩ | ⟨i, j, co, de, x4, x5, x6, x7, x8, x9, x10, x11⟩)
  · exact Or.inl x3
  · exact Or.inr (x9)
theorem fR_minorWithout {S0 : State} {h h1 : AH} {mo : Nat} {w : Nat → Nat} {c m : Nat} {E : Nat → Nat} {R : Nat → Nat → Nat} {b0 b1 b2 : Int} {a1 a2 : Int} {r : Option Value} (q : PR_minorWithout S0 h mo w c m E R b0 b1 b2 a1 a2 r h1) : Fr (fun x => 120 ≤ x ∧ x ≤ 139) h h1 := by
  unfold PR_minorWithout at q
  exact q.1.mono (fun l z => by omega)
theorem op_minorWithout {S0 : State} {h h1 h2 hb : AH} {g : Nat → Int64} {xo mo : Nat} {w : Nat → Nat} {c m : Nat} {E : Nat → Nat} {R : Nat → Nat → Nat} {br bf bs be b0 b1 b2 : Int} {D2 D3 : Nat → Bool} {so kk : Nat} {r2 : Option Value} {a1 a2 : Int} (hI : HI h xo w c m E R br bf bs be D2 D3 so) (hB : BrR br bf bs be b0 b1 b2) (hc : (kk = 0 ∧ ∃ z : Int, PC_minorWithout h xo w c m E R br bf bs be D2 D3 so a1 a2 (some (I z)) h1 ∧ g 0 = (Int32.ofInt z).toInt64) ∨ ∃ e : String, [eIOO, eNSE][kk - 1]? = some e ∧ 1 ≤ kk ∧ XC_minorWithout h xo w c m E R br bf bs be D2 D3 so a1 a2 e h1) (hr : PR_minorWithout S0 hb mo w c m E R b0 b1 b2 a1 a2 r2 h2) : ∃ z2 : Int, r2 = some (I z2) ∧ (kk = 0 → g 0 = (Int32.ofInt z2).toInt64) ∧ kk ≤ 4 ∧ Mg S0 h1 h2 xo mo kk (pC so D2) (pS so D2) := by
  have hM := hI.mtr.2.2.2.2.2.2
  unfold PR_minorWithout at hr
  rcases hc with ⟨rfl, z, hp, hg⟩ | ⟨e, he, hk, hp⟩
  · unfold PC_minorWithout at hp
    rcases hp with ⟨i, j, co, de, p1, p2, p3, p4, p5, p6, p7, p8⟩
    rcases hr with ⟨q1, (⟨q2, ⟨z2, q3⟩, q4⟩ | ⟨i2, j2, q5, q6, q7, q8, (⟨q9, ⟨z2, q10⟩, q11⟩ | ⟨c12, d12, q12, q13, q14, q15, q16⟩)⟩)⟩
    · exfalso
      first | omega | (first | exact minor_n1 (hM i (by assumption)) (hM j (by assumption)) (by assumption) (by assumption) | exact minor_n2 (hM i (by assumption)) (hM j (by assumption)) (by assumption) (by assumption))
    · obtain rfl : i = i2 := by omega
      obtain rfl : j = j2 := by omega
      exfalso
      first | omega | (first | exact minor_n1 (hM i (by assumption)) (hM j (by assumption)) (by assumption) (by assumption) | exact minor_n2 (hM i (by assumption)) (hM j (by assumption)) (by assumption) (by assumption))
    · obtain rfl : i = i2 := by omega
      obtain rfl : j = j2 := by omega
      refine ⟨_, q15, fun _ => ?_, by decide, ⟨_, _, _, _, _, _, _, _, _, _, _, _, _, _, _, p7, q16, hB, Nat.le_refl _, Nat.le_refl _⟩⟩
      rw [hg, iI p6]
      rw [(minor_v (hM i p1) (hM j p3) p5 q12 q13 q14).2]
  · unfold XC_minorWithout at hp
    rcases ex2 he hk with ⟨rfl, rfl⟩ | ⟨rfl, rfl⟩
    · rcases hp with (⟨x1, x2, x3⟩ | ⟨i, j, co, de, x4, x5, x6, x7, x8, x9, x10, x11⟩)
      · rcases hr with ⟨q1, (⟨q2, ⟨z2, q3⟩, q4⟩ | ⟨i2, j2, q5, q6, q7, q8, (⟨q9, ⟨z2, q10⟩, q11⟩ | ⟨c12, d12, q12, q13, q14, q15, q16⟩)⟩)⟩
        · subst x1
          exact ⟨_, q3, fun q => absurd q (by decide), by decide, ⟨_, _, _, _, _, _, _, _, _, _, _, _, _, _, _, hI, q4, hB, Nat.le_refl _, Nat.le_refl _⟩⟩
        · exfalso
          first | omega | (first | exact minor_n1 (hM i (by assumption)) (hM j (by assumption)) (by assumption) (by assumption) | exact minor_n2 (hM i (by assumption)) (hM j (by assumption)) (by assumption) (by assumption))
        · exfalso
          first | omega | (first | exact minor_n1 (hM i (by assumption)) (hM j (by assumption)) (by assumption) (by assumption) | exact minor_n2 (hM i (by assumption)) (hM j (by assumption)) (by assumption) (by assumption))
      · exact absurd x9 (by decide)
    · rcases hp with (⟨x1, x2, x3⟩ | ⟨i, j, co, de, x4, x5, x6, x7, x8, x9, x10, x11⟩)
      · exact absurd x3 (by decide)
      · rcases hr with ⟨q1, (⟨q2, ⟨z2, q3⟩, q4⟩ | ⟨i2, j2, q5, q6, q7, q8, (⟨q9, ⟨z2, q10⟩, q11⟩ | ⟨c12, d12, q12, q13, q14, q15, q16⟩)⟩)⟩
        · exfalso
          first | omega | (first | exact minor_n1 (hM i (by assumption)) (hM j (by assumption)) (by assumption) (by assumption) | exact minor_n2 (hM i (by assumption)) (hM j (by assumption)) (by assumption) (by assumption))
        · obtain rfl : i = i2 := by omega
          obtain rfl : j = j2 := by omega
          exact ⟨_, q10, fun q => absurd q (by decide), by decide, ⟨_, _, _, _, _, _, _, _, _, _, _, _, _, _, _, x10, q11, hB, Nat.le_refl _, Nat.le_refl _⟩⟩
        · obtain rfl : i = i2 := by omega
          obtain rfl : j = j2 := by omega
          exfalso
          first | omega | (first | exact minor_n1 (hM i (by assumption)) (hM j (by assumption)) (by assumption) (by assumption) | exact minor_n2 (hM i (by assumption)) (hM j (by assumption)) (by assumption) (by assumption))
end Bd
