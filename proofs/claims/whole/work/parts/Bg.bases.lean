/-! The law: operations: both sides agree (Bg) -/
section Bg
def PC_broken (h : AH) (xo : Nat) (w : Nat → Nat) (c m : Nat) (E : Nat → Nat) (R : Nat → Nat → Nat) (br bf bs be : Int) (D2 D3 : Nat → Bool) (so : Nat) (a1 : Int) (r : Option Value) (h' : AH) : Prop := h' = h ∧ (a1 = 97 ∨ a1 = 98 ∨ a1 = 120) ∧ br = 1 ∧ r = some (I (if a1 = 97 then bf else if a1 = 98 then bs else be))
def XC_broken (h : AH) (xo : Nat) (w : Nat → Nat) (c m : Nat) (E : Nat → Nat) (R : Nat → Nat → Nat) (br bf bs be : Int) (D2 D3 : Nat → Bool) (so : Nat) (a1 : Int) (E' : String) (h' : AH) : Prop := h' = h ∧ ((¬ (a1 = 97 ∨ a1 = 98 ∨ a1 = 120) ∧ E' = eIAE) ∨ ((a1 = 97 ∨ a1 = 98 ∨ a1 = 120) ∧ br = 0 ∧ E' = eNSE))
def PR_broken (S0 : State) (h : AH) (mo : Nat) (w : Nat → Nat) (c m : Nat) (E : Nat → Nat) (R : Nat → Nat → Nat) (b0 b1 b2 : Int) (a1 : Int) (r : Option Value) (h' : AH) : Prop := Fr (fun x => x = 120) h h' ∧ ((a1 ≠ 97 ∧ a1 ≠ 98 ∧ a1 ≠ 120 ∧ (∃ z, r = some (I z)) ∧ RI (zA S0) DRp h' mo 1 c w m E R b0 b1 b2) ∨ ∃ zi : Int, ((a1 = 97 ∧ zi = 0) ∨ (a1 = 98 ∧ zi = 1) ∨ (a1 = 120 ∧ zi = 2) ∨ (a1 ≠ 97 ∧ a1 ≠ 98 ∧ a1 ≠ 120 ∧ zi = -1)) ∧ 0 ≤ zi ∧ (((if zi = 0 then b0 else if zi = 1 then b1 else b2) = -1 ∧ (∃ z, r = some (I z)) ∧ RI (zA S0) DRp h' mo 2 c w m E R b0 b1 b2) ∨ ((if zi = 0 then b0 else if zi = 1 then b1 else b2) ≠ -1 ∧ r = some (I (if zi = 0 then b0 else if zi = 1 then b1 else b2)) ∧ RI (zA S0) DRp h' mo 0 c w m E R b0 b1 b2)))
theorem fP_broken {h h1 : AH} {xo : Nat} {w : Nat → Nat} {c m : Nat} {E : Nat → Nat} {R : Nat → Nat → Nat} {br bf bs be : Int} {D2 D3 : Nat → Bool} {so : Nat} {a1 : Int} {r : Option Value} (q : PC_broken h xo w c m E R br bf bs be D2 D3 so a1 r h1) : Fr HF h h1 := by
  unfold PC_broken at q
  obtain ⟨p1, p2, p3, p4⟩ := q
  rw [p1]; exact Fr.rf
theorem vP_broken {h h1 : AH} {xo : Nat} {w : Nat → Nat} {c m : Nat} {E : Nat → Nat} {R : Nat → Nat → Nat} {br bf bs be : Int} {D2 D3 : Nat → Bool} {so : Nat} {a1 : Int} {r : Option Value} (q : PC_broken h xo w c m E R br bf bs be D2 D3 so a1 r h1) : ∃ z : Int, r = some (I z) := by
  unfold PC_broken at q
  obtain ⟨p1, p2, p3, p4⟩ := q
  exact ⟨_, p4⟩
theorem fX_broken {h h1 : AH} {xo : Nat} {w : Nat → Nat} {c m : Nat} {E : Nat → Nat} {R : Nat → Nat → Nat} {br bf bs be : Int} {D2 D3 : Nat → Bool} {so : Nat} {a1 : Int} {e : String} (q : XC_broken h xo w c m E R br bf bs be D2 D3 so a1 e h1) : Fr HF h h1 := by
  unfold XC_broken at q
  rcases q with ⟨x1, (⟨x2, x3⟩ | ⟨x4, x5, x6⟩)⟩
  · rw [x1]; exact Fr.rf
  · rw [x1]; exact Fr.rf
theorem eX_broken {h h1 : AH} {xo : Nat} {w : Nat → Nat} {c m : Nat} {E : Nat → Nat} {R : Nat → Nat → Nat} {br bf bs be : Int} {D2 D3 : Nat → Bool} {so : Nat} {a1 : Int} {e : String} (q : XC_broken h xo w c m E R br bf bs be D2 D3 so a1 e h1) : e = eIAE ∨ e = eNSE := by
  unfold XC_broken at q
  rcases q with ⟨x1, (⟨x2, x3⟩ | ⟨x4, x5, x6⟩)⟩
  · exact Or.inl x3
  · exact Or.inr (x6)
theorem fR_broken {S0 : State} {h h1 : AH} {mo : Nat} {w : Nat → Nat} {c m : Nat} {E : Nat → Nat} {R : Nat → Nat → Nat} {b0 b1 b2 : Int} {a1 : Int} {r : Option Value} (q : PR_broken S0 h mo w c m E R b0 b1 b2 a1 r h1) : Fr (fun x => 120 ≤ x ∧ x ≤ 139) h h1 := by
  unfold PR_broken at q
  exact q.1.mono (fun l z => by omega)
theorem op_broken {S0 : State} {h h1 h2 hb : AH} {g : Nat → Int64} {xo mo : Nat} {w : Nat → Nat} {c m : Nat} {E : Nat → Nat} {R : Nat → Nat → Nat} {br bf bs be b0 b1 b2 : Int} {D2 D3 : Nat → Bool} {so kk : Nat} {r2 : Option Value} {a1 : Int} (hI : HI h xo w c m E R br bf bs be D2 D3 so) (hB : BrR br bf bs be b0 b1 b2) (hc : (kk = 0 ∧ ∃ z : Int, PC_broken h xo w c m E R br bf bs be D2 D3 so a1 (some (I z)) h1 ∧ g 0 = (Int32.ofInt z).toInt64) ∨ ∃ e : String, [eIAE, eNSE][kk - 1]? = some e ∧ 1 ≤ kk ∧ XC_broken h xo w c m E R br bf bs be D2 D3 so a1 e h1) (hr : PR_broken S0 hb mo w c m E R b0 b1 b2 a1 r2 h2) : ∃ z2 : Int, r2 = some (I z2) ∧ (kk = 0 → g 0 = (Int32.ofInt z2).toInt64) ∧ kk ≤ 4 ∧ Mg S0 h1 h2 xo mo kk (pC so D2) (pS so D2) := by
  have hM := hI.mtr.2.2.2.2.2.2
  unfold PR_broken at hr
  rcases hc with ⟨rfl, z, hp, hg⟩ | ⟨e, he, hk, hp⟩
  · unfold PC_broken at hp
    rcases hp with ⟨p1, p2, p3, p4⟩
    rcases hr with ⟨q1, (⟨q2, q3, q4, ⟨z2, q5⟩, q6⟩ | ⟨zi2, q7, q8, (⟨q9, ⟨z2, q10⟩, q11⟩ | ⟨q12, q13, q14⟩)⟩)⟩
    · exfalso
      first | omega | (first | exact brk_c1 hB p3 p2 q7 q8 q9 | exact brk_c2 hB x5 x4 q7 q8 q12)
    · exfalso
      first | omega | (first | exact brk_c1 hB p3 p2 q7 q8 q9 | exact brk_c2 hB x5 x4 q7 q8 q12)
    · subst p1
      refine ⟨_, q13, fun _ => ?_, by decide, ⟨_, _, _, _, _, _, _, _, _, _, _, _, _, _, _, hI, q14, hB, Nat.le_refl _, Nat.le_refl _⟩⟩
      rw [hg, iI p4]
      rw [brk_veq p2 q7 q8 hB p3]
  · unfold XC_broken at hp
    rcases ex2 he hk with ⟨rfl, rfl⟩ | ⟨rfl, rfl⟩
    · rcases hp with ⟨x1, (⟨x2, x3⟩ | ⟨x4, x5, x6⟩)⟩
      · rcases hr with ⟨q1, (⟨q2, q3, q4, ⟨z2, q5⟩, q6⟩ | ⟨zi2, q7, q8, (⟨q9, ⟨z2, q10⟩, q11⟩ | ⟨q12, q13, q14⟩)⟩)⟩
        · subst x1
          exact ⟨_, q5, fun q => absurd q (by decide), by decide, ⟨_, _, _, _, _, _, _, _, _, _, _, _, _, _, _, hI, q6, hB, Nat.le_refl _, Nat.le_refl _⟩⟩
        · exfalso
          first | omega | (first | exact brk_c1 hB p3 p2 q7 q8 q9 | exact brk_c2 hB x5 x4 q7 q8 q12)
        · exfalso
          first | omega | (first | exact brk_c1 hB p3 p2 q7 q8 q9 | exact brk_c2 hB x5 x4 q7 q8 q12)
      · exact absurd x6 (by decide)
    · rcases hp with ⟨x1, (⟨x2, x3⟩ | ⟨x4, x5, x6⟩)⟩
      · exact absurd x3 (by decide)
      · rcases hr with ⟨q1, (⟨q2, q3, q4, ⟨z2, q5⟩, q6⟩ | ⟨zi2, q7, q8, (⟨q9, ⟨z2, q10⟩, q11⟩ | ⟨q12, q13, q14⟩)⟩)⟩
        · exfalso
          first | omega | (first | exact brk_c1 hB p3 p2 q7 q8 q9 | exact brk_c2 hB x5 x4 q7 q8 q12)
        · subst x1
          exact ⟨_, q10, fun q => absurd q (by decide), by decide, ⟨_, _, _, _, _, _, _, _, _, _, _, _, _, _, _, hI, q11, hB, Nat.le_refl _, Nat.le_refl _⟩⟩
        · exfalso
          first | omega | (first | exact brk_c1 hB p3 p2 q7 q8 q9 | exact brk_c2 hB x5 x4 q7 q8 q12)
def PC_bases (h : AH) (xo : Nat) (w : Nat → Nat) (c m : Nat) (E : Nat → Nat) (R : Nat → Nat → Nat) (br bf bs be : Int) (D2 D3 : Nat → Bool) (so : Nat) (a1 : Int) (r : Option Value) (h' : AH) : Prop := ∃ e : Nat, (e ≤ 10 ∧ a1 = (e : Int) ∧ (∀ j, j < c → w j < 2 ^ e) ∧ oneN (mkB w c) e ∧ noBrk w c e) ∧ m < 24 ∧ r = some (I (m : Nat)) ∧ HI h' xo w 0 (m + 1) (up E m e) (up R m (rkT (fun s => b2n (inB w c s)) e (2 ^ e))) 0 bf bs be D2 D3 so ∧ Fr HF h h'
def XC_bases (h : AH) (xo : Nat) (w : Nat → Nat) (c m : Nat) (E : Nat → Nat) (R : Nat → Nat → Nat) (br bf bs be : Int) (D2 D3 : Nat → Bool) (so : Nat) (a1 : Int) (E' : String) (h' : AH) : Prop := (h' = h ∧ ¬ (0 ≤ a1 ∧ a1 ≤ 10) ∧ E' = eIAE) ∨ (Fr HF h h' ∧ ∃ e : Nat, e ≤ 10 ∧ a1 = (e : Int) ∧ ((¬ (∀ j, j < c → w j < 2 ^ e) ∧ E' = eUOE ∧ HI h' xo w c m E R 0 bf bs be D2 D3 so) ∨ ((∀ j, j < c → w j < 2 ^ e) ∧ ((¬ oneN (mkB w c) e ∧ E' = eUOE ∧ HI h' xo w c m E R 0 bf bs be D2 D3 so) ∨ (oneN (mkB w c) e ∧ ∃ f g el : Nat, f < 2 ^ e ∧ mkB w c f = true ∧ brkMin (mkB w c) e f g el ∧ (∀ f' g' el', f' < f → mkB w c f' = true → g' < 2 ^ e → el' < 10 → brk (mkB w c) e f' g' el' = false) ∧ E' = eUOE ∧ HI h' xo w c m E R 1 f g el D2 D3 so) ∨ (oneN (mkB w c) e ∧ noBrk w c e ∧ m = 24 ∧ E' = eISE ∧ HI h' xo w c m E R 0 bf bs be D2 D3 so)))))
def PR_bases (S0 : State) (h : AH) (mo : Nat) (w : Nat → Nat) (c m : Nat) (E : Nat → Nat) (R : Nat → Nat → Nat) (b0 b1 b2 : Int) (a1 : Int) (r : Option Value) (h' : AH) : Prop := Fr (fun x => 120 ≤ x ∧ x ≤ 139) h h' ∧ ((¬ (0 ≤ a1 ∧ a1 ≤ 10) ∧ (∃ z, r = some (I z)) ∧ RI (zA S0) DRp h' mo 1 c w m E R b0 b1 b2) ∨ ∃ e : Nat, a1 = (e : Int) ∧ e ≤ 10 ∧ ((¬ (∀ k, k < c → w k < 2 ^ e) ∧ (∃ z, r = some (I z)) ∧ RI (zA S0) DRp h' mo 2 c w m E R (-1) (-1) (-1)) ∨ ((∀ k, k < c → w k < 2 ^ e) ∧ ((¬ evnP w c ∧ (∃ z, r = some (I z)) ∧ RI (zA S0) DRp h' mo 2 c w m E R (-1) (-1) (-1)) ∨ (evnP w c ∧ ((∃ s t u : Nat, BrkP (basB w c) s t u ∧ (∃ z, r = some (I z)) ∧ RI (zA S0) DRp h' mo 2 c w m E R (s : Int) (t : Int) (u : Int)) ∨ (xchO (basB w c) ∧ ((m = 24 ∧ (∃ z, r = some (I z)) ∧ RI (zA S0) DRp h' mo 3 c w m E R (-1) (-1) (-1)) ∨ (m ≠ 24 ∧ r = some (I (m : Nat)) ∧ RI (zA S0) DRp h' mo 0 0 w (m + 1) (up E m e) (up R m (basM w c e)) (-1) (-1) (-1))))))))))
theorem fP_bases {h h1 : AH} {xo : Nat} {w : Nat → Nat} {c m : Nat} {E : Nat → Nat} {R : Nat → Nat → Nat} {br bf bs be : Int} {D2 D3 : Nat → Bool} {so : Nat} {a1 : Int} {r : Option Value} (q : PC_bases h xo w c m E R br bf bs be D2 D3 so a1 r h1) : Fr HF h h1 := by
  unfold PC_bases at q
  obtain ⟨e, ⟨p1, p2, p3, p4, p5⟩, p6, p7, p8, p9⟩ := q
  exact p9
theorem vP_bases {h h1 : AH} {xo : Nat} {w : Nat → Nat} {c m : Nat} {E : Nat → Nat} {R : Nat → Nat → Nat} {br bf bs be : Int} {D2 D3 : Nat → Bool} {so : Nat} {a1 : Int} {r : Option Value} (q : PC_bases h xo w c m E R br bf bs be D2 D3 so a1 r h1) : ∃ z : Int, r = some (I z) := by
  unfold PC_bases at q
  obtain ⟨e, ⟨p1, p2, p3, p4, p5⟩, p6, p7, p8, p9⟩ := q
  exact ⟨_, p7⟩
theorem fX_bases {h h1 : AH} {xo : Nat} {w : Nat → Nat} {c m : Nat} {E : Nat → Nat} {R : Nat → Nat → Nat} {br bf bs be : Int} {D2 D3 : Nat → Bool} {so : Nat} {a1 : Int} {e : String} (q : XC_bases h xo w c m E R br bf bs be D2 D3 so a1 e h1) : Fr HF h h1 := by
  unfold XC_bases at q
  rcases q with (⟨x1, x2, x3⟩ | ⟨x4, e, x5, x6, (⟨x7, x8, x9⟩ | ⟨x10, (⟨x11, x12, x13⟩ | ⟨x14, f, g, el, x15, x16, x17, x18, x19, x20⟩ | ⟨x21, x22, x23, x24, x25⟩)⟩)⟩)
  · rw [x1]; exact Fr.rf
  · exact x4
  · exact x4
  · exact x4
  · exact x4
theorem eX_bases {h h1 : AH} {xo : Nat} {w : Nat → Nat} {c m : Nat} {E : Nat → Nat} {R : Nat → Nat → Nat} {br bf bs be : Int} {D2 D3 : Nat → Bool} {so : Nat} {a1 : Int} {e : String} (q : XC_bases h xo w c m E R br bf bs be D2 D3 so a1 e h1) : e = eIAE ∨ e = eUOE ∨ e = eISE := by
  unfold XC_bases at q
  rcases q with (⟨x1, x2, x3⟩ | ⟨x4, e, x5, x6, (⟨x7, x8, x9⟩ | ⟨x10, (⟨x11, x12, x13⟩ | ⟨x14, f, g, el, x15, x16, x17, x18, x19, x20⟩ | ⟨x21, x22, x23, x24, x25⟩)⟩)⟩)
  · exact Or.inl x3
  · exact Or.inr (Or.inl x8)
  · exact Or.inr (Or.inl x12)
  · exact Or.inr (Or.inl x19)
  · exact Or.inr (Or.inr (x24))
theorem fR_bases {S0 : State} {h h1 : AH} {mo : Nat} {w : Nat → Nat} {c m : Nat} {E : Nat → Nat} {R : Nat → Nat → Nat} {b0 b1 b2 : Int} {a1 : Int} {r : Option Value} (q : PR_bases S0 h mo w c m E R b0 b1 b2 a1 r h1) : Fr (fun x => 120 ≤ x ∧ x ≤ 139) h h1 := by
  unfold PR_bases at q
  exact q.1.mono (fun l z => by omega)
theorem op_bases {S0 : State} {h h1 h2 hb : AH} {g : Nat → Int64} {xo mo : Nat} {w : Nat → Nat} {c m : Nat} {E : Nat → Nat} {R : Nat → Nat → Nat} {br bf bs be b0 b1 b2 : Int} {D2 D3 : Nat → Bool} {so kk : Nat} {r2 : Option Value} {a1 : Int} (hI : HI h xo w c m E R br bf bs be D2 D3 so) (hB : BrR br bf bs be b0 b1 b2) (hc : (kk = 0 ∧ ∃ z : Int, PC_bases h xo w c m E R br bf bs be D2 D3 so a1 (some (I z)) h1 ∧ g 0 = (Int32.ofInt z).toInt64) ∨ ∃ e : String, [eIAE, eUOE, eISE][kk - 1]? = some e ∧ 1 ≤ kk ∧ XC_bases h xo w c m E R br bf bs be D2 D3 so a1 e h1) (hr : PR_bases S0 hb mo w c m E R b0 b1 b2 a1 r2 h2) : ∃ z2 : Int, r2 = some (I z2) ∧ (kk = 0 → g 0 = (Int32.ofInt z2).toInt64) ∧ kk ≤ 4 ∧ Mg S0 h1 h2 xo mo kk (pC so D2) (pS so D2) := by
  have hM := hI.mtr.2.2.2.2.2.2
  unfold PR_bases at hr
  rcases hc with ⟨rfl, z, hp, hg⟩ | ⟨e, he, hk, hp⟩
  · unfold PC_bases at hp
    rcases hp with ⟨e, ⟨p1, p2, p3, p4, p5⟩, p6, p7, p8, p9⟩
    rcases hr with ⟨q1, (⟨q2, ⟨z2, q3⟩, q4⟩ | ⟨e2, q5, q6, (⟨q7, ⟨z2, q8⟩, q9⟩ | ⟨q10, (⟨q11, ⟨z2, q12⟩, q13⟩ | ⟨q14, (⟨s2, t2, u2, q15, ⟨z2, q16⟩, q17⟩ | ⟨q18, (⟨q19, ⟨z2, q20⟩, q21⟩ | ⟨q22, q23, q24⟩)⟩)⟩)⟩)⟩)⟩
    · exfalso
      first | omega | (first | exact x7 q10 | exact q7 x10 | exact q7 p3 | exact x11 ((evn_one x10).mp q14) | exact q11 ((evn_one x10).mpr x14) | exact q11 ((evn_one x10).mpr x21) | exact q11 ((evn_one p3).mpr p4) | exact bas_basB q15 ((noBrk_iff x5 x10).mp x22) | exact bas_basB q15 ((noBrk_iff p1 p3).mp p5) | exact absurd ((noBrk_iff x5 x10).mpr q18 _ _ _ x15 x16 x17.1 x17.2.1) (by rw [x17.2.2.1]; decide))
    · obtain rfl : e = e2 := by omega
      exfalso
      first | omega | (first | exact x7 q10 | exact q7 x10 | exact q7 p3 | exact x11 ((evn_one x10).mp q14) | exact q11 ((evn_one x10).mpr x14) | exact q11 ((evn_one x10).mpr x21) | exact q11 ((evn_one p3).mpr p4) | exact bas_basB q15 ((noBrk_iff x5 x10).mp x22) | exact bas_basB q15 ((noBrk_iff p1 p3).mp p5) | exact absurd ((noBrk_iff x5 x10).mpr q18 _ _ _ x15 x16 x17.1 x17.2.1) (by rw [x17.2.2.1]; decide))
    · obtain rfl : e = e2 := by omega
      exfalso
      first | omega | (first | exact x7 q10 | exact q7 x10 | exact q7 p3 | exact x11 ((evn_one x10).mp q14) | exact q11 ((evn_one x10).mpr x14) | exact q11 ((evn_one x10).mpr x21) | exact q11 ((evn_one p3).mpr p4) | exact bas_basB q15 ((noBrk_iff x5 x10).mp x22) | exact bas_basB q15 ((noBrk_iff p1 p3).mp p5) | exact absurd ((noBrk_iff x5 x10).mpr q18 _ _ _ x15 x16 x17.1 x17.2.1) (by rw [x17.2.2.1]; decide))
    · obtain rfl : e = e2 := by omega
      exfalso
      first | omega | (first | exact x7 q10 | exact q7 x10 | exact q7 p3 | exact x11 ((evn_one x10).mp q14) | exact q11 ((evn_one x10).mpr x14) | exact q11 ((evn_one x10).mpr x21) | exact q11 ((evn_one p3).mpr p4) | exact bas_basB q15 ((noBrk_iff x5 x10).mp x22) | exact bas_basB q15 ((noBrk_iff p1 p3).mp p5) | exact absurd ((noBrk_iff x5 x10).mpr q18 _ _ _ x15 x16 x17.1 x17.2.1) (by rw [x17.2.2.1]; decide))
    · obtain rfl : e = e2 := by omega
      exfalso
      first | omega | (first | exact x7 q10 | exact q7 x10 | exact q7 p3 | exact x11 ((evn_one x10).mp q14) | exact q11 ((evn_one x10).mpr x14) | exact q11 ((evn_one x10).mpr x21) | exact q11 ((evn_one p3).mpr p4) | exact bas_basB q15 ((noBrk_iff x5 x10).mp x22) | exact bas_basB q15 ((noBrk_iff p1 p3).mp p5) | exact absurd ((noBrk_iff x5 x10).mpr q18 _ _ _ x15 x16 x17.1 x17.2.1) (by rw [x17.2.2.1]; decide))
    · obtain rfl : e = e2 := by omega
      refine ⟨_, q23, fun _ => ?_, by decide, ⟨_, _, _, _, _, _, _, _, _, _, _, _, _, _, _, p8, (RI.up q24 (fun s hs => (bases_same (by assumption) (fun j hj => Nat.lt_of_lt_of_le (p3 j hj) (p2_le p1)) hs).symm)), (by first | exact hB | exact Or.inl ⟨rfl, rfl, rfl, rfl⟩), Nat.le_refl _, Nat.le_refl _⟩⟩
      rw [hg, iI p7]
  · unfold XC_bases at hp
    rcases ex3 he hk with ⟨rfl, rfl⟩ | ⟨rfl, rfl⟩ | ⟨rfl, rfl⟩
    · rcases hp with (⟨x1, x2, x3⟩ | ⟨x4, e, x5, x6, (⟨x7, x8, x9⟩ | ⟨x10, (⟨x11, x12, x13⟩ | ⟨x14, f, g, el, x15, x16, x17, x18, x19, x20⟩ | ⟨x21, x22, x23, x24, x25⟩)⟩)⟩)
      · rcases hr with ⟨q1, (⟨q2, ⟨z2, q3⟩, q4⟩ | ⟨e2, q5, q6, (⟨q7, ⟨z2, q8⟩, q9⟩ | ⟨q10, (⟨q11, ⟨z2, q12⟩, q13⟩ | ⟨q14, (⟨s2, t2, u2, q15, ⟨z2, q16⟩, q17⟩ | ⟨q18, (⟨q19, ⟨z2, q20⟩, q21⟩ | ⟨q22, q23, q24⟩)⟩)⟩)⟩)⟩)⟩
        · subst x1
          first
            | exact ⟨_, q3, fun q => absurd q (by decide), by decide, ⟨_, _, _, _, _, _, _, _, _, _, _, _, _, _, _, hI, q4, (by first | exact hB | exact Or.inl ⟨rfl, rfl, rfl, rfl⟩), Nat.le_refl _, Nat.le_refl _⟩⟩
            | (obtain ⟨rfl, rfl, rfl⟩ := breaks_same x5 x10 x15 x16 x17 x18 q15; have pl := p2_le x5; have b1 := x17.1; have b2 := x17.2.1; exact ⟨_, q3, fun q => absurd q (by decide), by decide, ⟨_, _, _, _, _, _, _, _, _, _, _, _, _, _, _, hI, q4, Or.inr ⟨rfl, rfl, rfl, rfl, ⟨by omega, by omega⟩, ⟨by omega, by omega⟩, by omega, by omega⟩, Nat.le_refl _, Nat.le_refl _⟩⟩)
            | (exfalso; first | exact x7 q10 | exact q7 x10 | exact q7 p3 | exact x11 ((evn_one x10).mp q14) | exact q11 ((evn_one x10).mpr x14) | exact q11 ((evn_one x10).mpr x21) | exact q11 ((evn_one p3).mpr p4) | exact bas_basB q15 ((noBrk_iff x5 x10).mp x22) | exact bas_basB q15 ((noBrk_iff p1 p3).mp p5) | exact absurd ((noBrk_iff x5 x10).mpr q18 _ _ _ x15 x16 x17.1 x17.2.1) (by rw [x17.2.2.1]; decide))
        · exfalso
          first | omega | (first | exact x7 q10 | exact q7 x10 | exact q7 p3 | exact x11 ((evn_one x10).mp q14) | exact q11 ((evn_one x10).mpr x14) | exact q11 ((evn_one x10).mpr x21) | exact q11 ((evn_one p3).mpr p4) | exact bas_basB q15 ((noBrk_iff x5 x10).mp x22) | exact bas_basB q15 ((noBrk_iff p1 p3).mp p5) | exact absurd ((noBrk_iff x5 x10).mpr q18 _ _ _ x15 x16 x17.1 x17.2.1) (by rw [x17.2.2.1]; decide))
        · exfalso
          first | omega | (first | exact x7 q10 | exact q7 x10 | exact q7 p3 | exact x11 ((evn_one x10).mp q14) | exact q11 ((evn_one x10).mpr x14) | exact q11 ((evn_one x10).mpr x21) | exact q11 ((evn_one p3).mpr p4) | exact bas_basB q15 ((noBrk_iff x5 x10).mp x22) | exact bas_basB q15 ((noBrk_iff p1 p3).mp p5) | exact absurd ((noBrk_iff x5 x10).mpr q18 _ _ _ x15 x16 x17.1 x17.2.1) (by rw [x17.2.2.1]; decide))
        · exfalso
          first | omega | (first | exact x7 q10 | exact q7 x10 | exact q7 p3 | exact x11 ((evn_one x10).mp q14) | exact q11 ((evn_one x10).mpr x14) | exact q11 ((evn_one x10).mpr x21) | exact q11 ((evn_one p3).mpr p4) | exact bas_basB q15 ((noBrk_iff x5 x10).mp x22) | exact bas_basB q15 ((noBrk_iff p1 p3).mp p5) | exact absurd ((noBrk_iff x5 x10).mpr q18 _ _ _ x15 x16 x17.1 x17.2.1) (by rw [x17.2.2.1]; decide))
        · exfalso
          first | omega | (first | exact x7 q10 | exact q7 x10 | exact q7 p3 | exact x11 ((evn_one x10).mp q14) | exact q11 ((evn_one x10).mpr x14) | exact q11 ((evn_one x10).mpr x21) | exact q11 ((evn_one p3).mpr p4) | exact bas_basB q15 ((noBrk_iff x5 x10).mp x22) | exact bas_basB q15 ((noBrk_iff p1 p3).mp p5) | exact absurd ((noBrk_iff x5 x10).mpr q18 _ _ _ x15 x16 x17.1 x17.2.1) (by rw [x17.2.2.1]; decide))
        · exfalso
          first | omega | (first | exact x7 q10 | exact q7 x10 | exact q7 p3 | exact x11 ((evn_one x10).mp q14) | exact q11 ((evn_one x10).mpr x14) | exact q11 ((evn_one x10).mpr x21) | exact q11 ((evn_one p3).mpr p4) | exact bas_basB q15 ((noBrk_iff x5 x10).mp x22) | exact bas_basB q15 ((noBrk_iff p1 p3).mp p5) | exact absurd ((noBrk_iff x5 x10).mpr q18 _ _ _ x15 x16 x17.1 x17.2.1) (by rw [x17.2.2.1]; decide))
      · exact absurd x8 (by decide)
      · exact absurd x12 (by decide)
      · exact absurd x19 (by decide)
      · exact absurd x24 (by decide)
    · rcases hp with (⟨x1, x2, x3⟩ | ⟨x4, e, x5, x6, (⟨x7, x8, x9⟩ | ⟨x10, (⟨x11, x12, x13⟩ | ⟨x14, f, g, el, x15, x16, x17, x18, x19, x20⟩ | ⟨x21, x22, x23, x24, x25⟩)⟩)⟩)
      · exact absurd x3 (by decide)
      · rcases hr with ⟨q1, (⟨q2, ⟨z2, q3⟩, q4⟩ | ⟨e2, q5, q6, (⟨q7, ⟨z2, q8⟩, q9⟩ | ⟨q10, (⟨q11, ⟨z2, q12⟩, q13⟩ | ⟨q14, (⟨s2, t2, u2, q15, ⟨z2, q16⟩, q17⟩ | ⟨q18, (⟨q19, ⟨z2, q20⟩, q21⟩ | ⟨q22, q23, q24⟩)⟩)⟩)⟩)⟩)⟩
        · exfalso
          first | omega | (first | exact x7 q10 | exact q7 x10 | exact q7 p3 | exact x11 ((evn_one x10).mp q14) | exact q11 ((evn_one x10).mpr x14) | exact q11 ((evn_one x10).mpr x21) | exact q11 ((evn_one p3).mpr p4) | exact bas_basB q15 ((noBrk_iff x5 x10).mp x22) | exact bas_basB q15 ((noBrk_iff p1 p3).mp p5) | exact absurd ((noBrk_iff x5 x10).mpr q18 _ _ _ x15 x16 x17.1 x17.2.1) (by rw [x17.2.2.1]; decide))
        · obtain rfl : e = e2 := by omega
          first
            | exact ⟨_, q8, fun q => absurd q (by decide), by decide, ⟨_, _, _, _, _, _, _, _, _, _, _, _, _, _, _, x9, q9, (by first | exact hB | exact Or.inl ⟨rfl, rfl, rfl, rfl⟩), Nat.le_refl _, Nat.le_refl _⟩⟩
            | (obtain ⟨rfl, rfl, rfl⟩ := breaks_same x5 x10 x15 x16 x17 x18 q15; have pl := p2_le x5; have b1 := x17.1; have b2 := x17.2.1; exact ⟨_, q8, fun q => absurd q (by decide), by decide, ⟨_, _, _, _, _, _, _, _, _, _, _, _, _, _, _, x9, q9, Or.inr ⟨rfl, rfl, rfl, rfl, ⟨by omega, by omega⟩, ⟨by omega, by omega⟩, by omega, by omega⟩, Nat.le_refl _, Nat.le_refl _⟩⟩)
            | (exfalso; first | exact x7 q10 | exact q7 x10 | exact q7 p3 | exact x11 ((evn_one x10).mp q14) | exact q11 ((evn_one x10).mpr x14) | exact q11 ((evn_one x10).mpr x21) | exact q11 ((evn_one p3).mpr p4) | exact bas_basB q15 ((noBrk_iff x5 x10).mp x22) | exact bas_basB q15 ((noBrk_iff p1 p3).mp p5) | exact absurd ((noBrk_iff x5 x10).mpr q18 _ _ _ x15 x16 x17.1 x17.2.1) (by rw [x17.2.2.1]; decide))
        · obtain rfl : e = e2 := by omega
          first
            | exact ⟨_, q12, fun q => absurd q (by decide), by decide, ⟨_, _, _, _, _, _, _, _, _, _, _, _, _, _, _, x9, q13, (by first | exact hB | exact Or.inl ⟨rfl, rfl, rfl, rfl⟩), Nat.le_refl _, Nat.le_refl _⟩⟩
            | (obtain ⟨rfl, rfl, rfl⟩ := breaks_same x5 x10 x15 x16 x17 x18 q15; have pl := p2_le x5; have b1 := x17.1; have b2 := x17.2.1; exact ⟨_, q12, fun q => absurd q (by decide), by decide, ⟨_, _, _, _, _, _, _, _, _, _, _, _, _, _, _, x9, q13, Or.inr ⟨rfl, rfl, rfl, rfl, ⟨by omega, by omega⟩, ⟨by omega, by omega⟩, by omega, by omega⟩, Nat.le_refl _, Nat.le_refl _⟩⟩)
            | (exfalso; first | exact x7 q10 | exact q7 x10 | exact q7 p3 | exact x11 ((evn_one x10).mp q14) | exact q11 ((evn_one x10).mpr x14) | exact q11 ((evn_one x10).mpr x21) | exact q11 ((evn_one p3).mpr p4) | exact bas_basB q15 ((noBrk_iff x5 x10).mp x22) | exact bas_basB q15 ((noBrk_iff p1 p3).mp p5) | exact absurd ((noBrk_iff x5 x10).mpr q18 _ _ _ x15 x16 x17.1 x17.2.1) (by rw [x17.2.2.1]; decide))
        · obtain rfl : e = e2 := by omega
          first
            | exact ⟨_, q16, fun q => absurd q (by decide), by decide, ⟨_, _, _, _, _, _, _, _, _, _, _, _, _, _, _, x9, q17, (by first | exact hB | exact Or.inl ⟨rfl, rfl, rfl, rfl⟩), Nat.le_refl _, Nat.le_refl _⟩⟩
            | (obtain ⟨rfl, rfl, rfl⟩ := breaks_same x5 x10 x15 x16 x17 x18 q15; have pl := p2_le x5; have b1 := x17.1; have b2 := x17.2.1; exact ⟨_, q16, fun q => absurd q (by decide), by decide, ⟨_, _, _, _, _, _, _, _, _, _, _, _, _, _, _, x9, q17, Or.inr ⟨rfl, rfl, rfl, rfl, ⟨by omega, by omega⟩, ⟨by omega, by omega⟩, by omega, by omega⟩, Nat.le_refl _, Nat.le_refl _⟩⟩)
            | (exfalso; first | exact x7 q10 | exact q7 x10 | exact q7 p3 | exact x11 ((evn_one x10).mp q14) | exact q11 ((evn_one x10).mpr x14) | exact q11 ((evn_one x10).mpr x21) | exact q11 ((evn_one p3).mpr p4) | exact bas_basB q15 ((noBrk_iff x5 x10).mp x22) | exact bas_basB q15 ((noBrk_iff p1 p3).mp p5) | exact absurd ((noBrk_iff x5 x10).mpr q18 _ _ _ x15 x16 x17.1 x17.2.1) (by rw [x17.2.2.1]; decide))
        · obtain rfl : e = e2 := by omega
          exfalso
          first | omega | (first | exact x7 q10 | exact q7 x10 | exact q7 p3 | exact x11 ((evn_one x10).mp q14) | exact q11 ((evn_one x10).mpr x14) | exact q11 ((evn_one x10).mpr x21) | exact q11 ((evn_one p3).mpr p4) | exact bas_basB q15 ((noBrk_iff x5 x10).mp x22) | exact bas_basB q15 ((noBrk_iff p1 p3).mp p5) | exact absurd ((noBrk_iff x5 x10).mpr q18 _ _ _ x15 x16 x17.1 x17.2.1) (by rw [x17.2.2.1]; decide))
        · obtain rfl : e = e2 := by omega
          exfalso
          first | omega | (first | exact x7 q10 | exact q7 x10 | exact q7 p3 | exact x11 ((evn_one x10).mp q14) | exact q11 ((evn_one x10).mpr x14) | exact q11 ((evn_one x10).mpr x21) | exact q11 ((evn_one p3).mpr p4) | exact bas_basB q15 ((noBrk_iff x5 x10).mp x22) | exact bas_basB q15 ((noBrk_iff p1 p3).mp p5) | exact absurd ((noBrk_iff x5 x10).mpr q18 _ _ _ x15 x16 x17.1 x17.2.1) (by rw [x17.2.2.1]; decide))
      · rcases hr with ⟨q1, (⟨q2, ⟨z2, q3⟩, q4⟩ | ⟨e2, q5, q6, (⟨q7, ⟨z2, q8⟩, q9⟩ | ⟨q10, (⟨q11, ⟨z2, q12⟩, q13⟩ | ⟨q14, (⟨s2, t2, u2, q15, ⟨z2, q16⟩, q17⟩ | ⟨q18, (⟨q19, ⟨z2, q20⟩, q21⟩ | ⟨q22, q23, q24⟩)⟩)⟩)⟩)⟩)⟩
        · exfalso
          first | omega | (first | exact x7 q10 | exact q7 x10 | exact q7 p3 | exact x11 ((evn_one x10).mp q14) | exact q11 ((evn_one x10).mpr x14) | exact q11 ((evn_one x10).mpr x21) | exact q11 ((evn_one p3).mpr p4) | exact bas_basB q15 ((noBrk_iff x5 x10).mp x22) | exact bas_basB q15 ((noBrk_iff p1 p3).mp p5) | exact absurd ((noBrk_iff x5 x10).mpr q18 _ _ _ x15 x16 x17.1 x17.2.1) (by rw [x17.2.2.1]; decide))
        · obtain rfl : e = e2 := by omega
          first
            | exact ⟨_, q8, fun q => absurd q (by decide), by decide, ⟨_, _, _, _, _, _, _, _, _, _, _, _, _, _, _, x13, q9, (by first | exact hB | exact Or.inl ⟨rfl, rfl, rfl, rfl⟩), Nat.le_refl _, Nat.le_refl _⟩⟩
            | (obtain ⟨rfl, rfl, rfl⟩ := breaks_same x5 x10 x15 x16 x17 x18 q15; have pl := p2_le x5; have b1 := x17.1; have b2 := x17.2.1; exact ⟨_, q8, fun q => absurd q (by decide), by decide, ⟨_, _, _, _, _, _, _, _, _, _, _, _, _, _, _, x13, q9, Or.inr ⟨rfl, rfl, rfl, rfl, ⟨by omega, by omega⟩, ⟨by omega, by omega⟩, by omega, by omega⟩, Nat.le_refl _, Nat.le_refl _⟩⟩)
            | (exfalso; first | exact x7 q10 | exact q7 x10 | exact q7 p3 | exact x11 ((evn_one x10).mp q14) | exact q11 ((evn_one x10).mpr x14) | exact q11 ((evn_one x10).mpr x21) | exact q11 ((evn_one p3).mpr p4) | exact bas_basB q15 ((noBrk_iff x5 x10).mp x22) | exact bas_basB q15 ((noBrk_iff p1 p3).mp p5) | exact absurd ((noBrk_iff x5 x10).mpr q18 _ _ _ x15 x16 x17.1 x17.2.1) (by rw [x17.2.2.1]; decide))
        · obtain rfl : e = e2 := by omega
          first
            | exact ⟨_, q12, fun q => absurd q (by decide), by decide, ⟨_, _, _, _, _, _, _, _, _, _, _, _, _, _, _, x13, q13, (by first | exact hB | exact Or.inl ⟨rfl, rfl, rfl, rfl⟩), Nat.le_refl _, Nat.le_refl _⟩⟩
            | (obtain ⟨rfl, rfl, rfl⟩ := breaks_same x5 x10 x15 x16 x17 x18 q15; have pl := p2_le x5; have b1 := x17.1; have b2 := x17.2.1; exact ⟨_, q12, fun q => absurd q (by decide), by decide, ⟨_, _, _, _, _, _, _, _, _, _, _, _, _, _, _, x13, q13, Or.inr ⟨rfl, rfl, rfl, rfl, ⟨by omega, by omega⟩, ⟨by omega, by omega⟩, by omega, by omega⟩, Nat.le_refl _, Nat.le_refl _⟩⟩)
            | (exfalso; first | exact x7 q10 | exact q7 x10 | exact q7 p3 | exact x11 ((evn_one x10).mp q14) | exact q11 ((evn_one x10).mpr x14) | exact q11 ((evn_one x10).mpr x21) | exact q11 ((evn_one p3).mpr p4) | exact bas_basB q15 ((noBrk_iff x5 x10).mp x22) | exact bas_basB q15 ((noBrk_iff p1 p3).mp p5) | exact absurd ((noBrk_iff x5 x10).mpr q18 _ _ _ x15 x16 x17.1 x17.2.1) (by rw [x17.2.2.1]; decide))
        · obtain rfl : e = e2 := by omega
          first
            | exact ⟨_, q16, fun q => absurd q (by decide), by decide, ⟨_, _, _, _, _, _, _, _, _, _, _, _, _, _, _, x13, q17, (by first | exact hB | exact Or.inl ⟨rfl, rfl, rfl, rfl⟩), Nat.le_refl _, Nat.le_refl _⟩⟩
            | (obtain ⟨rfl, rfl, rfl⟩ := breaks_same x5 x10 x15 x16 x17 x18 q15; have pl := p2_le x5; have b1 := x17.1; have b2 := x17.2.1; exact ⟨_, q16, fun q => absurd q (by decide), by decide, ⟨_, _, _, _, _, _, _, _, _, _, _, _, _, _, _, x13, q17, Or.inr ⟨rfl, rfl, rfl, rfl, ⟨by omega, by omega⟩, ⟨by omega, by omega⟩, by omega, by omega⟩, Nat.le_refl _, Nat.le_refl _⟩⟩)
            | (exfalso; first | exact x7 q10 | exact q7 x10 | exact q7 p3 | exact x11 ((evn_one x10).mp q14) | exact q11 ((evn_one x10).mpr x14) | exact q11 ((evn_one x10).mpr x21) | exact q11 ((evn_one p3).mpr p4) | exact bas_basB q15 ((noBrk_iff x5 x10).mp x22) | exact bas_basB q15 ((noBrk_iff p1 p3).mp p5) | exact absurd ((noBrk_iff x5 x10).mpr q18 _ _ _ x15 x16 x17.1 x17.2.1) (by rw [x17.2.2.1]; decide))
        · obtain rfl : e = e2 := by omega
          exfalso
          first | omega | (first | exact x7 q10 | exact q7 x10 | exact q7 p3 | exact x11 ((evn_one x10).mp q14) | exact q11 ((evn_one x10).mpr x14) | exact q11 ((evn_one x10).mpr x21) | exact q11 ((evn_one p3).mpr p4) | exact bas_basB q15 ((noBrk_iff x5 x10).mp x22) | exact bas_basB q15 ((noBrk_iff p1 p3).mp p5) | exact absurd ((noBrk_iff x5 x10).mpr q18 _ _ _ x15 x16 x17.1 x17.2.1) (by rw [x17.2.2.1]; decide))
        · obtain rfl : e = e2 := by omega
          exfalso
          first | omega | (first | exact x7 q10 | exact q7 x10 | exact q7 p3 | exact x11 ((evn_one x10).mp q14) | exact q11 ((evn_one x10).mpr x14) | exact q11 ((evn_one x10).mpr x21) | exact q11 ((evn_one p3).mpr p4) | exact bas_basB q15 ((noBrk_iff x5 x10).mp x22) | exact bas_basB q15 ((noBrk_iff p1 p3).mp p5) | exact absurd ((noBrk_iff x5 x10).mpr q18 _ _ _ x15 x16 x17.1 x17.2.1) (by rw [x17.2.2.1]; decide))
      · rcases hr with ⟨q1, (⟨q2, ⟨z2, q3⟩, q4⟩ | ⟨e2, q5, q6, (⟨q7, ⟨z2, q8⟩, q9⟩ | ⟨q10, (⟨q11, ⟨z2, q12⟩, q13⟩ | ⟨q14, (⟨s2, t2, u2, q15, ⟨z2, q16⟩, q17⟩ | ⟨q18, (⟨q19, ⟨z2, q20⟩, q21⟩ | ⟨q22, q23, q24⟩)⟩)⟩)⟩)⟩)⟩
        · exfalso
          first | omega | (first | exact x7 q10 | exact q7 x10 | exact q7 p3 | exact x11 ((evn_one x10).mp q14) | exact q11 ((evn_one x10).mpr x14) | exact q11 ((evn_one x10).mpr x21) | exact q11 ((evn_one p3).mpr p4) | exact bas_basB q15 ((noBrk_iff x5 x10).mp x22) | exact bas_basB q15 ((noBrk_iff p1 p3).mp p5) | exact absurd ((noBrk_iff x5 x10).mpr q18 _ _ _ x15 x16 x17.1 x17.2.1) (by rw [x17.2.2.1]; decide))
        · obtain rfl : e = e2 := by omega
          first
            | exact ⟨_, q8, fun q => absurd q (by decide), by decide, ⟨_, _, _, _, _, _, _, _, _, _, _, _, _, _, _, x20, q9, (by first | exact hB | exact Or.inl ⟨rfl, rfl, rfl, rfl⟩), Nat.le_refl _, Nat.le_refl _⟩⟩
            | (obtain ⟨rfl, rfl, rfl⟩ := breaks_same x5 x10 x15 x16 x17 x18 q15; have pl := p2_le x5; have b1 := x17.1; have b2 := x17.2.1; exact ⟨_, q8, fun q => absurd q (by decide), by decide, ⟨_, _, _, _, _, _, _, _, _, _, _, _, _, _, _, x20, q9, Or.inr ⟨rfl, rfl, rfl, rfl, ⟨by omega, by omega⟩, ⟨by omega, by omega⟩, by omega, by omega⟩, Nat.le_refl _, Nat.le_refl _⟩⟩)
            | (exfalso; first | exact x7 q10 | exact q7 x10 | exact q7 p3 | exact x11 ((evn_one x10).mp q14) | exact q11 ((evn_one x10).mpr x14) | exact q11 ((evn_one x10).mpr x21) | exact q11 ((evn_one p3).mpr p4) | exact bas_basB q15 ((noBrk_iff x5 x10).mp x22) | exact bas_basB q15 ((noBrk_iff p1 p3).mp p5) | exact absurd ((noBrk_iff x5 x10).mpr q18 _ _ _ x15 x16 x17.1 x17.2.1) (by rw [x17.2.2.1]; decide))
        · obtain rfl : e = e2 := by omega
          first
            | exact ⟨_, q12, fun q => absurd q (by decide), by decide, ⟨_, _, _, _, _, _, _, _, _, _, _, _, _, _, _, x20, q13, (by first | exact hB | exact Or.inl ⟨rfl, rfl, rfl, rfl⟩), Nat.le_refl _, Nat.le_refl _⟩⟩
            | (obtain ⟨rfl, rfl, rfl⟩ := breaks_same x5 x10 x15 x16 x17 x18 q15; have pl := p2_le x5; have b1 := x17.1; have b2 := x17.2.1; exact ⟨_, q12, fun q => absurd q (by decide), by decide, ⟨_, _, _, _, _, _, _, _, _, _, _, _, _, _, _, x20, q13, Or.inr ⟨rfl, rfl, rfl, rfl, ⟨by omega, by omega⟩, ⟨by omega, by omega⟩, by omega, by omega⟩, Nat.le_refl _, Nat.le_refl _⟩⟩)
            | (exfalso; first | exact x7 q10 | exact q7 x10 | exact q7 p3 | exact x11 ((evn_one x10).mp q14) | exact q11 ((evn_one x10).mpr x14) | exact q11 ((evn_one x10).mpr x21) | exact q11 ((evn_one p3).mpr p4) | exact bas_basB q15 ((noBrk_iff x5 x10).mp x22) | exact bas_basB q15 ((noBrk_iff p1 p3).mp p5) | exact absurd ((noBrk_iff x5 x10).mpr q18 _ _ _ x15 x16 x17.1 x17.2.1) (by rw [x17.2.2.1]; decide))
        · obtain rfl : e = e2 := by omega
          first
            | exact ⟨_, q16, fun q => absurd q (by decide), by decide, ⟨_, _, _, _, _, _, _, _, _, _, _, _, _, _, _, x20, q17, (by first | exact hB | exact Or.inl ⟨rfl, rfl, rfl, rfl⟩), Nat.le_refl _, Nat.le_refl _⟩⟩
            | (obtain ⟨rfl, rfl, rfl⟩ := breaks_same x5 x10 x15 x16 x17 x18 q15; have pl := p2_le x5; have b1 := x17.1; have b2 := x17.2.1; exact ⟨_, q16, fun q => absurd q (by decide), by decide, ⟨_, _, _, _, _, _, _, _, _, _, _, _, _, _, _, x20, q17, Or.inr ⟨rfl, rfl, rfl, rfl, ⟨by omega, by omega⟩, ⟨by omega, by omega⟩, by omega, by omega⟩, Nat.le_refl _, Nat.le_refl _⟩⟩)
            | (exfalso; first | exact x7 q10 | exact q7 x10 | exact q7 p3 | exact x11 ((evn_one x10).mp q14) | exact q11 ((evn_one x10).mpr x14) | exact q11 ((evn_one x10).mpr x21) | exact q11 ((evn_one p3).mpr p4) | exact bas_basB q15 ((noBrk_iff x5 x10).mp x22) | exact bas_basB q15 ((noBrk_iff p1 p3).mp p5) | exact absurd ((noBrk_iff x5 x10).mpr q18 _ _ _ x15 x16 x17.1 x17.2.1) (by rw [x17.2.2.1]; decide))
        · obtain rfl : e = e2 := by omega
          exfalso
          first | omega | (first | exact x7 q10 | exact q7 x10 | exact q7 p3 | exact x11 ((evn_one x10).mp q14) | exact q11 ((evn_one x10).mpr x14) | exact q11 ((evn_one x10).mpr x21) | exact q11 ((evn_one p3).mpr p4) | exact bas_basB q15 ((noBrk_iff x5 x10).mp x22) | exact bas_basB q15 ((noBrk_iff p1 p3).mp p5) | exact absurd ((noBrk_iff x5 x10).mpr q18 _ _ _ x15 x16 x17.1 x17.2.1) (by rw [x17.2.2.1]; decide))
        · obtain rfl : e = e2 := by omega
          exfalso
          first | omega | (first | exact x7 q10 | exact q7 x10 | exact q7 p3 | exact x11 ((evn_one x10).mp q14) | exact q11 ((evn_one x10).mpr x14) | exact q11 ((evn_one x10).mpr x21) | exact q11 ((evn_one p3).mpr p4) | exact bas_basB q15 ((noBrk_iff x5 x10).mp x22) | exact bas_basB q15 ((noBrk_iff p1 p3).mp p5) | exact absurd ((noBrk_iff x5 x10).mpr q18 _ _ _ x15 x16 x17.1 x17.2.1) (by rw [x17.2.2.1]; decide))
      · exact absurd x24 (by decide)
    · rcases hp with (⟨x1, x2, x3⟩ | ⟨x4, e, x5, x6, (⟨x7, x8, x9⟩ | ⟨x10, (⟨x11, x12, x13⟩ | ⟨x14, f, g, el, x15, x16, x17, x18, x19, x20⟩ | ⟨x21, x22, x23, x24, x25⟩)⟩)⟩)
      · exact absurd x3 (by decide)
      · exact absurd x8 (by decide)
      · exact absurd x12 (by decide)
      · exact absurd x19 (by decide)
      · rcases hr with ⟨q1, (⟨q2, ⟨z2, q3⟩, q4⟩ | ⟨e2, q5, q6, (⟨q7, ⟨z2, q8⟩, q9⟩ | ⟨q10, (⟨q11, ⟨z2, q12⟩, q13⟩ | ⟨q14, (⟨s2, t2, u2, q15, ⟨z2, q16⟩, q17⟩ | ⟨q18, (⟨q19, ⟨z2, q20⟩, q21⟩ | ⟨q22, q23, q24⟩)⟩)⟩)⟩)⟩)⟩
        · exfalso
          first | omega | (first | exact x7 q10 | exact q7 x10 | exact q7 p3 | exact x11 ((evn_one x10).mp q14) | exact q11 ((evn_one x10).mpr x14) | exact q11 ((evn_one x10).mpr x21) | exact q11 ((evn_one p3).mpr p4) | exact bas_basB q15 ((noBrk_iff x5 x10).mp x22) | exact bas_basB q15 ((noBrk_iff p1 p3).mp p5) | exact absurd ((noBrk_iff x5 x10).mpr q18 _ _ _ x15 x16 x17.1 x17.2.1) (by rw [x17.2.2.1]; decide))
        · obtain rfl : e = e2 := by omega
          exfalso
          first | omega | (first | exact x7 q10 | exact q7 x10 | exact q7 p3 | exact x11 ((evn_one x10).mp q14) | exact q11 ((evn_one x10).mpr x14) | exact q11 ((evn_one x10).mpr x21) | exact q11 ((evn_one p3).mpr p4) | exact bas_basB q15 ((noBrk_iff x5 x10).mp x22) | exact bas_basB q15 ((noBrk_iff p1 p3).mp p5) | exact absurd ((noBrk_iff x5 x10).mpr q18 _ _ _ x15 x16 x17.1 x17.2.1) (by rw [x17.2.2.1]; decide))
        · obtain rfl : e = e2 := by omega
          exfalso
          first | omega | (first | exact x7 q10 | exact q7 x10 | exact q7 p3 | exact x11 ((evn_one x10).mp q14) | exact q11 ((evn_one x10).mpr x14) | exact q11 ((evn_one x10).mpr x21) | exact q11 ((evn_one p3).mpr p4) | exact bas_basB q15 ((noBrk_iff x5 x10).mp x22) | exact bas_basB q15 ((noBrk_iff p1 p3).mp p5) | exact absurd ((noBrk_iff x5 x10).mpr q18 _ _ _ x15 x16 x17.1 x17.2.1) (by rw [x17.2.2.1]; decide))
        · obtain rfl : e = e2 := by omega
          exfalso
          first | omega | (first | exact x7 q10 | exact q7 x10 | exact q7 p3 | exact x11 ((evn_one x10).mp q14) | exact q11 ((evn_one x10).mpr x14) | exact q11 ((evn_one x10).mpr x21) | exact q11 ((evn_one p3).mpr p4) | exact bas_basB q15 ((noBrk_iff x5 x10).mp x22) | exact bas_basB q15 ((noBrk_iff p1 p3).mp p5) | exact absurd ((noBrk_iff x5 x10).mpr q18 _ _ _ x15 x16 x17.1 x17.2.1) (by rw [x17.2.2.1]; decide))
        · obtain rfl : e = e2 := by omega
          first
            | exact ⟨_, q20, fun q => absurd q (by decide), by decide, ⟨_, _, _, _, _, _, _, _, _, _, _, _, _, _, _, x25, q21, (by first | exact hB | exact Or.inl ⟨rfl, rfl, rfl, rfl⟩), Nat.le_refl _, Nat.le_refl _⟩⟩
            | (obtain ⟨rfl, rfl, rfl⟩ := breaks_same x5 x10 x15 x16 x17 x18 q15; have pl := p2_le x5; have b1 := x17.1; have b2 := x17.2.1; exact ⟨_, q20, fun q => absurd q (by decide), by decide, ⟨_, _, _, _, _, _, _, _, _, _, _, _, _, _, _, x25, q21, Or.inr ⟨rfl, rfl, rfl, rfl, ⟨by omega, by omega⟩, ⟨by omega, by omega⟩, by omega, by omega⟩, Nat.le_refl _, Nat.le_refl _⟩⟩)
            | (exfalso; first | exact x7 q10 | exact q7 x10 | exact q7 p3 | exact x11 ((evn_one x10).mp q14) | exact q11 ((evn_one x10).mpr x14) | exact q11 ((evn_one x10).mpr x21) | exact q11 ((evn_one p3).mpr p4) | exact bas_basB q15 ((noBrk_iff x5 x10).mp x22) | exact bas_basB q15 ((noBrk_iff p1 p3).mp p5) | exact absurd ((noBrk_iff x5 x10).mpr q18 _ _ _ x15 x16 x17.1 x17.2.1) (by rw [x17.2.2.1]; decide))
        · obtain rfl : e = e2 := by omega
          exfalso
          first | omega | (first | exact x7 q10 | exact q7 x10 | exact q7 p3 | exact x11 ((evn_one x10).mp q14) | exact q11 ((evn_one x10).mpr x14) | exact q11 ((evn_one x10).mpr x21) | exact q11 ((evn_one p3).mpr p4) | exact bas_basB q15 ((noBrk_iff x5 x10).mp x22) | exact bas_basB q15 ((noBrk_iff p1 p3).mp p5) | exact absurd ((noBrk_iff x5 x10).mpr q18 _ _ _ x15 x16 x17.1 x17.2.1) (by rw [x17.2.2.1]; decide))
end Bg
