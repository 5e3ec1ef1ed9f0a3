/-! Circuitfold$Likeness (X5): its state; isAlike -/
def LikS (h : AH) (a b : Nat) (r : Nat → Nat) (e n : Int) (F : Nat → Int) (C W Im : Nat → Nat) (P Q : Nat → Int32) : Prop := h a = some (b, oLik (r 1) (r 2) (r 3) (r 4) (r 5) (r 6) e n) ∧ h (r 1) = some (b + 1, aI .int 1024 F) ∧ h (r 2) = some (b + 2, aV 1024 C) ∧ h (r 3) = some (b + 3, aV 1024 W) ∧ h (r 4) = some (b + 4, aV 1024 Im) ∧ h (r 5) = some (b + 5, aW .int 10 P) ∧ h (r 6) = some (b + 6, aW .int 10 Q) ∧ (∀ j, C j ≤ 1024) ∧ (∀ j, W j ≤ 1024) ∧ (∀ j, j < 1024 → Im j < 1024) ∧ Im 0 = 0
theorem LikS.set1 {h : AH} {a b : Nat} {r : Nat → Nat} {e n : Int} {F : Nat → Int} {C W Im : Nat → Nat} {P Q : Nat → Int32} (s : LikS h a b r e n F C W Im P Q) (F' : Nat → Int) : LikS (hset h (r 1) (b + 1, aI .int 1024 F')) a b r e n F' C W Im P Q := by
  obtain ⟨gA, g1, g2, g3, g4, g5, g6, hC, hWb, hIm, hI9⟩ := s
  exact ⟨hset_lab g1 gA (by omega), hset_eq, hset_lab g1 g2 (by omega), hset_lab g1 g3 (by omega), hset_lab g1 g4 (by omega), hset_lab g1 g5 (by omega), hset_lab g1 g6 (by omega), hC, hWb, hIm, hI9⟩
theorem LikS.set2 {h : AH} {a b : Nat} {r : Nat → Nat} {e n : Int} {F : Nat → Int} {C W Im : Nat → Nat} {P Q : Nat → Int32} (s : LikS h a b r e n F C W Im P Q) (C' : Nat → Nat) (hC' : ∀ j, C' j ≤ 1024) : LikS (hset h (r 2) (b + 2, aV 1024 C')) a b r e n F C' W Im P Q := by
  obtain ⟨gA, g1, g2, g3, g4, g5, g6, hC, hWb, hIm, hI9⟩ := s
  exact ⟨hset_lab g2 gA (by omega), hset_lab g2 g1 (by omega), hset_eq, hset_lab g2 g3 (by omega), hset_lab g2 g4 (by omega), hset_lab g2 g5 (by omega), hset_lab g2 g6 (by omega), hC', hWb, hIm, hI9⟩
theorem LikS.set3 {h : AH} {a b : Nat} {r : Nat → Nat} {e n : Int} {F : Nat → Int} {C W Im : Nat → Nat} {P Q : Nat → Int32} (s : LikS h a b r e n F C W Im P Q) (W' : Nat → Nat) (hW' : ∀ j, W' j ≤ 1024) : LikS (hset h (r 3) (b + 3, aV 1024 W')) a b r e n F C W' Im P Q := by
  obtain ⟨gA, g1, g2, g3, g4, g5, g6, hC, hWb, hIm, hI9⟩ := s
  exact ⟨hset_lab g3 gA (by omega), hset_lab g3 g1 (by omega), hset_lab g3 g2 (by omega), hset_eq, hset_lab g3 g4 (by omega), hset_lab g3 g5 (by omega), hset_lab g3 g6 (by omega), hC, hW', hIm, hI9⟩
theorem LikS.set4 {h : AH} {a b : Nat} {r : Nat → Nat} {e n : Int} {F : Nat → Int} {C W Im : Nat → Nat} {P Q : Nat → Int32} (s : LikS h a b r e n F C W Im P Q) (I' : Nat → Nat) (hI' : ∀ j, j < 1024 → I' j < 1024) (hI0 : I' 0 = 0) : LikS (hset h (r 4) (b + 4, aV 1024 I')) a b r e n F C W I' P Q := by
  obtain ⟨gA, g1, g2, g3, g4, g5, g6, hC, hWb, hIm, hI9⟩ := s
  exact ⟨hset_lab g4 gA (by omega), hset_lab g4 g1 (by omega), hset_lab g4 g2 (by omega), hset_lab g4 g3 (by omega), hset_eq, hset_lab g4 g5 (by omega), hset_lab g4 g6 (by omega), hC, hWb, hI', hI0⟩
theorem LikS.set5 {h : AH} {a b : Nat} {r : Nat → Nat} {e n : Int} {F : Nat → Int} {C W Im : Nat → Nat} {P Q : Nat → Int32} (s : LikS h a b r e n F C W Im P Q) (P' : Nat → Int32) : LikS (hset h (r 5) (b + 5, aW .int 10 P')) a b r e n F C W Im P' Q := by
  obtain ⟨gA, g1, g2, g3, g4, g5, g6, hC, hWb, hIm, hI9⟩ := s
  exact ⟨hset_lab g5 gA (by omega), hset_lab g5 g1 (by omega), hset_lab g5 g2 (by omega), hset_lab g5 g3 (by omega), hset_lab g5 g4 (by omega), hset_eq, hset_lab g5 g6 (by omega), hC, hWb, hIm, hI9⟩
theorem LikS.set6 {h : AH} {a b : Nat} {r : Nat → Nat} {e n : Int} {F : Nat → Int} {C W Im : Nat → Nat} {P Q : Nat → Int32} (s : LikS h a b r e n F C W Im P Q) (Q' : Nat → Int32) : LikS (hset h (r 6) (b + 6, aW .int 10 Q')) a b r e n F C W Im P Q' := by
  obtain ⟨gA, g1, g2, g3, g4, g5, g6, hC, hWb, hIm, hI9⟩ := s
  exact ⟨hset_lab g6 gA (by omega), hset_lab g6 g1 (by omega), hset_lab g6 g2 (by omega), hset_lab g6 g3 (by omega), hset_lab g6 g4 (by omega), hset_lab g6 g5 (by omega), hset_eq, hC, hWb, hIm, hI9⟩
theorem putN_0 {Im : Nat → Nat} {el im : Nat} (h : Im 0 = 0) : putN Im el im 0 = 0 := by
  unfold putN
  rw [if_neg (by have := p2_pos el; omega), h]
theorem tryL_0 {rec : Nat → (Nat → Nat) → Bool × (Nat → Nat)} {ok : Nat → (Nat → Nat) → Bool} {Im : Nat → Nat} (h : Im 0 = 0) (hr : ∀ m I9, I9 0 = 0 → (rec m I9).2 0 = 0) : ∀ n, (tryL rec ok Im n).2 0 = 0 := by
  intro n
  induction n with
  | zero => exact h
  | succ n ih =>
    unfold tryL
    split
    · exact ih
    · split
      · exact hr n _ ih
      · exact ih
theorem plcN_0 {P Q : Nat → Int32} {C W : Nat → Nat} {e : Nat} : ∀ f el used Im, Im 0 = 0 → (plcN P Q C W e f el used Im).2 0 = 0 := by
  intro f
  induction f with
  | zero => intro el used Im h; exact h
  | succ f ih =>
    intro el used Im h
    unfold plcN
    exact tryL_0 h (fun m I9 h9 => ih (el + 1) (used ||| 2 ^ m) _ (putN_0 h9)) e
/-- the elements that are left; their sets; the counts and profiles of the part -/
def lftN (e2 con del : Nat) : Nat := sdf (sdf (2 ^ e2 - 1) con) del
def cntA (sf C : Nat → Nat) (e e2 con del : Nat) : Nat → Nat := lokN (fun j => basN sf (depN (lftN e2 con del) con e2 j)) e C
def prfA (sf C : Nat → Nat) (e e2 con del : Nat) : Nat → Int32 := fun j => Int32.ofInt (prfN (cntA sf C e e2 con del) e (2 ^ e) j)
def alkN (sf C W Im : Nat → Nat) (Q : Nat → Int32) (e e2 con del : Nat) : Bool := decide (bc (lftN e2 con del) = e) && decide (cnt (fun j => sf (depN (lftN e2 con del) con e2 j) &&& 2 != 0) (2 ^ e) = W 0) && samN (prfA sf C e e2 con del) Q e && (plcN (prfA sf C e e2 con del) Q (cntA sf C e e2 con del) W e e 0 0 Im).1
section C46
variable {l : Launch} {D : va_G} {S0 : State}
set_option maxRecDepth 100000 in
theorem c_X5_isAlike (hW : WOK l D S0) (d : Nat) {h : AH} {a b m lm full rq hq tq lt e e2 con del : Nat} {sym : Int} {v2 v3 : Value} {sf : Nat → Nat} {r : Nat → Nat} {F : Nat → Int} {C W Im : Nat → Nat} {P Q : Nat → Int32} (hS : LikS h a b r e ((2 ^ e : Nat) : Int) F C W Im P Q) (hm : h m = some (lm, oMat e2 full rq hq tq sym v2 v3)) (ht : h tq = some (lt, aB e2 sf)) (hl1 : lm < b ∨ b + 6 < lm) (hl2 : lt < b ∨ b + 6 < lt) (he : e ≤ 10) (he2 : e2 ≤ 10) (hcon : con < 2 ^ e2) (hsf : ∀ j, j < 2 ^ e2 → sf j < 32) : MA l D S0 yX5_isAlike cX5_isAlike 4 (some .boolean) (d + 12) [.ref a, .ref m, I (con : Int), I (del : Int)] h 0 0 (fun rr h' => rr = some (I ((b2n (alkN sf C W Im Q e e2 con del) : Nat) : Int)) ∧ ∃ F' C' P' I', LikS h' a b r e ((2 ^ e : Nat) : Int) F' C' W I' P' Q ∧ Fr (fun x => x = b + 1 ∨ x = b + 2 ∨ x = b + 4 ∨ x = b + 5) h h' ∧ (alkN sf C W Im Q e e2 con del = true → C' = cntA sf C e e2 con del ∧ I' = (plcN (prfA sf C e e2 con del) Q (cntA sf C e e2 con del) W e e 0 0 Im).2)) (fun _ _ => False) := by
  have hp := p2_le he
  refine MA.start hW (by decide) [.val (.ref a), .val (.ref m), .val (I (con : Int)), .val (I (del : Int))] rfl ?_
  rintro X rfl rfl rfl hX
  have hsN := depN_lt (left := lftN e2 con del) (e := e2) hcon e2 (Nat.le_refl e2)
  obtain ⟨gA, g1, g2, g3, g4, g5, g6, hC, hWb, hIm, hI0⟩ := hS
  have hS : LikS h a b r e ((2 ^ e : Nat) : Int) F C W Im P Q := ⟨gA, g1, g2, g3, g4, g5, g6, hC, hWb, hIm, hI0⟩
  refine wa_aload_n hX (i := 0) dX5_isAlike_0 rfl rfl ?_
  refine wa_aload_n hX (i := 1) dX5_isAlike_1 rfl rfl ?_
  refine wa_iload_n hX (i := 2) dX5_isAlike_2 rfl rfl ?_
  refine wa_iload_n hX (i := 3) dX5_isAlike_3 rfl rfl ?_
  refine wa_callV hX (c_X5_spread hW d gA g1 hm he he2 hcon) (by assumption) (by rfl) (by rfl) (by omega) (nA := 3) (by rfl) (by decide +kernel) rfl (by exact Nat.le_of_ble_eq_true rfl) dX5_isAlike_4 (fun r4 h4 p4 => ?_) (fun _ _ q => q.elim)
  have p4' : ∃ (bb : Bool) (F1 : Nat → Int), r4 = some (I ((b2n bb : Nat) : Int)) ∧ h4 = hset h (r 1) (b + 1, aI .int 1024 F1) ∧ bb = decide (bc (lftN e2 con del) = e) ∧ (bb = true → ∀ j, j < 2 ^ e → F1 j = ((depN (lftN e2 con del) con e2 j : Nat) : Int)) := by
    rcases p4 with ⟨q1, q2, q3⟩ | ⟨q1, q2, F1, q3, q4⟩
    · exact ⟨false, F, q2, by rw [q3, hset_self g1], (decide_eq_false q1).symm, fun q => (by cases q)⟩
    · exact ⟨true, F1, q2, q3, (decide_eq_true q1).symm, fun _ => q4⟩
  obtain ⟨bb, F1, rfl, rfl, hbb, hF1⟩ := p4'
  have hS1 := hS.set1 F1
  have fr1 : Fr (fun x => x = b + 1 ∨ x = b + 2 ∨ x = b + 4 ∨ x = b + 5) h (hset h (r 1) (b + 1, aI .int 1024 F1)) := Fr.put Fr.rf g1 (fun b hb => hset_ne hb) (Or.inl rfl)
  have hm1 := fr1 _ _ _ hm (by omega)
  have ht1 := fr1 _ _ _ ht (by omega)
  generalize hset h (r 1) (b + 1, aI .int 1024 F1) = hA at hS1 fr1 hm1 ht1 ⊢
  obtain ⟨kA, k1, k2, k3, k4, k5, k6, -⟩ := id hS1
  dsimp only [Option.toList, List.cons_append, List.nil_append]
  refine wi_if_eq hX (tgt := 18) dX5_isAlike_7 (by decide) (by exact b2n_inR _) (fun c7 => ?_) (fun c7 => ?_)
  · skip
    refine wi_iconst hX dX5_isAlike_18 ?_
    refine wa_zret hX dX5_isAlike_19 (by rfl) ?_
    have hno : alkN sf C W Im Q e e2 con del = false := by
      unfold alkN
      first
        | (have w := b2n_f c15; rw [w, Bool.and_false, Bool.false_and, Bool.false_and])
        | (have w := b2n_f c7; rw [← hbb, w, Bool.false_and, Bool.false_and, Bool.false_and])
    rw [hno]
    first
      | exact ⟨rfl, _, _, _, _, hS2, fr2, fun q => (by cases q)⟩
      | exact ⟨rfl, _, _, _, _, hS1, fr1, fun q => (by cases q)⟩
  · skip
    have hbt := b2n_t c7
    refine wa_aload_n hX (i := 0) dX5_isAlike_10 rfl rfl ?_
    refine wa_aload_n hX (i := 1) dX5_isAlike_11 rfl rfl ?_
    refine wa_callV hX (c_X5_hasAsMany hW d kA k1 k2 k3 hm1 ht1 (hF1 hbt) (sN := depN (lftN e2 con del) con e2) hsN (by omega) (by omega) (by omega) he he2 hsf hWb) (by assumption) (by rfl) (by rfl) (by omega) (nA := 1) (by rfl) (by decide +kernel) rfl (by exact Nat.le_of_ble_eq_true rfl) dX5_isAlike_12 (fun r12 h12 p12 => ?_) (fun _ _ q => q.elim)
    obtain ⟨rfl, rfl⟩ := p12
    have hc1 : ∀ j, (if j < 2 ^ e then basN sf (depN (lftN e2 con del) con e2 j) else C j) ≤ 1024 := fun j => by
      split
      · exact Nat.le_trans (b2n_le _) (by decide)
      · exact hC j
    have hS2 := hS1.set2 (fun j => if j < 2 ^ e then basN sf (depN (lftN e2 con del) con e2 j) else C j) hc1
    have fr2 := Fr.put fr1 k2 (h' := hset hA (r 2) (b + 2, aV 1024 (fun j => if j < 2 ^ e then basN sf (depN (lftN e2 con del) con e2 j) else C j))) (fun b hb => hset_ne hb) (Or.inr (Or.inl rfl))
    generalize hset hA (r 2) (b + 2, aV 1024 (fun j => if j < 2 ^ e then basN sf (depN (lftN e2 con del) con e2 j) else C j)) = hB at hS2 fr2 ⊢
    obtain ⟨qA, q1, q2, q3, q4, q5, q6, -⟩ := id hS2
    dsimp only [Option.toList, List.cons_append, List.nil_append]
    refine wi_if_ne hX (tgt := 20) dX5_isAlike_15 (by decide) (by exact b2n_inR _) (fun c15 => ?_) (fun c15 => ?_)
    · skip
      refine wa_aload_n hX (i := 0) dX5_isAlike_20 rfl rfl ?_
      refine wa_aload_n hX (i := 0) dX5_isAlike_21 rfl rfl ?_
      refine wa_get hX 1 (by assumption) (by rfl) (by decide +kernel) dX5_isAlike_22 ?_
      refine wa_callV hX (c_X5_sumOverGreater hW d qA q2 he) (by assumption) (by rfl) (by rfl) (by omega) (nA := 1) (by rfl) (by decide +kernel) rfl (by exact Nat.le_of_ble_eq_true rfl) dX5_isAlike_25 (fun r25 h25 p25 => ?_) (fun _ _ q => q.elim)
      obtain ⟨rfl, F2, rfl, hF2, hF3⟩ := p25
      refine WA.ext9 (fun j => ((cntA sf C e e2 con del j : Nat) : Int)) hset_eq (fun j hj => by
        unfold cntA lokN
        by_cases w : j < 2 ^ e
        · rw [if_pos w, hF2 j w]
          exact sgT_cast (G := fun j => basN sf (depN (lftN e2 con del) con e2 j)) (fun t ht => by dsimp only; rw [if_pos ht]) e (Nat.le_refl e) j w
        · rw [if_neg w, hF3 j (by omega)]
          dsimp only
          rw [if_neg w]) ?_
      rw [hset_hset]
      have hc2 : ∀ j, cntA sf C e e2 con del j ≤ 1024 := lokN_le he (fun j => b2n_le _) hC
      have hS3 := hS2.set2 (cntA sf C e e2 con del) hc2
      have fr3 := Fr.put fr2 q2 (h' := hset hB (r 2) (b + 2, aV 1024 (cntA sf C e e2 con del))) (fun b hb => hset_ne hb) (Or.inr (Or.inl rfl))
      refine WA.heap (h2 := hset hB (r 2) (b + 2, aV 1024 (cntA sf C e e2 con del))) rfl ?_
      generalize hset hB (r 2) (b + 2, aV 1024 (cntA sf C e e2 con del)) = hD at hS3 fr3 ⊢
      clear qA q1 q2 q3 q4 q5 q6
      obtain ⟨qA, q1, q2, q3, q4, q5, q6, -⟩ := id hS3
      dsimp only [Option.toList, List.cons_append, List.nil_append]
      refine wa_aload_n hX (i := 0) dX5_isAlike_28 rfl rfl ?_
      refine wa_aload_n hX (i := 0) dX5_isAlike_29 rfl rfl ?_
      refine wa_get hX 1 (by assumption) (by rfl) (by decide +kernel) dX5_isAlike_30 ?_
      refine wa_aload_n hX (i := 0) dX5_isAlike_33 rfl rfl ?_
      refine wa_get hX 4 (by assumption) (by rfl) (by decide +kernel) dX5_isAlike_34 ?_
      refine wa_callV hX (c_X5_fillProfiles hW d (e := e) (C := cntA sf C e e2 con del) qA q2 (fun j _ => rfl) q5 (by omega) he) (by assumption) (by rfl) (by rfl) (by omega) (nA := 2) (by rfl) (by decide +kernel) rfl (by exact Nat.le_of_ble_eq_true rfl) dX5_isAlike_37 (fun r37 h37 p37 => ?_) (fun _ _ q => q.elim)
      obtain ⟨rfl, rfl⟩ := p37
      have hS4 := hS3.set5 (prfA sf C e e2 con del)
      have fr4 := Fr.put fr3 q5 (h' := hset hD (r 5) (b + 5, aW .int 10 (prfA sf C e e2 con del))) (fun b hb => hset_ne hb) (Or.inr (Or.inr (Or.inr rfl)))
      refine WA.heap (h2 := hset hD (r 5) (b + 5, aW .int 10 (prfA sf C e e2 con del))) rfl ?_
      generalize hset hD (r 5) (b + 5, aW .int 10 (prfA sf C e e2 con del)) = hE at hS4 fr4 ⊢
      clear qA q1 q2 q3 q4 q5 q6
      obtain ⟨qA, q1, q2, q3, q4, q5, q6, -⟩ := id hS4
      dsimp only [Option.toList, List.cons_append, List.nil_append]
      refine wa_aload_n hX (i := 0) dX5_isAlike_40 rfl rfl ?_
      refine wa_callV hX (c_X5_hasSameProfiles hW d qA q5 q6 he) (by assumption) (by rfl) (by rfl) (by omega) (nA := 0) (by rfl) (by decide +kernel) rfl (by exact Nat.le_of_ble_eq_true rfl) dX5_isAlike_41 (fun r41 h41 p41 => ?_) (fun _ _ q => q.elim)
      obtain ⟨rfl, qq41⟩ := p41; subst h41
      dsimp only [Option.toList, List.cons_append, List.nil_append]
      refine wi_if_eq hX (tgt := 60) dX5_isAlike_44 (by decide) (by exact b2n_inR _) (fun c44 => ?_) (fun c44 => ?_)
      · skip
        refine wi_iconst hX dX5_isAlike_60 ?_
        refine wa_zret hX dX5_isAlike_61 (by rfl) ?_
        have hv : alkN sf C W Im Q e e2 con del = (samN (prfA sf C e e2 con del) Q e && (plcN (prfA sf C e e2 con del) Q (cntA sf C e e2 con del) W e e 0 0 Im).1) := by
          unfold alkN
          rw [← hbb, hbt, b2n_t c15, Bool.true_and, Bool.true_and]
        rw [hv]
        first
          | (have w1 := b2n_f c44
             rw [w1, Bool.false_and]
             exact ⟨rfl, _, _, _, _, hS4, fr4, fun q => (by cases q)⟩)
          | (have w1 := b2n_t c44
             have w2 := b2n_f c53
             rw [w2, Bool.and_false]
             exact ⟨rfl, _, _, _, _, hS5, fr5, fun q => (by cases q)⟩)
          | (have w1 := b2n_t c44
             have w2 := b2n_t c53
             rw [w1, w2, Bool.and_true]
             exact ⟨rfl, _, _, _, _, hS5, fr5, fun _ => ⟨rfl, rfl⟩⟩)
      · skip
        refine wa_aload_n hX (i := 0) dX5_isAlike_47 rfl rfl ?_
        refine wi_iconst hX dX5_isAlike_48 ?_
        refine wi_iconst hX dX5_isAlike_49 ?_
        refine wa_callS hX (c_X5_place hW d (e := e) he hc2 hWb (by omega) (by omega) (by omega) (by omega) e 0 0 Im _ qA q2 q3 q4 q5 q6 (by omega) (by decide) hIm) (by rfl) (by omega) (nA := 3) (by rfl) (by decide +kernel) rfl (by exact Nat.le_of_ble_eq_true rfl) dX5_isAlike_50 (fun r50 h50 p50 => ?_) (fun _ _ q => q.elim)
        obtain ⟨rfl, rfl⟩ := p50
        have hS5 := hS4.set4 (plcN (prfA sf C e e2 con del) Q (cntA sf C e e2 con del) W e e 0 0 Im).2 (plcN_lt he e 0 0 Im hIm) (plcN_0 e 0 0 Im hI0)
        have fr5 := Fr.put fr4 q4 (h' := hset hE (r 4) (b + 4, aV 1024 (plcN (prfA sf C e e2 con del) Q (cntA sf C e e2 con del) W e e 0 0 Im).2)) (fun b hb => hset_ne hb) (Or.inr (Or.inr (Or.inl rfl)))
        dsimp only [Option.toList, List.cons_append, List.nil_append]
        refine wi_if_eq hX (tgt := 60) dX5_isAlike_53 (by decide) (by exact b2n_inR _) (fun c53 => ?_) (fun c53 => ?_)
        · skip
          refine wi_iconst hX dX5_isAlike_60 ?_
          refine wa_zret hX dX5_isAlike_61 (by rfl) ?_
          have hv : alkN sf C W Im Q e e2 con del = (samN (prfA sf C e e2 con del) Q e && (plcN (prfA sf C e e2 con del) Q (cntA sf C e e2 con del) W e e 0 0 Im).1) := by
            unfold alkN
            rw [← hbb, hbt, b2n_t c15, Bool.true_and, Bool.true_and]
          rw [hv]
          first
            | (have w1 := b2n_f c44
               rw [w1, Bool.false_and]
               exact ⟨rfl, _, _, _, _, hS4, fr4, fun q => (by cases q)⟩)
            | (have w1 := b2n_t c44
               have w2 := b2n_f c53
               rw [w2, Bool.and_false]
               exact ⟨rfl, _, _, _, _, hS5, fr5, fun q => (by cases q)⟩)
            | (have w1 := b2n_t c44
               have w2 := b2n_t c53
               rw [w1, w2, Bool.and_true]
               exact ⟨rfl, _, _, _, _, hS5, fr5, fun _ => ⟨rfl, rfl⟩⟩)
        · skip
          refine wi_iconst hX dX5_isAlike_56 ?_
          refine wa_goto hX (tgt := 61) dX5_isAlike_57 (by decide) ?_
          refine wa_zret hX dX5_isAlike_61 (by rfl) ?_
          have hv : alkN sf C W Im Q e e2 con del = (samN (prfA sf C e e2 con del) Q e && (plcN (prfA sf C e e2 con del) Q (cntA sf C e e2 con del) W e e 0 0 Im).1) := by
            unfold alkN
            rw [← hbb, hbt, b2n_t c15, Bool.true_and, Bool.true_and]
          rw [hv]
          first
            | (have w1 := b2n_f c44
               rw [w1, Bool.false_and]
               exact ⟨rfl, _, _, _, _, hS4, fr4, fun q => (by cases q)⟩)
            | (have w1 := b2n_t c44
               have w2 := b2n_f c53
               rw [w2, Bool.and_false]
               exact ⟨rfl, _, _, _, _, hS5, fr5, fun q => (by cases q)⟩)
            | (have w1 := b2n_t c44
               have w2 := b2n_t c53
               rw [w1, w2, Bool.and_true]
               exact ⟨rfl, _, _, _, _, hS5, fr5, fun _ => ⟨rfl, rfl⟩⟩)
    · skip
      refine wi_iconst hX dX5_isAlike_18 ?_
      refine wa_zret hX dX5_isAlike_19 (by rfl) ?_
      have hno : alkN sf C W Im Q e e2 con del = false := by
        unfold alkN
        first
          | (have w := b2n_f c15; rw [w, Bool.and_false, Bool.false_and, Bool.false_and])
          | (have w := b2n_f c7; rw [← hbb, w, Bool.false_and, Bool.false_and, Bool.false_and])
      rw [hno]
      first
        | exact ⟨rfl, _, _, _, _, hS2, fr2, fun q => (by cases q)⟩
        | exact ⟨rfl, _, _, _, _, hS1, fr1, fun q => (by cases q)⟩
end C46
