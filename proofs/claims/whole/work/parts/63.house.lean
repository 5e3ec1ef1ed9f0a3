/-! The house (X10): what its heap holds. Labels: 10 the house, 11 12 the row, 13 the matroids kept, 14-17 and 18-21 the two Exchanges, 22 23 the Minors, 24 a matroid, 25 a drawing, 50-56 and 60-66 the two Likenesses, 2 what never changes; 26 27 a matroid and a drawing as they are made. -/
abbrev oHou (row kept : Nat) (m : Int) (tb cb pr inn mn : Nat) (pf ps pa so : Int) : Ob := oF 11 [.ref row, .ref kept, I m, .ref tb, .ref cb, .ref pr, .ref inn, .ref mn, I pf, I ps, I pa, I so]
abbrev eIAE : String := "java/lang/IllegalArgumentException"
abbrev eISE : String := "java/lang/IllegalStateException"
abbrev eUOE : String := "java/lang/UnsupportedOperationException"
abbrev eIOO : String := "java/lang/IndexOutOfBoundsException"
abbrev eNSE : String := "java/util/NoSuchElementException"
abbrev eARI : String := "java/lang/ArithmeticException"
/-- a matroid's ranks, told locally -/
def Mtr (e : Nat) (rk : Nat → Nat) : Prop := e ≤ 10 ∧ rk 0 = 0 ∧ (∀ s x, s < 2 ^ e → x < e → rk s ≤ rk (s ||| 2 ^ x) ∧ rk (s ||| 2 ^ x) ≤ rk s + 1) ∧ ∀ s x y, s < 2 ^ e → x < e → y < e → rk (s ||| 2 ^ x) = rk s → rk (s ||| 2 ^ y) = rk s → rk (s ||| 2 ^ x ||| 2 ^ y) = rk s
def bsN (rk : Nat → Nat) (e : Nat) : Nat := (nth (fun s => sortN rk e s &&& 2 != 0) (2 ^ e) 0).toNat
/-- what a search for an isomorphism found -/
def AlkP (rk : Nat → Nat) (e : Nat) (rk2 : Nat → Nat) (e2 : Nat) (v : Bool) (Im : Nat → Nat) : Prop := ∃ (C W Im0 : Nat → Nat), Im0 0 = 0 ∧ v = alkN (sortN rk e) C (wntS (sortN rk2 e2) W e2) Im0 (prfS (sortN rk2 e2) W e2) e2 e 0 0 ∧ (v = true → Im = (plcN (prfA (sortN rk e) C e2 e 0 0) (prfS (sortN rk2 e2) W e2) (cntA (sortN rk e) C e2 e 0 0) (wntS (sortN rk2 e2) W e2) e2 e2 0 0 Im0).2)
def SymP (rk : Nat → Nat) (e v : Nat) : Prop := ∃ (C W Im : Nat → Nat) (P : Nat → Int32), Im 0 = 0 ∧ v = (symN (prgS (sortN rk e) W P e) (prfS (sortN rk e) W e) (cntS (sortN rk e) W C e) (wntS (sortN rk e) W e) e Im e).1
def MinP (rk1 : Nat → Nat) (e1 : Nat) (rk2 : Nat → Nat) (e2 : Nat) (v co de : Int) : Prop := ∃ (W : Nat → Nat) (co0 de0 : Int), SrcK rk1 (sortN rk1 e1) (sortN rk2 e2) W e1 e2 (rk1 (2 ^ e1 - 1)) (rk2 (2 ^ e2 - 1)) co0 de0 v co de
def RowI (h : AH) (row c : Nat) (w : Nat → Nat) : Prop := ∃ rq, h row = some (11, oRow rq (c : Int)) ∧ h rq = some (12, aI .int 60 (fun j => ((w j : Nat) : Int)))
def ExcI (h : AH) (x la : Nat) (br bf bs be : Int) : Prop := ∃ (mq sq wq : Nat) (al : Int) (G F W : Nat → Int), h x = some (la, oExc mq sq wq al br bf bs be) ∧ h mq = some (la + 1, aI .byte 1024 G) ∧ h sq = some (la + 2, aI .byte 1024 F) ∧ h wq = some (la + 3, aI .int 10 W)
def LikI (h : AH) (x b : Nat) : Prop := ∃ (r : Nat → Nat) (e n : Int) (F : Nat → Int) (C W Im : Nat → Nat) (P Q : Nat → Int32), LikS h x b r e n F C W Im P Q
def PairI (h : AH) (x : Nat) (pf ps pa : Int) (m : Nat) (E : Nat → Nat) (R : Nat → Nat → Nat) : Prop := (pf = -1 ∧ ps = -1 ∧ (pa = 0 ∨ pa = 1) ∧ LikI h x 50) ∨ ∃ (i j : Nat) (v : Bool) (r : Nat → Nat) (e n : Int) (F : Nat → Int) (C W Im : Nat → Nat) (P Q : Nat → Int32), i < m ∧ j < m ∧ pf = (i : Int) ∧ ps = (j : Int) ∧ pa = ((b2n v : Nat) : Int) ∧ LikS h x 50 r e n F C W Im P Q ∧ AlkP (R i) (E i) (R j) (E j) v Im
def MinI (h : AH) (x inn m : Nat) (P E : Nat → Nat) (R : Nat → Nat → Nat) : Prop := ∃ (dq : Nat) (li : Int) (lw lp : Option Nat) (fo co de : Int) (DD : Nat → Int), h x = some (22, oMin inn dq li (va_rf lw) (va_rf lp) fo co de) ∧ h dq = some (23, aI .int 1024 DD) ∧ (fo = 0 ∨ fo = 1) ∧ (∀ y, lw = some y → ∃ i, i < m ∧ y = P i) ∧ (∀ y, lp = some y → ∃ i, i < m ∧ y = P i) ∧ ∀ i j, i < m → j < m → lw = some (P i) → lp = some (P j) → MinP (R i) (E i) (R j) (E j) fo co de
def DraI (h : AH) (p e : Nat) (rk : Nat → Nat) (f : Nat) (b : Bool) (v : Value) : Prop := (b = false ∧ v = .null) ∨ (b = true ∧ ∃ (q jq kq bq nq cq c2 r2 p2 : Nat) (rc : Nat → Nat) (tr : Int), v = .ref q ∧ h q = some (25, oDra p (bsN rk e : Int) jq kq bq nq cq tr) ∧ h cq = some (2, oElim f (rk (2 ^ e - 1)) e c2 r2 p2) ∧ h c2 = some (2, aRR e rc) ∧ (∀ j, j < e → h (rc j) = some (2, aV (rk (2 ^ e - 1)) (drG (sortN rk e) e (bsN rk e) f j))) ∧ (tr = 0 ∨ tr = 1) ∧ (tr = 1 ↔ ∀ s, s < 2 ^ e → rkE f (rk (2 ^ e - 1)) (drG (sortN rk e) e (bsN rk e) f) s = rk s))
def MatI (h : AH) (p e : Nat) (rk : Nat → Nat) (b2 b3 : Bool) : Prop := ∃ (rq hq tq sym : Nat) (v2 v3 : Value), h p = some (24, oMat e (rk (2 ^ e - 1)) rq hq tq (sym : Int) v2 v3) ∧ h rq = some (2, aB e rk) ∧ h hq = some (2, aS (shpN rk e)) ∧ h tq = some (2, aB e (sortN rk e)) ∧ (sym = 0 ∨ SymP rk e sym) ∧ DraI h p e rk 2 b2 v2 ∧ DraI h p e rk 3 b3 v3
/-- the house: its row w, c; its matroids m, E, R; what was broken; which are drawn; how many were found sound -/
def HI (h : AH) (a : Nat) (w : Nat → Nat) (c m : Nat) (E : Nat → Nat) (R : Nat → Nat → Nat) (br bf bs be : Int) (D2 D3 : Nat → Bool) (so : Nat) : Prop :=
  (c ≤ 60 ∧ (∀ j, w j < 1024) ∧ m ≤ 24 ∧ so ≤ m ∧ (br = 0 ∨ br = 1) ∧ (∀ j, m ≤ j → D2 j = false ∧ D3 j = false) ∧ ∀ j, j < m → Mtr (E j) (R j)) ∧
  ∃ (row kept tb cb pr inn mn : Nat) (pf ps pa x1 x2 x3 x4 : Int) (P : Nat → Nat),
    h a = some (10, oHou row kept m tb cb pr inn mn pf ps pa so) ∧ RowI h row c w ∧ h kept = some (13, aR (.object "Circuitfold$Matroid") 24 (fun j => if j < m then some (P j) else none)) ∧
    ExcI h tb 14 br bf bs be ∧ ExcI h cb 18 x1 x2 x3 x4 ∧ PairI h pr pf ps pa m E R ∧ LikI h inn 60 ∧ MinI h mn inn m P E R ∧ (∀ i j, i < m → j < m → P i = P j → i = j) ∧ ∀ j, j < m → MatI h (P j) (E j) (R j) (D2 j) (D3 j)
section HFr
variable {S : Nat → Prop} {h h' : AH}
theorem RowI.fr {row c : Nat} {w : Nat → Nat} (q : RowI h row c w) (f : Fr S h h') (n1 : ¬ S 11) (n2 : ¬ S 12) : RowI h' row c w := by
  obtain ⟨rq, q1, q2⟩ := q
  exact ⟨rq, f _ _ _ q1 n1, f _ _ _ q2 n2⟩
theorem ExcI.fr {x la : Nat} {br bf bs be : Int} (q : ExcI h x la br bf bs be) (f : Fr S h h') (n : ∀ y, S y → ¬ (la ≤ y ∧ y ≤ la + 3)) : ExcI h' x la br bf bs be := by
  obtain ⟨mq, sq, wq, al, G, F, W, q1, q2, q3, q4⟩ := q
  exact ⟨mq, sq, wq, al, G, F, W, f _ _ _ q1 (fun z => n _ z (by omega)), f _ _ _ q2 (fun z => n _ z (by omega)), f _ _ _ q3 (fun z => n _ z (by omega)), f _ _ _ q4 (fun z => n _ z (by omega))⟩
theorem LikS.fr {x b : Nat} {r : Nat → Nat} {e n : Int} {F : Nat → Int} {C W Im : Nat → Nat} {P Q : Nat → Int32} (q : LikS h x b r e n F C W Im P Q) (f : Fr S h h') (nn : ∀ y, S y → ¬ (b ≤ y ∧ y ≤ b + 6)) : LikS h' x b r e n F C W Im P Q := by
  obtain ⟨q0, q1, q2, q3, q4, q5, q6, q7⟩ := q
  exact ⟨f _ _ _ q0 (fun z => nn _ z (by omega)), f _ _ _ q1 (fun z => nn _ z (by omega)), f _ _ _ q2 (fun z => nn _ z (by omega)), f _ _ _ q3 (fun z => nn _ z (by omega)), f _ _ _ q4 (fun z => nn _ z (by omega)), f _ _ _ q5 (fun z => nn _ z (by omega)), f _ _ _ q6 (fun z => nn _ z (by omega)), q7⟩
theorem LikI.fr {x b : Nat} (q : LikI h x b) (f : Fr S h h') (nn : ∀ y, S y → ¬ (b ≤ y ∧ y ≤ b + 6)) : LikI h' x b := by
  obtain ⟨r, e, n, F, C, W, Im, P, Q, q⟩ := q
  exact ⟨r, e, n, F, C, W, Im, P, Q, q.fr f nn⟩
theorem PairI.fr {x m : Nat} {pf ps pa : Int} {E : Nat → Nat} {R : Nat → Nat → Nat} (q : PairI h x pf ps pa m E R) (f : Fr S h h') (nn : ∀ y, S y → ¬ (50 ≤ y ∧ y ≤ 56)) : PairI h' x pf ps pa m E R := by
  rcases q with ⟨q1, q2, q3, q4⟩ | ⟨i, j, v, r, e, n, F, C, W, Im, P, Q, q1, q2, q3, q4, q5, q6, q7⟩
  · exact Or.inl ⟨q1, q2, q3, q4.fr f nn⟩
  · exact Or.inr ⟨i, j, v, r, e, n, F, C, W, Im, P, Q, q1, q2, q3, q4, q5, q6.fr f nn, q7⟩
theorem MinI.fr {x inn m : Nat} {P E : Nat → Nat} {R : Nat → Nat → Nat} (q : MinI h x inn m P E R) (f : Fr S h h') (n1 : ¬ S 22) (n2 : ¬ S 23) : MinI h' x inn m P E R := by
  obtain ⟨dq, li, lw, lp, fo, co, de, DD, q1, q2, q3⟩ := q
  exact ⟨dq, li, lw, lp, fo, co, de, DD, f _ _ _ q1 n1, f _ _ _ q2 n2, q3⟩
theorem DraI.fr {p e f0 : Nat} {rk : Nat → Nat} {b : Bool} {v : Value} (q : DraI h p e rk f0 b v) (f : Fr S h h') (n1 : ¬ S 2) (n2 : ¬ S 25) : DraI h' p e rk f0 b v := by
  rcases q with q | ⟨q0, q, jq, kq, bq, nq, cq, c2, r2, p2, rc, tr, q1, q2, q3, q4, q5, q6⟩
  · exact Or.inl q
  · exact Or.inr ⟨q0, q, jq, kq, bq, nq, cq, c2, r2, p2, rc, tr, q1, f _ _ _ q2 n2, f _ _ _ q3 n1, f _ _ _ q4 n1, fun j hj => f _ _ _ (q5 j hj) n1, q6⟩
theorem MatI.fr {p e : Nat} {rk : Nat → Nat} {b2 b3 : Bool} (q : MatI h p e rk b2 b3) (f : Fr S h h') (n1 : ¬ S 2) (n2 : ¬ S 24) (n3 : ¬ S 25) : MatI h' p e rk b2 b3 := by
  obtain ⟨rq, hq, tq, sym, v2, v3, q1, q2, q3, q4, q5, q6, q7⟩ := q
  exact ⟨rq, hq, tq, sym, v2, v3, f _ _ _ q1 n2, f _ _ _ q2 n1, f _ _ _ q3 n1, f _ _ _ q4 n1, q5, q6.fr f n1 n3, q7.fr f n1 n3⟩
/-- labels that are no part of the house's state -/
abbrev HN (S : Nat → Prop) : Prop := ∀ x, S x → x ≠ 2 ∧ (x < 10 ∨ 25 < x) ∧ (x < 50 ∨ 66 < x)
theorem HI.fr {a : Nat} {w : Nat → Nat} {c m : Nat} {E : Nat → Nat} {R : Nat → Nat → Nat} {br bf bs be : Int} {D2 D3 : Nat → Bool} {so : Nat} (q : HI h a w c m E R br bf bs be D2 D3 so) (f : Fr S h h') (n : HN S) : HI h' a w c m E R br bf bs be D2 D3 so := by
  obtain ⟨k, row, kept, tb, cb, pr, inn, mn, pf, ps, pa, x1, x2, x3, x4, P, q1, q2, q3, q4, q5, q6, q7, q8, q9, q10⟩ := q
  have nn : ∀ z, (z = 2 ∨ (10 ≤ z ∧ z ≤ 25) ∨ (50 ≤ z ∧ z ≤ 66)) → ¬ S z := fun z hz hs => by
    have := n z hs
    omega
  exact ⟨k, row, kept, tb, cb, pr, inn, mn, pf, ps, pa, x1, x2, x3, x4, P, f _ _ _ q1 (nn _ (by omega)), q2.fr f (nn _ (by omega)) (nn _ (by omega)), f _ _ _ q3 (nn _ (by omega)), q4.fr f (fun y hy => by have := n y hy; omega), q5.fr f (fun y hy => by have := n y hy; omega), q6.fr f (fun y hy => by have := n y hy; omega), q7.fr f (fun y hy => by have := n y hy; omega), q8.fr f (nn _ (by omega)) (nn _ (by omega)), q9, fun j hj => (q10 j hj).fr f (nn _ (by omega)) (nn _ (by omega)) (nn _ (by omega))⟩
end HFr
