/-! The house (X10): drawings -/
theorem up_self {α : Type} {f : Nat → α} {k : Nat} : up f k (f k) = f := by
  funext j
  rw [up_is]
  split
  · next q => rw [q]
  · rfl
/-- whether it is drawn -/
def draP (rk : Nat → Nat) (e f : Nat) (tr : Int) : Prop := (tr = 0 ∨ tr = 1) ∧ (tr = 1 ↔ ∀ s, s < 2 ^ e → rkE f (rk (2 ^ e - 1)) (drG (sortN rk e) e (bsN rk e) f) s = rk s)
abbrev FD (x : Nat) : Prop := x = 24 ∨ (26 ≤ x ∧ x < 50)
theorem HI.setMat {h h' : AH} {a : Nat} {w : Nat → Nat} {c m : Nat} {E : Nat → Nat} {R : Nat → Nat → Nat} {br bf bs be : Int} {D2 D3 : Nat → Bool} {so row kept tb cb pr inn mn : Nat} {pf ps pa x1 x2 x3 x4 : Int} {P : Nat → Nat}
    (k : c ≤ 60 ∧ (∀ j, w j < 1024) ∧ m ≤ 24 ∧ so ≤ m ∧ (br = 0 ∨ br = 1) ∧ (∀ j, m ≤ j → D2 j = false ∧ D3 j = false) ∧ ∀ j, j < m → Mtr (E j) (R j))
    (k1 : h a = some (10, oHou row kept m tb cb pr inn mn pf ps pa so)) (kR : RowI h row c w) (k3 : h kept = some (13, aR (.object "Circuitfold$Matroid") 24 (fun j => if j < m then some (P j) else none))) (kT : ExcI h tb 14 br bf bs be) (kC : ExcI h cb 18 x1 x2 x3 x4) (kP : PairI h pr pf ps pa m E R) (kL : LikI h inn 60) (kM : MinI h mn inn m P E R) (kI : ∀ i j, i < m → j < m → P i = P j → i = j) (kMat : ∀ j, j < m → MatI h (P j) (E j) (R j) (D2 j) (D3 j))
    {i : Nat} (hi : i < m) {b2 b3 : Bool} (hMi : MatI h' (P i) (E i) (R i) b2 b3) (f : Fr FD h h') (ho : ∀ y o, y ≠ P i → h y = some (24, o) → h' y = some (24, o)) : HI h' a w c m E R br bf bs be (up D2 i b2) (up D3 i b3) so := by
  refine ⟨⟨k.1, k.2.1, k.2.2.1, k.2.2.2.1, k.2.2.2.2.1, fun j hj => ?_, k.2.2.2.2.2.2⟩, row, kept, tb, cb, pr, inn, mn, pf, ps, pa, x1, x2, x3, x4, P, f _ _ _ k1 (by omega), kR.fr f (by omega) (by omega), f _ _ _ k3 (by omega), kT.fr f (fun y hy => by omega), kC.fr f (fun y hy => by omega), kP.fr f (fun y hy => by omega), kL.fr f (fun y hy => by omega), kM.fr f (by omega) (by omega), kI, fun j hj => ?_⟩
  · rw [up_n (by omega), up_n (by omega)]
    exact k.2.2.2.2.2.1 j hj
  · by_cases q : j = i
    · subst q
      rw [up_s, up_s]
      exact hMi
    · rw [up_n q, up_n q]
      obtain ⟨rq, hq, tq, sym, v2, v3, q1, q2, q3, q4, q5, q6, q7⟩ := kMat j hj
      exact ⟨rq, hq, tq, sym, v2, v3, ho _ _ (fun z => q (kI j i hj hi z)) q1, f _ _ _ q2 (by omega), f _ _ _ q3 (by omega), f _ _ _ q4 (by omega), q5, q6.fr f (by omega) (by omega), q7.fr f (by omega) (by omega)⟩
def rmC (b : Bool) : Nat := if b = true then 0 else 31
def rmS (b : Bool) : Nat := if b = true then 0 else 2108
section C74
variable {l : Launch} {D : va_G} {S0 : State}
set_option maxHeartbeats 1000000 in
set_option maxRecDepth 100000 in
theorem c_X10_drawingOfN (hW : WOK l D S0) (d : Nat) {h : AH} {p : Nat} {f : Int} (hf : inR f) (h2 : f ≠ 2) (h3 : f ≠ 3) : MA l D S0 yX10_drawingOf cX10_drawingOf 2 (some (.object "Circuitfold$Drawing")) d [.ref p, I f] h 1 6 (fun _ _ => False) (fun E' h' => E' = eIAE ∧ h' = h) := by
  refine MA.start hW (by decide) [.val (.ref p), .val (I f)] rfl ?_
  rintro X rfl rfl rfl hX
  refine wa_iload_n hX (i := 1) dX10_drawingOf_0 rfl rfl ?_
  refine wi_iconst hX dX10_drawingOf_1 ?_
  refine wi_icmp_eq hX (tgt := 21) dX10_drawingOf_2 (by decide) (by omega) (by omega) (fun c2 => ?_) (fun c2 => ?_)
  · skip
    exfalso; omega
  · skip
    refine wa_iload_n hX (i := 1) dX10_drawingOf_5 rfl rfl ?_
    refine wi_iconst hX dX10_drawingOf_6 ?_
    refine wi_icmp_eq hX (tgt := 21) dX10_drawingOf_7 (by decide) (by omega) (by omega) (fun c7 => ?_) (fun c7 => ?_)
    · skip
      exfalso; omega
    · skip
      refine wa_throwSW2 hX (ik := 58) (is := 430) (ic := 62) "java/lang/IllegalArgumentException" "there is no such field" ["java/lang/RuntimeException", "java/lang/Exception"] (thr_ok (by decide +kernel) wx_IAE) rfl (by exact Nat.le_of_ble_eq_true rfl) dX10_drawingOf_10 dX10_drawingOf_13 dX10_drawingOf_14 dX10_drawingOf_17 dX10_drawingOf_20 ?_
      exact ⟨rfl, rfl⟩
set_option maxHeartbeats 2000000 in
set_option maxRecDepth 100000 in
theorem c_X10_drawingOf2 (hW : WOK l D S0) (d : Nat) {h : AH} {p e : Nat} {rk : Nat → Nat} {b2 b3 : Bool} (hM : MatI h p e rk b2 b3) (hMt : Mtr e rk) {f : Int} (hf : f = 2) : MA l D S0 yX10_drawingOf cX10_drawingOf 2 (some (.object "Circuitfold$Drawing")) (d + 5) [.ref p, I f] h (rmC b2) (rmS b2) (fun r h' => ∃ q, r = some (.ref q) ∧ DraI h' p e rk 2 true (.ref q) ∧ MatI h' p e rk true b3 ∧ Fr FD h h' ∧ ∀ y o, y ≠ p → h y = some (24, o) → h' y = some (24, o)) (fun _ _ => False) := by
  obtain ⟨rq, hq, tq, sym, v2, v3, g1, g2, g3, g4, g5, g6, g7⟩ := id hM
  have he := hMt.1
  have hp := p2_le he
  have hp0 := p2_pos e
  have hf10 := hMt.le10 (show 2 ^ e - 1 < 2 ^ e by omega)
  obtain ⟨w1, w2, w3, w4, -⟩ := hMt.bas
  have g2o := g2
  have g3o := g3
  have g4o := g4
  rcases id g6 with ⟨q1, q2⟩ | ⟨q1, qd, jq, kq, bq, nq, cq, c2, r2, p2, rc, tr, q2, q3⟩
  · subst q1
    subst q2
    refine MA.start hW (by decide) [.val (.ref p), .val (I f)] rfl ?_
    rintro X rfl rfl rfl hX
    refine WA.room (k2 := 30 + 1) (sl2 := 2100 + 8) (by decide) (by decide) ?_
    have fr : Fr (fun x => x = 27 ∨ (40 < x ∧ x < 50)) h h := Fr.rf
    refine wa_iload_n hX (i := 1) dX10_drawingOf_0 rfl rfl ?_
    refine wi_iconst hX dX10_drawingOf_1 ?_
    refine wi_icmp_eq hX (tgt := 21) dX10_drawingOf_2 (by decide) (by omega) (by omega) (fun c2 => ?_) (fun c2 => ?_)
    · skip
      refine wa_iload_n hX (i := 1) dX10_drawingOf_21 rfl rfl ?_
      refine wi_iconst hX dX10_drawingOf_22 ?_
      refine wi_icmp_ne hX (tgt := 51) dX10_drawingOf_23 (by decide) (by omega) (by omega) (fun c23 => ?_) (fun c23 => ?_)
      · skip
        exfalso; omega
      · skip
        refine wa_aload_n hX (i := 0) dX10_drawingOf_26 rfl rfl ?_
        refine wa_get hX 7 (by assumption) (by rfl) (by decide +kernel) dX10_drawingOf_27 ?_
        refine wa_ifnonnullN hX dX10_drawingOf_30 ?_
        refine wa_aload_n hX (i := 0) dX10_drawingOf_33 rfl rfl ?_
        refine wa_new hX 4 27 8 [.null, I 0, .null, .null, .null, .null, .null, I 0] (by decide +kernel) (by decide +kernel) rfl dX10_drawingOf_34 (fun q qn => ?_)
        refine WA.hnew qn (fun hh1 hN hK => ?_)
        replace fr := Fr.mk9 fr hK
        replace g1 := hK _ _ _ g1
        replace g2 := hK _ _ _ g2
        replace g3 := hK _ _ _ g3
        replace g4 := hK _ _ _ g4
        have Hq := hN
        clear hN hK
        refine wa_dup hX dX10_drawingOf_37 rfl ?_
        refine wa_aload_n hX (i := 0) dX10_drawingOf_38 rfl rfl ?_
        refine wi_iconst hX dX10_drawingOf_39 ?_
        refine wa_callI hX (c_X2_init hW d (f := 2) Hq g1 g4 g2 (by decide) (by decide) (by decide) (by decide) (by decide) (by decide) (by decide) (by decide) (by decide) he hf10 w2 w3 w1 (fun j _ => sortN_lt rk e j) (fun s hs => hMt.le10 hs)) (by rfl) (by omega) (nA := 2) (by rfl) (by decide +kernel) rfl (by exact Nat.le_of_ble_eq_true rfl) dX10_drawingOf_40 (fun r40 h40 p40 => ?_) (fun _ _ q => q.elim)
        obtain ⟨rfl, ⟨jq, kq, bq, nq, cq, c2, r2, p2, rc, tr, d1, d2, d3, d4, d5, d6⟩, f40⟩ := p40
        have fA : Fr (fun x => x = 27 ∨ (40 < x ∧ x < 50)) h h40 := fr.trans f40
        have z1 := f40 _ _ _ g1 (by omega)
        dsimp only [Option.toList, List.cons_append, List.nil_append]
        refine wa_put hX 7 z1 (Nat.le_of_ble_eq_true rfl) (by decide +kernel) (by rfl) (by rfl) (by rfl) dX10_drawingOf_43 ?_
        refine WA.heap (h2 := hset h40 p (24, oMat e (rk (2 ^ e - 1)) rq hq tq (sym : Int) (.ref q) v3)) rfl ?_
        refine WA.hgq (fun hA hhA => ?_)
        have y1 : hA p = some (24, oMat e (rk (2 ^ e - 1)) rq hq tq (sym : Int) (.ref q) v3) := by rw [hhA]; exact hset_eq
        have fB : Fr (fun x => x = 24) h40 hA := by rw [hhA]; exact Fr.hset Fr.rf z1 rfl
        have e1 := fB _ _ _ d1 (by omega)
        have ho1 : ∀ y o, y ≠ p → h y = some (24, o) → hA y = some (24, o) := fun y o hy h9 => by
          rw [hhA, hset_ne hy]
          exact fA _ _ _ h9 (by omega)
        refine WA.lab 25 e1 ?_
        refine WA.hgq (fun hB hhB => ?_)
        have x1 : hB q = some (25, oDra p (bsN rk e : Int) jq kq bq nq cq tr) := by rw [hhB]; exact hset_eq
        have fC : Fr (fun x => x = 27) hA hB := by rw [hhB]; exact Fr.hset Fr.rf e1 rfl
        have y2 := fC _ _ _ y1 (by omega)
        have fBC : Fr (fun x => x = 24 ∨ x = 27) h40 hB := (fB.mono (fun x hx => Or.inl hx)).trans (fC.mono (fun x hx => Or.inr hx))
        have fD : Fr FD h hB := (fA.mono (fun x hx => by omega)).trans (fBC.mono (fun x hx => by omega))
        have hdr : DraI hB p e rk 2 true (.ref q) := Or.inr ⟨rfl, q, jq, kq, bq, nq, cq, c2, r2, p2, rc, tr, rfl, x1, fBC _ _ _ d2 (by omega), fBC _ _ _ d3 (by omega), fun j hj => fBC _ _ _ (d4 j hj) (by omega), d5, d6⟩
        have ho2 : ∀ y o, y ≠ p → h y = some (24, o) → hB y = some (24, o) := fun y o hy h9 => fC _ _ _ (ho1 y o hy h9) (by omega)
        clear g1 g2 g3 g4
        have g2' : hB rq = some (2, aB e rk) := fD _ _ _ g2o (by omega)
        have g3' : hB hq = some (2, aS (shpN rk e)) := fD _ _ _ g3o (by omega)
        have g4' : hB tq = some (2, aB e (sortN rk e)) := fD _ _ _ g4o (by omega)
        refine wa_aload_n hX (i := 0) dX10_drawingOf_46 rfl rfl ?_
        refine wa_get hX 7 (by assumption) (by rfl) (by decide +kernel) dX10_drawingOf_47 ?_
        refine wa_aretR hX dX10_drawingOf_50 (by first | exact Or.inl ⟨_, rfl⟩ | exact Or.inr ⟨_, rfl⟩) ?_
        exact ⟨q, rfl, hdr, ⟨rq, hq, tq, sym, .ref q, v3, y2, g2', g3', g4', g5, hdr, g7.fr fD (by omega) (by omega)⟩, fD, ho2⟩
    · skip
      exfalso; omega
  · subst q1
    subst q2
    refine MA.start hW (by decide) [.val (.ref p), .val (I f)] rfl ?_
    rintro X rfl rfl rfl hX
    refine wa_iload_n hX (i := 1) dX10_drawingOf_0 rfl rfl ?_
    refine wi_iconst hX dX10_drawingOf_1 ?_
    refine wi_icmp_eq hX (tgt := 21) dX10_drawingOf_2 (by decide) (by omega) (by omega) (fun c2 => ?_) (fun c2 => ?_)
    · skip
      refine wa_iload_n hX (i := 1) dX10_drawingOf_21 rfl rfl ?_
      refine wi_iconst hX dX10_drawingOf_22 ?_
      refine wi_icmp_ne hX (tgt := 51) dX10_drawingOf_23 (by decide) (by omega) (by omega) (fun c23 => ?_) (fun c23 => ?_)
      · skip
        exfalso; omega
      · skip
        refine wa_aload_n hX (i := 0) dX10_drawingOf_26 rfl rfl ?_
        refine wa_get hX 7 (by assumption) (by rfl) (by decide +kernel) dX10_drawingOf_27 ?_
        refine wa_ifnonnull hX (tgt := 46) dX10_drawingOf_30 (by decide) ?_
        refine wa_aload_n hX (i := 0) dX10_drawingOf_46 rfl rfl ?_
        refine wa_get hX 7 (by assumption) (by rfl) (by decide +kernel) dX10_drawingOf_47 ?_
        refine wa_aretR hX dX10_drawingOf_50 (by first | exact Or.inl ⟨_, rfl⟩ | exact Or.inr ⟨_, rfl⟩) ?_
        exact ⟨qd, rfl, g6, hM, Fr.rf, fun y o _ h9 => h9⟩
    · skip
      exfalso; omega
set_option maxHeartbeats 2000000 in
set_option maxRecDepth 100000 in
theorem c_X10_drawingOf3 (hW : WOK l D S0) (d : Nat) {h : AH} {p e : Nat} {rk : Nat → Nat} {b2 b3 : Bool} (hM : MatI h p e rk b2 b3) (hMt : Mtr e rk) {f : Int} (hf : f = 3) : MA l D S0 yX10_drawingOf cX10_drawingOf 2 (some (.object "Circuitfold$Drawing")) (d + 5) [.ref p, I f] h (rmC b3) (rmS b3) (fun r h' => ∃ q, r = some (.ref q) ∧ DraI h' p e rk 3 true (.ref q) ∧ MatI h' p e rk b2 true ∧ Fr FD h h' ∧ ∀ y o, y ≠ p → h y = some (24, o) → h' y = some (24, o)) (fun _ _ => False) := by
  obtain ⟨rq, hq, tq, sym, v2, v3, g1, g2, g3, g4, g5, g6, g7⟩ := id hM
  have he := hMt.1
  have hp := p2_le he
  have hp0 := p2_pos e
  have hf10 := hMt.le10 (show 2 ^ e - 1 < 2 ^ e by omega)
  obtain ⟨w1, w2, w3, w4, -⟩ := hMt.bas
  have g2o := g2
  have g3o := g3
  have g4o := g4
  rcases id g7 with ⟨q1, q2⟩ | ⟨q1, qd, jq, kq, bq, nq, cq, c2, r2, p2, rc, tr, q2, q3⟩
  · subst q1
    subst q2
    refine MA.start hW (by decide) [.val (.ref p), .val (I f)] rfl ?_
    rintro X rfl rfl rfl hX
    refine WA.room (k2 := 30 + 1) (sl2 := 2100 + 8) (by decide) (by decide) ?_
    have fr : Fr (fun x => x = 27 ∨ (40 < x ∧ x < 50)) h h := Fr.rf
    refine wa_iload_n hX (i := 1) dX10_drawingOf_0 rfl rfl ?_
    refine wi_iconst hX dX10_drawingOf_1 ?_
    refine wi_icmp_eq hX (tgt := 21) dX10_drawingOf_2 (by decide) (by omega) (by omega) (fun c2 => ?_) (fun c2 => ?_)
    · skip
      refine wa_iload_n hX (i := 1) dX10_drawingOf_21 rfl rfl ?_
      refine wi_iconst hX dX10_drawingOf_22 ?_
      refine wi_icmp_ne hX (tgt := 51) dX10_drawingOf_23 (by decide) (by omega) (by omega) (fun c23 => ?_) (fun c23 => ?_)
      · skip
        refine wa_aload_n hX (i := 0) dX10_drawingOf_51 rfl rfl ?_
        refine wa_get hX 8 (by assumption) (by rfl) (by decide +kernel) dX10_drawingOf_52 ?_
        refine wa_ifnonnullN hX dX10_drawingOf_55 ?_
        refine wa_aload_n hX (i := 0) dX10_drawingOf_58 rfl rfl ?_
        refine wa_new hX 4 27 8 [.null, I 0, .null, .null, .null, .null, .null, I 0] (by decide +kernel) (by decide +kernel) rfl dX10_drawingOf_59 (fun q qn => ?_)
        refine WA.hnew qn (fun hh2 hN hK => ?_)
        replace fr := Fr.mk9 fr hK
        replace g1 := hK _ _ _ g1
        replace g2 := hK _ _ _ g2
        replace g3 := hK _ _ _ g3
        replace g4 := hK _ _ _ g4
        have Hq := hN
        clear hN hK
        refine wa_dup hX dX10_drawingOf_62 rfl ?_
        refine wa_aload_n hX (i := 0) dX10_drawingOf_63 rfl rfl ?_
        refine wi_iconst hX dX10_drawingOf_64 ?_
        refine wa_callI hX (c_X2_init hW d (f := 3) Hq g1 g4 g2 (by decide) (by decide) (by decide) (by decide) (by decide) (by decide) (by decide) (by decide) (by decide) he hf10 w2 w3 w1 (fun j _ => sortN_lt rk e j) (fun s hs => hMt.le10 hs)) (by rfl) (by omega) (nA := 2) (by rfl) (by decide +kernel) rfl (by exact Nat.le_of_ble_eq_true rfl) dX10_drawingOf_65 (fun r65 h65 p65 => ?_) (fun _ _ q => q.elim)
        obtain ⟨rfl, ⟨jq, kq, bq, nq, cq, c2, r2, p2, rc, tr, d1, d2, d3, d4, d5, d6⟩, f40⟩ := p65
        have fA : Fr (fun x => x = 27 ∨ (40 < x ∧ x < 50)) h h65 := fr.trans f40
        have z1 := f40 _ _ _ g1 (by omega)
        dsimp only [Option.toList, List.cons_append, List.nil_append]
        refine wa_put hX 8 z1 (Nat.le_of_ble_eq_true rfl) (by decide +kernel) (by rfl) (by rfl) (by rfl) dX10_drawingOf_68 ?_
        refine WA.heap (h2 := hset h65 p (24, oMat e (rk (2 ^ e - 1)) rq hq tq (sym : Int) v2 (.ref q))) rfl ?_
        refine WA.hgq (fun hA hhA => ?_)
        have y1 : hA p = some (24, oMat e (rk (2 ^ e - 1)) rq hq tq (sym : Int) v2 (.ref q)) := by rw [hhA]; exact hset_eq
        have fB : Fr (fun x => x = 24) h65 hA := by rw [hhA]; exact Fr.hset Fr.rf z1 rfl
        have e1 := fB _ _ _ d1 (by omega)
        have ho1 : ∀ y o, y ≠ p → h y = some (24, o) → hA y = some (24, o) := fun y o hy h9 => by
          rw [hhA, hset_ne hy]
          exact fA _ _ _ h9 (by omega)
        refine WA.lab 25 e1 ?_
        refine WA.hgq (fun hB hhB => ?_)
        have x1 : hB q = some (25, oDra p (bsN rk e : Int) jq kq bq nq cq tr) := by rw [hhB]; exact hset_eq
        have fC : Fr (fun x => x = 27) hA hB := by rw [hhB]; exact Fr.hset Fr.rf e1 rfl
        have y2 := fC _ _ _ y1 (by omega)
        have fBC : Fr (fun x => x = 24 ∨ x = 27) h65 hB := (fB.mono (fun x hx => Or.inl hx)).trans (fC.mono (fun x hx => Or.inr hx))
        have fD : Fr FD h hB := (fA.mono (fun x hx => by omega)).trans (fBC.mono (fun x hx => by omega))
        have hdr : DraI hB p e rk 3 true (.ref q) := Or.inr ⟨rfl, q, jq, kq, bq, nq, cq, c2, r2, p2, rc, tr, rfl, x1, fBC _ _ _ d2 (by omega), fBC _ _ _ d3 (by omega), fun j hj => fBC _ _ _ (d4 j hj) (by omega), d5, d6⟩
        have ho2 : ∀ y o, y ≠ p → h y = some (24, o) → hB y = some (24, o) := fun y o hy h9 => fC _ _ _ (ho1 y o hy h9) (by omega)
        clear g1 g2 g3 g4
        have g2' : hB rq = some (2, aB e rk) := fD _ _ _ g2o (by omega)
        have g3' : hB hq = some (2, aS (shpN rk e)) := fD _ _ _ g3o (by omega)
        have g4' : hB tq = some (2, aB e (sortN rk e)) := fD _ _ _ g4o (by omega)
        refine wa_aload_n hX (i := 0) dX10_drawingOf_71 rfl rfl ?_
        refine wa_get hX 8 (by assumption) (by rfl) (by decide +kernel) dX10_drawingOf_72 ?_
        refine wa_aretR hX dX10_drawingOf_75 (by first | exact Or.inl ⟨_, rfl⟩ | exact Or.inr ⟨_, rfl⟩) ?_
        exact ⟨q, rfl, hdr, ⟨rq, hq, tq, sym, v2, .ref q, y2, g2', g3', g4', g5, g6.fr fD (by omega) (by omega), hdr⟩, fD, ho2⟩
      · skip
        exfalso; omega
    · skip
      refine wa_iload_n hX (i := 1) dX10_drawingOf_5 rfl rfl ?_
      refine wi_iconst hX dX10_drawingOf_6 ?_
      refine wi_icmp_eq hX (tgt := 21) dX10_drawingOf_7 (by decide) (by omega) (by omega) (fun c7 => ?_) (fun c7 => ?_)
      · skip
        refine wa_iload_n hX (i := 1) dX10_drawingOf_21 rfl rfl ?_
        refine wi_iconst hX dX10_drawingOf_22 ?_
        refine wi_icmp_ne hX (tgt := 51) dX10_drawingOf_23 (by decide) (by omega) (by omega) (fun c23 => ?_) (fun c23 => ?_)
        · skip
          refine wa_aload_n hX (i := 0) dX10_drawingOf_51 rfl rfl ?_
          refine wa_get hX 8 (by assumption) (by rfl) (by decide +kernel) dX10_drawingOf_52 ?_
          refine wa_ifnonnullN hX dX10_drawingOf_55 ?_
          refine wa_aload_n hX (i := 0) dX10_drawingOf_58 rfl rfl ?_
          refine wa_new hX 4 27 8 [.null, I 0, .null, .null, .null, .null, .null, I 0] (by decide +kernel) (by decide +kernel) rfl dX10_drawingOf_59 (fun q qn => ?_)
          refine WA.hnew qn (fun hh3 hN hK => ?_)
          replace fr := Fr.mk9 fr hK
          replace g1 := hK _ _ _ g1
          replace g2 := hK _ _ _ g2
          replace g3 := hK _ _ _ g3
          replace g4 := hK _ _ _ g4
          have Hq := hN
          clear hN hK
          refine wa_dup hX dX10_drawingOf_62 rfl ?_
          refine wa_aload_n hX (i := 0) dX10_drawingOf_63 rfl rfl ?_
          refine wi_iconst hX dX10_drawingOf_64 ?_
          refine wa_callI hX (c_X2_init hW d (f := 3) Hq g1 g4 g2 (by decide) (by decide) (by decide) (by decide) (by decide) (by decide) (by decide) (by decide) (by decide) he hf10 w2 w3 w1 (fun j _ => sortN_lt rk e j) (fun s hs => hMt.le10 hs)) (by rfl) (by omega) (nA := 2) (by rfl) (by decide +kernel) rfl (by exact Nat.le_of_ble_eq_true rfl) dX10_drawingOf_65 (fun r65 h65 p65 => ?_) (fun _ _ q => q.elim)
          obtain ⟨rfl, ⟨jq, kq, bq, nq, cq, c2, r2, p2, rc, tr, d1, d2, d3, d4, d5, d6⟩, f40⟩ := p65
          have fA : Fr (fun x => x = 27 ∨ (40 < x ∧ x < 50)) h h65 := fr.trans f40
          have z1 := f40 _ _ _ g1 (by omega)
          dsimp only [Option.toList, List.cons_append, List.nil_append]
          refine wa_put hX 8 z1 (Nat.le_of_ble_eq_true rfl) (by decide +kernel) (by rfl) (by rfl) (by rfl) dX10_drawingOf_68 ?_
          refine WA.heap (h2 := hset h65 p (24, oMat e (rk (2 ^ e - 1)) rq hq tq (sym : Int) v2 (.ref q))) rfl ?_
          refine WA.hgq (fun hA hhA => ?_)
          have y1 : hA p = some (24, oMat e (rk (2 ^ e - 1)) rq hq tq (sym : Int) v2 (.ref q)) := by rw [hhA]; exact hset_eq
          have fB : Fr (fun x => x = 24) h65 hA := by rw [hhA]; exact Fr.hset Fr.rf z1 rfl
          have e1 := fB _ _ _ d1 (by omega)
          have ho1 : ∀ y o, y ≠ p → h y = some (24, o) → hA y = some (24, o) := fun y o hy h9 => by
            rw [hhA, hset_ne hy]
            exact fA _ _ _ h9 (by omega)
          refine WA.lab 25 e1 ?_
          refine WA.hgq (fun hB hhB => ?_)
          have x1 : hB q = some (25, oDra p (bsN rk e : Int) jq kq bq nq cq tr) := by rw [hhB]; exact hset_eq
          have fC : Fr (fun x => x = 27) hA hB := by rw [hhB]; exact Fr.hset Fr.rf e1 rfl
          have y2 := fC _ _ _ y1 (by omega)
          have fBC : Fr (fun x => x = 24 ∨ x = 27) h65 hB := (fB.mono (fun x hx => Or.inl hx)).trans (fC.mono (fun x hx => Or.inr hx))
          have fD : Fr FD h hB := (fA.mono (fun x hx => by omega)).trans (fBC.mono (fun x hx => by omega))
          have hdr : DraI hB p e rk 3 true (.ref q) := Or.inr ⟨rfl, q, jq, kq, bq, nq, cq, c2, r2, p2, rc, tr, rfl, x1, fBC _ _ _ d2 (by omega), fBC _ _ _ d3 (by omega), fun j hj => fBC _ _ _ (d4 j hj) (by omega), d5, d6⟩
          have ho2 : ∀ y o, y ≠ p → h y = some (24, o) → hB y = some (24, o) := fun y o hy h9 => fC _ _ _ (ho1 y o hy h9) (by omega)
          clear g1 g2 g3 g4
          have g2' : hB rq = some (2, aB e rk) := fD _ _ _ g2o (by omega)
          have g3' : hB hq = some (2, aS (shpN rk e)) := fD _ _ _ g3o (by omega)
          have g4' : hB tq = some (2, aB e (sortN rk e)) := fD _ _ _ g4o (by omega)
          refine wa_aload_n hX (i := 0) dX10_drawingOf_71 rfl rfl ?_
          refine wa_get hX 8 (by assumption) (by rfl) (by decide +kernel) dX10_drawingOf_72 ?_
          refine wa_aretR hX dX10_drawingOf_75 (by first | exact Or.inl ⟨_, rfl⟩ | exact Or.inr ⟨_, rfl⟩) ?_
          exact ⟨q, rfl, hdr, ⟨rq, hq, tq, sym, v2, .ref q, y2, g2', g3', g4', g5, g6.fr fD (by omega) (by omega), hdr⟩, fD, ho2⟩
        · skip
          exfalso; omega
      · skip
        exfalso; omega
  · subst q1
    subst q2
    refine MA.start hW (by decide) [.val (.ref p), .val (I f)] rfl ?_
    rintro X rfl rfl rfl hX
    refine wa_iload_n hX (i := 1) dX10_drawingOf_0 rfl rfl ?_
    refine wi_iconst hX dX10_drawingOf_1 ?_
    refine wi_icmp_eq hX (tgt := 21) dX10_drawingOf_2 (by decide) (by omega) (by omega) (fun c2 => ?_) (fun c2 => ?_)
    · skip
      refine wa_iload_n hX (i := 1) dX10_drawingOf_21 rfl rfl ?_
      refine wi_iconst hX dX10_drawingOf_22 ?_
      refine wi_icmp_ne hX (tgt := 51) dX10_drawingOf_23 (by decide) (by omega) (by omega) (fun c23 => ?_) (fun c23 => ?_)
      · skip
        refine wa_aload_n hX (i := 0) dX10_drawingOf_51 rfl rfl ?_
        refine wa_get hX 8 (by assumption) (by rfl) (by decide +kernel) dX10_drawingOf_52 ?_
        refine wa_ifnonnull hX (tgt := 71) dX10_drawingOf_55 (by decide) ?_
        refine wa_aload_n hX (i := 0) dX10_drawingOf_71 rfl rfl ?_
        refine wa_get hX 8 (by assumption) (by rfl) (by decide +kernel) dX10_drawingOf_72 ?_
        refine wa_aretR hX dX10_drawingOf_75 (by first | exact Or.inl ⟨_, rfl⟩ | exact Or.inr ⟨_, rfl⟩) ?_
        exact ⟨qd, rfl, g7, hM, Fr.rf, fun y o _ h9 => h9⟩
      · skip
        exfalso; omega
    · skip
      refine wa_iload_n hX (i := 1) dX10_drawingOf_5 rfl rfl ?_
      refine wi_iconst hX dX10_drawingOf_6 ?_
      refine wi_icmp_eq hX (tgt := 21) dX10_drawingOf_7 (by decide) (by omega) (by omega) (fun c7 => ?_) (fun c7 => ?_)
      · skip
        refine wa_iload_n hX (i := 1) dX10_drawingOf_21 rfl rfl ?_
        refine wi_iconst hX dX10_drawingOf_22 ?_
        refine wi_icmp_ne hX (tgt := 51) dX10_drawingOf_23 (by decide) (by omega) (by omega) (fun c23 => ?_) (fun c23 => ?_)
        · skip
          refine wa_aload_n hX (i := 0) dX10_drawingOf_51 rfl rfl ?_
          refine wa_get hX 8 (by assumption) (by rfl) (by decide +kernel) dX10_drawingOf_52 ?_
          refine wa_ifnonnull hX (tgt := 71) dX10_drawingOf_55 (by decide) ?_
          refine wa_aload_n hX (i := 0) dX10_drawingOf_71 rfl rfl ?_
          refine wa_get hX 8 (by assumption) (by rfl) (by decide +kernel) dX10_drawingOf_72 ?_
          refine wa_aretR hX dX10_drawingOf_75 (by first | exact Or.inl ⟨_, rfl⟩ | exact Or.inr ⟨_, rfl⟩) ?_
          exact ⟨qd, rfl, g7, hM, Fr.rf, fun y o _ h9 => h9⟩
        · skip
          exfalso; omega
      · skip
        exfalso; omega
set_option maxHeartbeats 2000000 in
set_option maxRecDepth 100000 in
theorem c_X10_canBeDrawn (hW : WOK l D S0) (d : Nat) {h : AH} {a : Nat} {w : Nat → Nat} {c m : Nat} {E : Nat → Nat} {R : Nat → Nat → Nat} {br bf bs be : Int} {D2 D3 : Nat → Bool} {so : Nat} (hI : HI h a w c m E R br bf bs be D2 D3 so) {n f : Int} (hn : inR n) (hf : inR f) : MA l D S0 yX10_canBeDrawn cX10_canBeDrawn 3 (some .boolean) (d + 6) [.ref a, I n, I f] h 40 2200 (fun r h' => ∃ (i fN : Nat) (tr : Int), i < m ∧ n = (i : Int) ∧ (fN = 2 ∨ fN = 3) ∧ f = (fN : Int) ∧ draP (R i) (E i) fN tr ∧ r = some (I tr) ∧ HI h' a w c m E R br bf bs be (if fN = 2 then up D2 i true else D2) (if fN = 3 then up D3 i true else D3) so ∧ Fr HF h h') (fun E' h' => h' = h ∧ ((noM n m ∧ E' = eIOO) ∨ ∃ i, i < m ∧ n = (i : Int) ∧ f ≠ 2 ∧ f ≠ 3 ∧ E' = eIAE)) := by
  obtain ⟨⟨hc60, hw, hm24, hso, hbr, hD, hMt⟩, row, kept, tb, cb, pr, inn, mn, pf, ps, pa, x1, x2, x3, x4, P, k1, kR, k3, kT, kC, kP, kL, kM, kI, kMat⟩ := id hI
  refine MA.start hW (by decide) [.val (.ref a), .val (I n), .val (I f)] rfl ?_
  rintro X rfl rfl rfl hX
  refine wa_aload_n hX (i := 0) dX10_canBeDrawn_0 rfl rfl ?_
  refine wa_iload_n hX (i := 1) dX10_canBeDrawn_1 rfl rfl ?_
  refine wa_callV hX (c_X10_find hW d k1 k3 hm24 hn) (by assumption) (by rfl) (by rfl) (by omega) (nA := 1) (by rfl) (by decide +kernel) rfl (by exact Nat.le_of_ble_eq_true rfl) dX10_canBeDrawn_2 (fun r2 h2 p2 => ?_) (fun E' h' q => ⟨q.2.1, Or.inl ⟨q.2.2, q.1⟩⟩)
  obtain ⟨hq2, i, hi, rfl, rfl⟩ := p2
  subst h2
  obtain ⟨rq, hq, tq, sym, v2, v3, g1, g2, g3, g4, g5, g6, g7⟩ := id (kMat i hi)
  have hMi := hMt i hi
  have he := hMi.1
  have hp := p2_le he
  have hp0 := p2_pos (E i)
  dsimp only [Option.toList, List.cons_append, List.nil_append]
  refine wa_iload_n hX (i := 2) dX10_canBeDrawn_5 rfl rfl ?_
  by_cases hf2 : f = 2
  · refine WA.room (k2 := 0 + rmC (D2 i)) (sl2 := 0 + rmS (D2 i)) (by unfold rmC; split <;> omega) (by unfold rmS; split <;> omega) ?_
    refine wa_callS hX (c_X10_drawingOf2 hW d (kMat i hi) hMi hf2) (by rfl) (by omega) (nA := 2) (by rfl) (by decide +kernel) rfl (by exact Nat.le_of_ble_eq_true rfl) dX10_canBeDrawn_6 (fun r6 h6 p6 => ?_) (fun _ _ q => q.elim)
    obtain ⟨q, rfl, hdr, hM', fD, ho⟩ := p6
    have hI2 := HI.setMat ⟨hc60, hw, hm24, hso, hbr, hD, hMt⟩ k1 kR k3 kT kC kP kL kM kI kMat hi hM' fD ho
    rw [up_self] at hI2
    rcases hdr with ⟨z, -⟩ | ⟨-, qd, jq, kq, bq, nq, cq, c2, r2, p2, rc, tr, z1, z2, z3, z4, z5, z6, z7⟩
    · cases z
    cases z1
    dsimp only [Option.toList, List.cons_append, List.nil_append]
    refine wa_callV hX (c_X2_isTrue hW d z2 z6) (by assumption) (by rfl) (by rfl) (by omega) (nA := 0) (by rfl) (by decide +kernel) rfl (by exact Nat.le_of_ble_eq_true rfl) dX10_canBeDrawn_9 (fun r9 h9 p9 => ?_) (fun _ _ q => q.elim)
    obtain ⟨rfl, qq9⟩ := p9; subst h9
    dsimp only [Option.toList, List.cons_append, List.nil_append]
    refine wa_zret hX dX10_canBeDrawn_12 (by rcases z6 with q | q <;> subst q <;> rfl) ?_
    exact ⟨i, 2, tr, hi, rfl, Or.inl rfl, hf2, ⟨z6, z7⟩, rfl, hI2, fD.mono (fun x hx => by omega)⟩
  · by_cases hf3 : f = 3
    · refine WA.room (k2 := 0 + rmC (D3 i)) (sl2 := 0 + rmS (D3 i)) (by unfold rmC; split <;> omega) (by unfold rmS; split <;> omega) ?_
      refine wa_callS hX (c_X10_drawingOf3 hW d (kMat i hi) hMi hf3) (by rfl) (by omega) (nA := 2) (by rfl) (by decide +kernel) rfl (by exact Nat.le_of_ble_eq_true rfl) dX10_canBeDrawn_6 (fun r6 h6 p6 => ?_) (fun _ _ q => q.elim)
      obtain ⟨q, rfl, hdr, hM', fD, ho⟩ := p6
      have hI2 := HI.setMat ⟨hc60, hw, hm24, hso, hbr, hD, hMt⟩ k1 kR k3 kT kC kP kL kM kI kMat hi hM' fD ho
      rw [up_self] at hI2
      rcases hdr with ⟨z, -⟩ | ⟨-, qd, jq, kq, bq, nq, cq, c2, r2, p2, rc, tr, z1, z2, z3, z4, z5, z6, z7⟩
      · cases z
      cases z1
      dsimp only [Option.toList, List.cons_append, List.nil_append]
      refine wa_callV hX (c_X2_isTrue hW d z2 z6) (by assumption) (by rfl) (by rfl) (by omega) (nA := 0) (by rfl) (by decide +kernel) rfl (by exact Nat.le_of_ble_eq_true rfl) dX10_canBeDrawn_9 (fun r9 h9 p9 => ?_) (fun _ _ q => q.elim)
      obtain ⟨rfl, qq9⟩ := p9; subst h9
      dsimp only [Option.toList, List.cons_append, List.nil_append]
      refine wa_zret hX dX10_canBeDrawn_12 (by rcases z6 with q | q <;> subst q <;> rfl) ?_
      exact ⟨i, 3, tr, hi, rfl, Or.inr rfl, hf3, ⟨z6, z7⟩, rfl, hI2, fD.mono (fun x hx => by omega)⟩
    · exact wa_callS hX (c_X10_drawingOfN hW d hf hf2 hf3) (by rfl) (by omega) (nA := 2) (by rfl) (by decide +kernel) rfl (by exact Nat.le_of_ble_eq_true rfl) dX10_canBeDrawn_6 (fun r6 h6 p6 => p6.elim) (fun E' h' q => ⟨q.2, Or.inr ⟨i, hi, rfl, hf2, hf3, q.1⟩⟩)
set_option maxHeartbeats 4000000 in
set_option maxRecDepth 100000 in
theorem c_X10_entry (hW : WOK l D S0) (d : Nat) {h : AH} {a : Nat} {w : Nat → Nat} {c m : Nat} {E : Nat → Nat} {R : Nat → Nat → Nat} {br bf bs be : Int} {D2 D3 : Nat → Bool} {so : Nat} (hI : HI h a w c m E R br bf bs be D2 D3 so) {n f rw0 el : Int} (hn : inR n) (hf : inR f) (hr : inR rw0) (hl : inR el) : MA l D S0 yX10_entry cX10_entry 7 (some .int) (d + 6) [.ref a, I n, I f, I rw0, I el] h 40 2200 (fun r h' => ∃ (i fN t k : Nat), i < m ∧ n = (i : Int) ∧ (fN = 2 ∨ fN = 3) ∧ f = (fN : Int) ∧ k < E i ∧ el = (k : Int) ∧ t < R i (2 ^ E i - 1) ∧ rw0 = (t : Int) ∧ draP (R i) (E i) fN 1 ∧ r = some (I (drG (sortN (R i) (E i)) (E i) (bsN (R i) (E i)) fN k t : Nat)) ∧ HI h' a w c m E R br bf bs be (if fN = 2 then up D2 i true else D2) (if fN = 3 then up D3 i true else D3) so ∧ Fr HF h h') (fun E' h' => (h' = h ∧ ((noM n m ∧ E' = eIOO) ∨ ∃ i, i < m ∧ n = (i : Int) ∧ ((¬ (0 ≤ el ∧ el < ((E i : Nat) : Int)) ∧ E' = eIOO) ∨ (0 ≤ el ∧ el < ((E i : Nat) : Int) ∧ f ≠ 2 ∧ f ≠ 3 ∧ E' = eIAE)))) ∨ ∃ (i fN : Nat) (tr : Int), i < m ∧ n = (i : Int) ∧ (fN = 2 ∨ fN = 3) ∧ f = (fN : Int) ∧ 0 ≤ el ∧ el < ((E i : Nat) : Int) ∧ draP (R i) (E i) fN tr ∧ ¬ (0 ≤ rw0 ∧ rw0 < ((R i (2 ^ E i - 1) : Nat) : Int) ∧ tr = 1) ∧ E' = eNSE ∧ HI h' a w c m E R br bf bs be (if fN = 2 then up D2 i true else D2) (if fN = 3 then up D3 i true else D3) so ∧ Fr HF h h') := by
  obtain ⟨⟨hc60, hw, hm24, hso, hbr, hD, hMt⟩, row, kept, tb, cb, pr, inn, mn, pf, ps, pa, x1, x2, x3, x4, P, k1, kR, k3, kT, kC, kP, kL, kM, kI, kMat⟩ := id hI
  refine MA.start hW (by decide) [.val (.ref a), .val (I n), .val (I f), .val (I rw0), .val (I el), .unset, .unset] rfl ?_
  rintro X rfl rfl rfl hX
  refine wa_aload_n hX (i := 0) dX10_entry_0 rfl rfl ?_
  refine wa_iload_n hX (i := 1) dX10_entry_1 rfl rfl ?_
  refine wa_callV hX (c_X10_find hW d k1 k3 hm24 hn) (by assumption) (by rfl) (by rfl) (by omega) (nA := 1) (by rfl) (by decide +kernel) rfl (by exact Nat.le_of_ble_eq_true rfl) dX10_entry_2 (fun r2 h2 p2 => ?_) (fun E' h' q => Or.inl ⟨q.2.1, Or.inl ⟨q.2.2, q.1⟩⟩)
  obtain ⟨hq2, i, hi, rfl, rfl⟩ := p2
  subst h2
  obtain ⟨rq, hq, tq, sym, v2, v3, g1, g2, g3, g4, g5, g6, g7⟩ := id (kMat i hi)
  have hMi := hMt i hi
  have he := hMi.1
  have hp := p2_le he
  have hp0 := p2_pos (E i)
  have hf10 := hMi.le10 (show 2 ^ E i - 1 < 2 ^ E i by omega)
  dsimp only [Option.toList, List.cons_append, List.nil_append]
  refine wa_astore hX dX10_entry_5 rfl ?_
  dsimp only [List.set]
  refine wa_aload hX dX10_entry_7 rfl ?_
  refine wa_iload hX dX10_entry_9 rfl ?_
  refine wa_callS hX (c_X10_needElement hW d g1 he hl) (by rfl) (by omega) (nA := 2) (by rfl) (by decide +kernel) rfl (by exact Nat.le_of_ble_eq_true rfl) dX10_entry_11 (fun r11 h11 p11 => ?_) (fun E' h' q => Or.inl ⟨q.2.1, Or.inr ⟨i, hi, rfl, Or.inl ⟨q.2.2, q.1⟩⟩⟩)
  obtain ⟨rfl, hq11, hl0, hl1⟩ := p11
  subst h11
  dsimp only [Option.toList, List.cons_append, List.nil_append]
  have t22 : ∀ (h' : AH) (q fN : Nat), (fN = 2 ∨ fN = 3) → f = (fN : Int) → DraI h' (P i) (E i) (R i) fN true (.ref q) → MatI h' (P i) (E i) (R i) (if fN = 2 then true else D2 i) (if fN = 3 then true else D3 i) → HI h' a w c m E R br bf bs be (if fN = 2 then up D2 i true else D2) (if fN = 3 then up D3 i true else D3) so → Fr FD h h' → WA X h' 1 6 22 [.val (.ref a), .val (I (i : Int)), .val (I f), .val (I rw0), .val (I el), .val (.ref (P i)), .val (.ref q)] [] := by
    intro h' q fN hfN hff hdr hM' hI2 fD
    rcases hdr with ⟨z, -⟩ | ⟨-, qd, jq, kq, bq, nq, cq, c2, r2, p2, rc, tr, z1, z2, z3, z4, z5, z6, z7⟩
    · cases z
    cases z1
    obtain ⟨rq', hq', tq', sym', v2', v3', y1, -⟩ := hM'
    have bad : ¬ (0 ≤ rw0 ∧ rw0 < ((R i (2 ^ E i - 1) : Nat) : Int) ∧ tr = 1) → WA X h' 1 6 43 [.val (.ref a), .val (I (i : Int)), .val (I f), .val (I rw0), .val (I el), .val (.ref (P i)), .val (.ref q)] [] := by
      intro hno
      refine wa_throwSW3 hX (ik := 157) (is := 312) (ic := 161) "java/util/NoSuchElementException" "there is no such row, or no drawing" ["java/lang/RuntimeException", "java/lang/Exception"] (thr_ok3 (by decide +kernel) wx_NSE) rfl (by exact Nat.le_of_ble_eq_true rfl) dX10_entry_43 dX10_entry_46 dX10_entry_47 dX10_entry_50 dX10_entry_53 ?_
      exact Or.inr ⟨i, fN, tr, hi, rfl, hfN, hff, hl0, hl1, ⟨z6, z7⟩, hno, rfl, hI2, fD.mono (fun x hx => by omega)⟩
    refine wa_iload_n hX (i := 3) dX10_entry_22 rfl rfl ?_
    refine wi_if_lt hX (tgt := 43) dX10_entry_23 (by decide) (by omega) (fun c23 => ?_) (fun c23 => ?_)
    · skip
      exact bad (by omega)
    · skip
      refine wa_iload_n hX (i := 3) dX10_entry_26 rfl rfl ?_
      refine wa_aload hX dX10_entry_27 rfl ?_
      refine wa_get hX 2 (by assumption) (by rfl) (by decide +kernel) dX10_entry_29 ?_
      refine wi_icmp_ge hX (tgt := 43) dX10_entry_32 (by decide) (by omega) (by omega) (fun c32 => ?_) (fun c32 => ?_)
      · skip
        exact bad (by omega)
      · skip
        refine wa_aload hX dX10_entry_35 rfl ?_
        refine wa_callV hX (c_X2_isTrue hW d z2 z6) (by assumption) (by rfl) (by rfl) (by omega) (nA := 0) (by rfl) (by decide +kernel) rfl (by exact Nat.le_of_ble_eq_true rfl) dX10_entry_37 (fun r37 h37 p37 => ?_) (fun _ _ q => q.elim)
        obtain ⟨rfl, qq37⟩ := p37; subst h37
        dsimp only [Option.toList, List.cons_append, List.nil_append]
        refine wi_if_ne hX (tgt := 54) dX10_entry_40 (by decide) (by omega) (fun c40 => ?_) (fun c40 => ?_)
        · skip
          obtain ⟨t, rfl⟩ := Int.eq_ofNat_of_zero_le (show 0 ≤ rw0 by omega)
          obtain ⟨k, rfl⟩ := Int.eq_ofNat_of_zero_le hl0
          have e1 : tr = 1 := by omega
          subst e1
          refine wa_aload hX dX10_entry_54 rfl ?_
          refine wa_iload_n hX (i := 3) dX10_entry_56 rfl rfl ?_
          refine wa_iload hX dX10_entry_57 rfl ?_
          refine wa_callV hX (c_X2_entryAt hW d z2 z3 z4 (el := k) (row := t) (by omega) (z5 k (by omega)) (by omega) he hf10) (by assumption) (by rfl) (by rfl) (by omega) (nA := 2) (by rfl) (by decide +kernel) rfl (by exact Nat.le_of_ble_eq_true rfl) dX10_entry_59 (fun r59 h59 p59 => ?_) (fun _ _ q => q.elim)
          obtain ⟨rfl, qq59⟩ := p59; subst h59
          dsimp only [Option.toList, List.cons_append, List.nil_append]
          refine wa_iret hX dX10_entry_62 ?_
          exact ⟨i, fN, t, k, hi, rfl, hfN, hff, by omega, rfl, by omega, rfl, ⟨z6, z7⟩, rfl, hI2, fD.mono (fun x hx => by omega)⟩
        · skip
          exact bad (by omega)
  by_cases hf2 : f = 2
  · refine WA.room (k2 := 1 + rmC (D2 i)) (sl2 := 6 + rmS (D2 i)) (by unfold rmC; split <;> omega) (by unfold rmS; split <;> omega) ?_
    refine wa_aload hX dX10_entry_14 rfl ?_
    refine wa_iload_n hX (i := 2) dX10_entry_16 rfl rfl ?_
    refine wa_callS hX (c_X10_drawingOf2 hW d (kMat i hi) hMi hf2) (by rfl) (by omega) (nA := 2) (by rfl) (by decide +kernel) rfl (by exact Nat.le_of_ble_eq_true rfl) dX10_entry_17 (fun r17 h17 p17 => ?_) (fun _ _ q => q.elim)
    obtain ⟨q, rfl, hdr, hM', fD, ho⟩ := p17
    have hI2 := HI.setMat ⟨hc60, hw, hm24, hso, hbr, hD, hMt⟩ k1 kR k3 kT kC kP kL kM kI kMat hi hM' fD ho
    rw [up_self] at hI2
    dsimp only [Option.toList, List.cons_append, List.nil_append]
    refine wa_astore hX dX10_entry_20 rfl ?_
    dsimp only [List.set]
    exact t22 h17 q 2 (Or.inl rfl) hf2 hdr hM' hI2 fD
  · by_cases hf3 : f = 3
    · refine WA.room (k2 := 1 + rmC (D3 i)) (sl2 := 6 + rmS (D3 i)) (by unfold rmC; split <;> omega) (by unfold rmS; split <;> omega) ?_
      refine wa_aload hX dX10_entry_14 rfl ?_
      refine wa_iload_n hX (i := 2) dX10_entry_16 rfl rfl ?_
      refine wa_callS hX (c_X10_drawingOf3 hW d (kMat i hi) hMi hf3) (by rfl) (by omega) (nA := 2) (by rfl) (by decide +kernel) rfl (by exact Nat.le_of_ble_eq_true rfl) dX10_entry_17 (fun r17 h17 p17 => ?_) (fun _ _ q => q.elim)
      obtain ⟨q, rfl, hdr, hM', fD, ho⟩ := p17
      have hI2 := HI.setMat ⟨hc60, hw, hm24, hso, hbr, hD, hMt⟩ k1 kR k3 kT kC kP kL kM kI kMat hi hM' fD ho
      rw [up_self] at hI2
      dsimp only [Option.toList, List.cons_append, List.nil_append]
      refine wa_astore hX dX10_entry_20 rfl ?_
      dsimp only [List.set]
      exact t22 h17 q 3 (Or.inr rfl) hf3 hdr hM' hI2 fD
    · skip
      refine wa_aload hX dX10_entry_14 rfl ?_
      refine wa_iload_n hX (i := 2) dX10_entry_16 rfl rfl ?_
      exact wa_callS hX (c_X10_drawingOfN hW d hf hf2 hf3) (by rfl) (by omega) (nA := 2) (by rfl) (by decide +kernel) rfl (by exact Nat.le_of_ble_eq_true rfl) dX10_entry_17 (fun r6 h6 p6 => p6.elim) (fun E' h' q => Or.inl ⟨q.2, Or.inr ⟨i, hi, rfl, Or.inr ⟨hl0, hl1, hf2, hf3, q.1⟩⟩⟩)
end C74
