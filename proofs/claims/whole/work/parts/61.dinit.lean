/-! Circuitfold$Drawing's constructor (X2) -/
theorem Fr.hset {S : Nat → Prop} {h0 h : AH} {a l : Nat} {o : Ob} {x : Nat × Ob} (f : Fr S h0 h) (ha : h a = some (l, o)) (hs : S l) : Fr S h0 (hset h a x) := Fr.put f ha (fun _ e => hset_ne e) hs
theorem colH_0 {h : AH} {lc rows : Nat} {rc : Nat → Nat} {G : Nat → Nat → Nat} : colH h lc 0 rows rc G = h := by
  funext b
  rfl
theorem colH_s {h : AH} {lc n rows : Nat} {rc : Nat → Nat} {G : Nat → Nat → Nat} (hi : ∀ i j, i < n + 1 → j < n + 1 → rc i = rc j → i = j) : colH h lc (n + 1) rows rc G = hset (colH h lc n rows rc G) (rc n) (lc, aV rows (G n)) := by
  funext b
  by_cases e : b = rc n
  · subst e
    rw [hset_eq, colH_in hi (Nat.lt_succ_self n)]
  · rw [hset_ne e]
    unfold colH
    have : fst (fun j => rc j == b) (n + 1) = fst (fun j => rc j == b) n := by
      show (match fst (fun j => rc j == b) n with
        | some i => some i
        | none => if (rc n == b) = true then some n else none) = _
      cases fst (fun j => rc j == b) n with
      | some i => rfl
      | none => exact if_neg (by rw [beq_iff_eq]; exact fun q => e q.symm)
    rw [this]
/-- columns get the label lc -/
theorem WA.labs {X : Cx} {h : AH} {k sl pc : Nat} {ls : List Slot} {st : List Value} (lc : Nat) {l0 rows : Nat} {rc : Nat → Nat} {G : Nat → Nat → Nat} : ∀ n, (∀ j, j < n → h (rc j) = some (l0, aV rows (G j))) → (∀ i j, i < n → j < n → rc i = rc j → i = j) → WA X (colH h lc n rows rc G) k sl pc ls st → WA X h k sl pc ls st := by
  intro n
  induction n with
  | zero =>
    intro _ _ w
    rw [colH_0] at w
    exact w
  | succ n ih =>
    intro hr hi w
    refine ih (fun j hj => hr j (by omega)) (fun i j h1 h2 => hi i j (by omega) (by omega)) ?_
    refine WA.lab (a := rc n) (l0 := l0) (ob := aV rows (G n)) lc ?_ ?_
    · rw [colH_out (fun j hj q => by
        have := hi j n (by omega) (by omega) q
        omega)]
      exact hr n (by omega)
    · rw [← colH_s hi]
      exact w
theorem Fr.colH {S : Nat → Prop} {h0 h : AH} {l0 lc n rows : Nat} {rc : Nat → Nat} {G0 G : Nat → Nat → Nat} (f : Fr S h0 h) (hr : ∀ j, j < n → h (rc j) = some (l0, aV rows (G0 j))) (hs : S l0) : Fr S h0 (colH h lc n rows rc G) := by
  intro b lb ob q ns
  have g := f b lb ob q ns
  rw [colH_out (fun j hj e => by
    subst e
    rw [hr j hj] at g
    cases g
    exact ns hs)]
  exact g
def maxG (G : Nat → Nat → Nat) (z : Nat) : Prop := ∀ j r, G j r ≤ z
theorem cup_max {G : Nat → Nat → Nat} {z el row x : Nat} (h : maxG G z) (hx : x ≤ z) : maxG (cup G el row x) z := by
  intro j r
  unfold cup
  split
  · rw [up_is]
    split
    · exact hx
    · exact h el r
  · exact h j r
theorem fcI_max {J N : Nat → Nat} {bs nm row z : Nat} {G : Nat → Nat → Nat} (h : maxG G z) (hz : 1 ≤ z) (hN : 2 ≤ z ∨ ∀ j, N j = 0) : ∀ n, maxG (fcI J N bs nm row G n) z := by
  intro n
  induction n with
  | zero => exact h
  | succ n ih =>
    unfold fcI
    split
    · refine cup_max ih ?_
      split
      · next q =>
        rcases hN with w | w
        · exact w
        · rw [w n, Nat.zero_testBit] at q; cases q
      · exact hz
    · exact ih
theorem fcO_max {J N : Nat → Nat} {bs e z : Nat} {G : Nat → Nat → Nat} (h : maxG G z) (hz : 1 ≤ z) (hN : 2 ≤ z ∨ ∀ j, N j = 0) : ∀ n, maxG (fcO J N bs e G n) z := by
  intro n
  induction n with
  | zero => exact h
  | succ n ih =>
    unfold fcO
    split
    · exact fcI_max (cup_max ih hz) hz hN e
    · exact ih
/-- joined -/
def drJ (sf : Nat → Nat) (e bs : Nat) : Nat → Nat := jnO sf e bs (fun _ => 0) e
/-- known and before, when the free signs are set -/
def drS (sf : Nat → Nat) (e bs : Nat) : (Nat → Nat) × (Nat → Nat) := fsO (drJ sf e bs) bs e (fun _ => 0, fun _ => 0) e
/-- all that is known of the signs at the end -/
def drT (sf : Nat → Nat) (e bs : Nat) : SbT := sbO sf (drJ sf e bs) e bs (false, (drS sf e bs).1, (drS sf e bs).2, fun _ => 0) 100
/-- minus -/
def drN (sf : Nat → Nat) (e bs f : Nat) : Nat → Nat := if f = 3 then (drT sf e bs).2.2.2 else fun _ => 0
/-- the drawing: entry of an element in a row -/
def drG (sf : Nat → Nat) (e bs f : Nat) : Nat → Nat → Nat := fcO (drJ sf e bs) (drN sf e bs f) bs e (fun _ _ => 0) e
theorem fsR_B {J : Nat → Nat} {bs el : Nat} {s : (Nat → Nat) × (Nat → Nat)} (h : ∀ j, s.2 j < 10) : ∀ n j, (fsR J bs s el n).2 j < 10 := by
  intro n
  induction n with
  | zero => exact h
  | succ n ih =>
    show ∀ j, (fsP J bs (fsR J bs s el n) el n).2 j < 10
    unfold fsP
    split
    · exact walkB_lt _ _ _ _ ih
    · exact ih
theorem fsO_B {J : Nat → Nat} {bs e : Nat} {s : (Nat → Nat) × (Nat → Nat)} (h : ∀ j, s.2 j < 10) : ∀ n j, (fsO J bs e s n).2 j < 10 := by
  intro n
  induction n with
  | zero => exact h
  | succ n ih => exact fsR_B ih e
/-- the constructor's heap: Drawing, Matroid, sorts, ranks, joined, known, before, minus, the Elimination and its four -/
def DQ (h0 h : AH) (a la : Nat) (oa : Ob) (mt lm : Nat) (om : Ob) (tq lt : Nat) (ot : Ob) (rq lr : Nat) (oq : Ob) (jq kq bq nq cq : Nat) (oc : Ob) (c2 : Nat) (o2 : Ob) (r2 : Nat) (o3 : Ob) (p2 : Nat) (o4 : Ob) (e full : Nat) (rc rr : Nat → Nat) (J K B N : Nat → Nat) : Prop := h a = some (la, oa) ∧ h mt = some (lm, om) ∧ h tq = some (lt, ot) ∧ h rq = some (lr, oq) ∧ h jq = some (41, aV 10 J) ∧ h kq = some (42, aV 10 K) ∧ h bq = some (43, aV 10 B) ∧ h nq = some (44, aV 10 N) ∧ h cq = some (45, oc) ∧ h c2 = some (2, o2) ∧ h r2 = some (2, o3) ∧ h p2 = some (48, o4) ∧ (∀ j, j < e → h (rc j) = some (46, aV full (fun _ => 0))) ∧ (∀ j, j < e → h (rr j) = some (47, aV full (fun _ => 0))) ∧ Fr (fun x => x = la ∨ (40 < x ∧ x < 50)) h0 h
section DQs
variable {h0 h : AH} {a la : Nat} {oa : Ob} {mt lm : Nat} {om : Ob} {tq lt : Nat} {ot : Ob} {rq lr : Nat} {oq : Ob} {jq kq bq nq cq : Nat} {oc : Ob} {c2 : Nat} {o2 : Ob} {r2 : Nat} {o3 : Ob} {p2 : Nat} {o4 : Ob} {e full : Nat} {rc rr : Nat → Nat} {J K B N : Nat → Nat}
theorem DQ.sA {oa2 : Ob} (b1 : la ≤ 40) (b5 : la ≠ 2) (b2 : lm ≤ 40) (b3 : lt ≤ 40) (b4 : lr ≤ 40) (n1 : lm ≠ la) (n2 : lt ≠ la) (n3 : lr ≠ la) (q : DQ h0 h a la oa mt lm om tq lt ot rq lr oq jq kq bq nq cq oc c2 o2 r2 o3 p2 o4 e full rc rr J K B N) : DQ h0 (hset h a (la, oa2)) a la oa2 mt lm om tq lt ot rq lr oq jq kq bq nq cq oc c2 o2 r2 o3 p2 o4 e full rc rr J K B N := by
  obtain ⟨q1, q2, q3, q4, q5, q6, q7, q8, q9, q10, q11, q12, q13, q14, q15⟩ := q
  exact ⟨hset_eq, hset_lab q1 q2 (by omega), hset_lab q1 q3 (by omega), hset_lab q1 q4 (by omega), hset_lab q1 q5 (by omega), hset_lab q1 q6 (by omega), hset_lab q1 q7 (by omega), hset_lab q1 q8 (by omega), hset_lab q1 q9 (by omega), hset_lab q1 q10 (by omega), hset_lab q1 q11 (by omega), hset_lab q1 q12 (by omega), fun j hj => hset_lab q1 (q13 j hj) (by omega), fun j hj => hset_lab q1 (q14 j hj) (by omega), Fr.hset q15 q1 (by omega)⟩
theorem DQ.sJ {J2 : Nat → Nat} (b1 : la ≤ 40) (b5 : la ≠ 2) (b2 : lm ≤ 40) (b3 : lt ≤ 40) (b4 : lr ≤ 40) (n1 : lm ≠ la) (n2 : lt ≠ la) (n3 : lr ≠ la) (q : DQ h0 h a la oa mt lm om tq lt ot rq lr oq jq kq bq nq cq oc c2 o2 r2 o3 p2 o4 e full rc rr J K B N) : DQ h0 (hset h jq (41, aV 10 J2)) a la oa mt lm om tq lt ot rq lr oq jq kq bq nq cq oc c2 o2 r2 o3 p2 o4 e full rc rr J2 K B N := by
  obtain ⟨q1, q2, q3, q4, q5, q6, q7, q8, q9, q10, q11, q12, q13, q14, q15⟩ := q
  exact ⟨hset_lab q5 q1 (by omega), hset_lab q5 q2 (by omega), hset_lab q5 q3 (by omega), hset_lab q5 q4 (by omega), hset_eq, hset_lab q5 q6 (by omega), hset_lab q5 q7 (by omega), hset_lab q5 q8 (by omega), hset_lab q5 q9 (by omega), hset_lab q5 q10 (by omega), hset_lab q5 q11 (by omega), hset_lab q5 q12 (by omega), fun j hj => hset_lab q5 (q13 j hj) (by omega), fun j hj => hset_lab q5 (q14 j hj) (by omega), Fr.hset q15 q5 (by omega)⟩
theorem DQ.sK {K2 : Nat → Nat} (b1 : la ≤ 40) (b5 : la ≠ 2) (b2 : lm ≤ 40) (b3 : lt ≤ 40) (b4 : lr ≤ 40) (n1 : lm ≠ la) (n2 : lt ≠ la) (n3 : lr ≠ la) (q : DQ h0 h a la oa mt lm om tq lt ot rq lr oq jq kq bq nq cq oc c2 o2 r2 o3 p2 o4 e full rc rr J K B N) : DQ h0 (hset h kq (42, aV 10 K2)) a la oa mt lm om tq lt ot rq lr oq jq kq bq nq cq oc c2 o2 r2 o3 p2 o4 e full rc rr J K2 B N := by
  obtain ⟨q1, q2, q3, q4, q5, q6, q7, q8, q9, q10, q11, q12, q13, q14, q15⟩ := q
  exact ⟨hset_lab q6 q1 (by omega), hset_lab q6 q2 (by omega), hset_lab q6 q3 (by omega), hset_lab q6 q4 (by omega), hset_lab q6 q5 (by omega), hset_eq, hset_lab q6 q7 (by omega), hset_lab q6 q8 (by omega), hset_lab q6 q9 (by omega), hset_lab q6 q10 (by omega), hset_lab q6 q11 (by omega), hset_lab q6 q12 (by omega), fun j hj => hset_lab q6 (q13 j hj) (by omega), fun j hj => hset_lab q6 (q14 j hj) (by omega), Fr.hset q15 q6 (by omega)⟩
theorem DQ.sB {B2 : Nat → Nat} (b1 : la ≤ 40) (b5 : la ≠ 2) (b2 : lm ≤ 40) (b3 : lt ≤ 40) (b4 : lr ≤ 40) (n1 : lm ≠ la) (n2 : lt ≠ la) (n3 : lr ≠ la) (q : DQ h0 h a la oa mt lm om tq lt ot rq lr oq jq kq bq nq cq oc c2 o2 r2 o3 p2 o4 e full rc rr J K B N) : DQ h0 (hset h bq (43, aV 10 B2)) a la oa mt lm om tq lt ot rq lr oq jq kq bq nq cq oc c2 o2 r2 o3 p2 o4 e full rc rr J K B2 N := by
  obtain ⟨q1, q2, q3, q4, q5, q6, q7, q8, q9, q10, q11, q12, q13, q14, q15⟩ := q
  exact ⟨hset_lab q7 q1 (by omega), hset_lab q7 q2 (by omega), hset_lab q7 q3 (by omega), hset_lab q7 q4 (by omega), hset_lab q7 q5 (by omega), hset_lab q7 q6 (by omega), hset_eq, hset_lab q7 q8 (by omega), hset_lab q7 q9 (by omega), hset_lab q7 q10 (by omega), hset_lab q7 q11 (by omega), hset_lab q7 q12 (by omega), fun j hj => hset_lab q7 (q13 j hj) (by omega), fun j hj => hset_lab q7 (q14 j hj) (by omega), Fr.hset q15 q7 (by omega)⟩
theorem DQ.sN {N2 : Nat → Nat} (b1 : la ≤ 40) (b5 : la ≠ 2) (b2 : lm ≤ 40) (b3 : lt ≤ 40) (b4 : lr ≤ 40) (n1 : lm ≠ la) (n2 : lt ≠ la) (n3 : lr ≠ la) (q : DQ h0 h a la oa mt lm om tq lt ot rq lr oq jq kq bq nq cq oc c2 o2 r2 o3 p2 o4 e full rc rr J K B N) : DQ h0 (hset h nq (44, aV 10 N2)) a la oa mt lm om tq lt ot rq lr oq jq kq bq nq cq oc c2 o2 r2 o3 p2 o4 e full rc rr J K B N2 := by
  obtain ⟨q1, q2, q3, q4, q5, q6, q7, q8, q9, q10, q11, q12, q13, q14, q15⟩ := q
  exact ⟨hset_lab q8 q1 (by omega), hset_lab q8 q2 (by omega), hset_lab q8 q3 (by omega), hset_lab q8 q4 (by omega), hset_lab q8 q5 (by omega), hset_lab q8 q6 (by omega), hset_lab q8 q7 (by omega), hset_eq, hset_lab q8 q9 (by omega), hset_lab q8 q10 (by omega), hset_lab q8 q11 (by omega), hset_lab q8 q12 (by omega), fun j hj => hset_lab q8 (q13 j hj) (by omega), fun j hj => hset_lab q8 (q14 j hj) (by omega), Fr.hset q15 q8 (by omega)⟩
end DQs
theorem WA.hgq {X : Cx} {h0 : AH} {k sl pc : Nat} {ls : List Slot} {st : List Value} (w : ∀ h' : AH, h' = h0 → WA X h' k sl pc ls st) : WA X h0 k sl pc ls st := w _ rfl
theorem drJ_lt {sf : Nat → Nat} {e bs : Nat} (he : e ≤ 10) : ∀ j, drJ sf e bs j < 1024 := jnO_lt he (fun _ => Nat.zero_lt_succ 1023) e (Nat.le_refl e)
theorem drS_lt {sf : Nat → Nat} {e bs : Nat} (he : e ≤ 10) : ∀ j, (drS sf e bs).1 j < 1024 := fsO_lt he (fun _ => Nat.zero_lt_succ 1023) e (Nat.le_refl e)
theorem drS_B {sf : Nat → Nat} {e bs : Nat} : ∀ j, (drS sf e bs).2 j < 10 := fsO_B (fun _ => Nat.zero_lt_succ 9) e
theorem drT_lt {sf : Nat → Nat} {e bs : Nat} (he : e ≤ 10) : ∀ j, (drT sf e bs).2.2.2 j < 1024 := by
  unfold drT
  generalize 100 = r
  exact (sbO_lt (s := (false, (drS sf e bs).1, (drS sf e bs).2, fun _ => 0)) (drS_lt he) drS_B (fun _ => Nat.zero_lt_succ 1023) r).2.2
theorem drN_lt {sf : Nat → Nat} {e bs f : Nat} (he : e ≤ 10) : ∀ j, drN sf e bs f j < 1024 := by
  unfold drN
  split
  · exact drT_lt he
  · exact fun _ => Nat.zero_lt_succ 1023
theorem drG_lt {sf : Nat → Nat} {e bs f : Nat} (hf : f = 2 ∨ f = 3) : ∀ j r, drG sf e bs f j r < f := by
  intro j r
  have m0 : ∀ z, maxG (fun _ _ => 0) z := fun z j r => Nat.zero_le z
  rcases hf with q2 | q3
  · have := fcO_max (J := drJ sf e bs) (N := drN sf e bs f) (bs := bs) (e := e) (m0 1) (Nat.le_refl 1) (Or.inr (fun j => by unfold drN; rw [if_neg (by omega)])) e j r
    show fcO (drJ sf e bs) (drN sf e bs f) bs e (fun _ _ => 0) e j r < f
    omega
  · have := fcO_max (J := drJ sf e bs) (N := drN sf e bs f) (bs := bs) (e := e) (m0 2) (by decide) (Or.inl (Nat.le_refl 2)) e j r
    show fcO (drJ sf e bs) (drN sf e bs f) bs e (fun _ _ => 0) e j r < f
    omega
/-- what the constructor leaves -/
def DPost (h : AH) (a la mt e full bs f : Nat) (sf rk : Nat → Nat) : Option Value → AH → Prop := fun r h' => r = none ∧ (∃ jq kq bq nq cq c2 r2 p2 rc, ∃ tr : Int, h' a = some (la, oDra mt (bs : Int) jq kq bq nq cq tr) ∧ h' cq = some (2, oElim f full e c2 r2 p2) ∧ h' c2 = some (2, aRR e rc) ∧ (∀ j, j < e → h' (rc j) = some (2, aV full (drG sf e bs f j))) ∧ (tr = 0 ∨ tr = 1) ∧ (tr = 1 ↔ ∀ s, s < 2 ^ e → rkE f full (drG sf e bs f) s = rk s)) ∧ Fr (fun x => x = la ∨ (40 < x ∧ x < 50)) h h'
section C61
variable {l : Launch} {D : va_G} {S0 : State}
set_option maxHeartbeats 4000000 in
set_option maxRecDepth 100000 in
theorem dinit_tail {X : Cx} (hW : WOK (cxL X) (cxD X) (cxS X)) (d : Nat) {h hA : AH} {a la mt lm lr lt bs f full rq hq tq e jq kq bq nq cq c2 r2 p2 : Nat} {rc rr K B : Nat → Nat} {sym : Int} {v2 v3 : Value} {sf rk : Nat → Nat} (b1 : la ≤ 40) (b5 : la ≠ 2) (b2 : lm ≤ 40) (b3 : lt ≤ 40) (b4 : lr ≤ 40) (n1 : lm ≠ la) (n2 : lt ≠ la) (n3 : lr ≠ la) (hf : f = 2 ∨ f = 3) (he : e ≤ 10) (hfull : full ≤ 10) (hbs : bs < 2 ^ e) (hbc : bc bs = full) (hrk : ∀ s, s < 2 ^ e → rk s ≤ 10) (g7 : ∀ i j, i < e → j < e → rc i = rc j → i = j) (g8 : ∀ i j, i < e → j < e → rr i = rr j → i = j) (hX : Ok X yX2_init.cls cX2_init 3 none yX2_init.name (d + 4) (DPost h a la mt e full bs f sf rk) (fun _ _ => False)) (q : DQ h hA a la (oDra mt (bs : Int) jq kq bq nq cq 0) mt lm (oMat e full rq hq tq sym v2 v3) tq lt (aB e sf) rq lr (aB e rk) jq kq bq nq cq (oElim f full e c2 r2 p2) c2 (aRR e rc) r2 (aRR e rr) p2 (aI .int e (fun _ => 0)) e full rc rr (drJ sf e bs) K B (drN sf e bs f)) : WA X hA 1 1024 92 [.val (.ref a), .val (.ref mt), .val (I (f : Int))] [] := by
  have hp := p2_le he
  obtain ⟨k1, km, kt, kr, kj, kk, kb, kn, kc, k2, k3, k4, k5, k6, fr⟩ := q
  refine wa_aload_n hX (i := 0) dX2_init_92 rfl rfl ?_
  refine wa_callV hX (c_X2_fillColumns hW (d + 1) (G0 := fun _ _ => 0) k1 kj kn km kc k2 k5 g7 (by omega) (by decide) (by decide) (by omega) (by decide) (by decide) he hfull hbs hbc (fun j _ => drJ_lt he j) (drN_lt he)) (by assumption) (by rfl) (by rfl) (by omega) (nA := 0) (by rfl) (by decide +kernel) rfl (by exact Nat.le_of_ble_eq_true rfl) dX2_init_93 (fun r93 h93 p93 => ?_) (fun _ _ q => q.elim)
  obtain ⟨rfl, hh⟩ := p93
  rw [show fcO (drJ sf e bs) (drN sf e bs f) bs e (fun _ _ => 0) e = drG sf e bs f from rfl] at hh
  have cO : ∀ {b lb : Nat} {o : Ob}, hA b = some (lb, o) → lb ≠ 46 → h93 b = some (lb, o) := fun {b lb o} g k => by
    rw [hh, colH_out (fun j hj => (lab_ne (k5 j hj) g k).symm)]
    exact g
  have cR : ∀ j, j < e → h93 (rc j) = some (46, aV full (drG sf e bs f j)) := fun j hj => by rw [hh]; exact colH_in g7 hj
  replace k1 := cO k1 (by omega)
  replace kr := cO kr (by omega)
  replace km := cO km (by omega)
  replace kc := cO kc (by omega)
  replace k2 := cO k2 (by omega)
  replace k3 := cO k3 (by omega)
  replace k4 := cO k4 (by omega)
  have k7 : ∀ j, j < e → h93 (rr j) = some (47, aV full (fun _ => 0)) := fun j hj => cO (k6 j hj) (by decide)
  replace fr : Fr (fun x => x = la ∨ (40 < x ∧ x < 50)) h h93 := by rw [hh]; exact Fr.colH fr k5 (by omega)
  clear cO k5 k6 kt kj kk kb kn hh
  dsimp only [Option.toList, List.cons_append, List.nil_append]
  refine wa_aload_n hX (i := 0) dX2_init_96 rfl rfl ?_
  refine wa_aload_n hX (i := 0) dX2_init_97 rfl rfl ?_
  refine wa_get hX 6 (by assumption) (by rfl) (by decide +kernel) dX2_init_98 ?_
  refine wa_callV hX (c_X3_ranks hW d (C := drG sf e bs f) (R := fun _ _ => 0) kc k2 k3 k4 (fun j hj => ⟨_, cR j hj, fun r hr => rfl⟩) k7 he hfull (by omega) (by omega) g8 (by decide) (by decide) (by decide) (by decide) (by decide) (by decide) (by decide) (fun j r _ => drG_lt hf j r)) (by assumption) (by rfl) (by rfl) (by omega) (nA := 0) (by rfl) (by decide +kernel) rfl (by exact Nat.le_of_ble_eq_true rfl) dX2_init_101 (fun r101 h101 p101 => ?_) (fun _ _ q => q.elim)
  obtain ⟨tb, rfl, -, htb, f2⟩ := p101
  replace k1 := f2 _ _ _ k1 (by omega)
  replace kr := f2 _ _ _ kr (by omega)
  replace km := f2 _ _ _ km (by omega)
  replace kc := f2 _ _ _ kc (by omega)
  replace k2 := f2 _ _ _ k2 (by omega)
  have cR2 : ∀ j, j < e → h101 (rc j) = some (46, aV full (drG sf e bs f j)) := fun j hj => f2 _ _ _ (cR j hj) (by omega)
  replace fr := fr.trans (f2.mono (fun x hx => Or.inr (by omega)))
  clear k3 k4 k7 cR
  dsimp only [Option.toList, List.cons_append, List.nil_append]
  refine wa_aload_n hX (i := 1) dX2_init_104 rfl rfl ?_
  refine wa_get hX 3 (by assumption) (by rfl) (by decide +kernel) dX2_init_105 ?_
  refine wa_callS hX (c_X9_areSame hW (d + 3) htb kr (by omega) (by omega) (fun j hj => by have := rkE_le (f := f) (rows := full) (C := drG sf e bs f) (s := j) (by omega); have := bc_le j; omega) (fun j hj => by have := hrk j hj; omega)) (by rfl) (by omega) (nA := 2) (by rfl) (by decide +kernel) rfl (by exact Nat.le_of_ble_eq_true rfl) dX2_init_108 (fun r108 h108 p108 => ?_) (fun _ _ q => q.elim)
  obtain ⟨tr, rfl, htr, hiff, rfl⟩ := p108
  dsimp only [Option.toList, List.cons_append, List.nil_append]
  refine wa_putF hX 7 k1 (Nat.le_of_ble_eq_true rfl) (by decide +kernel) (by rfl) rfl (by rfl) (by rcases htr with q | q <;> subst q <;> rfl) (by rcases htr with q | q <;> subst q <;> rfl) dX2_init_111 ?_
  refine WA.hgq (fun hD hhD => ?_)
  have w1 : hD a = some (la, oDra mt (bs : Int) jq kq bq nq cq tr) := by rw [hhD]; exact hset_eq
  replace fr : Fr (fun x => x = la ∨ (40 < x ∧ x < 50)) h hD := by rw [hhD]; exact Fr.hset fr k1 (by omega)
  have wc : hD cq = some (45, oElim f full e c2 r2 p2) := by rw [hhD]; exact hset_lab k1 kc (by omega)
  have w2 : hD c2 = some (2, aRR e rc) := by rw [hhD]; exact hset_lab k1 k2 (by omega)
  have wR : ∀ j, j < e → hD (rc j) = some (46, aV full (drG sf e bs f j)) := fun j hj => by rw [hhD]; exact hset_lab k1 (cR2 j hj) (by omega)
  clear cR2 kc k2 k1 kr hhD
  refine WA.labs 2 e wR g7 ?_
  refine WA.hgq (fun hE hhE => ?_)
  have cO : ∀ {b lb : Nat} {o : Ob}, hD b = some (lb, o) → lb ≠ 46 → hE b = some (lb, o) := fun {b lb o} g k => by
    rw [hhE, colH_out (fun j hj => (lab_ne (wR j hj) g k).symm)]
    exact g
  have xR : ∀ j, j < e → hE (rc j) = some (2, aV full (drG sf e bs f j)) := fun j hj => by rw [hhE]; exact colH_in g7 hj
  replace w1 := cO w1 (by omega)
  replace wc := cO wc (by omega)
  replace w2 := cO w2 (by omega)
  replace fr : Fr (fun x => x = la ∨ (40 < x ∧ x < 50)) h hE := by rw [hhE]; exact Fr.colH fr wR (by omega)
  clear cO wR hhE
  refine WA.lab 2 wc ?_
  refine wa_vret hX dX2_init_114 ?_
  refine ⟨rfl, ⟨jq, kq, bq, nq, cq, c2, r2, p2, rc, tr, hset_lab wc w1 (by omega), hset_eq, hset_lab wc w2 (by omega), fun j hj => hset_lab wc (xR j hj) (by omega), htr, ?_⟩, Fr.hset fr wc (by omega)⟩
  rw [hiff]
  constructor
  · intro z s hs
    have := z.2 s hs
    omega
  · intro z
    exact ⟨rfl, fun j hj => by rw [z j hj]⟩
set_option maxHeartbeats 4000000 in
set_option maxRecDepth 100000 in
theorem c_X2_init (hW : WOK l D S0) (d : Nat) {h : AH} {a la mt lm lr lt bs f full rq hq tq e : Nat} {sym : Int} {v2 v3 : Value} {sf rk : Nat → Nat} (h1 : h a = some (la, oF 4 [.null, I 0, .null, .null, .null, .null, .null, I 0])) (hm : h mt = some (lm, oMat e full rq hq tq sym v2 v3)) (ht : h tq = some (lt, aB e sf)) (hr : h rq = some (lr, aB e rk)) (b1 : la ≤ 40) (b5 : la ≠ 2) (b2 : lm ≤ 40) (b3 : lt ≤ 40) (b4 : lr ≤ 40) (n1 : lm ≠ la) (n2 : lt ≠ la) (n3 : lr ≠ la) (hf : f = 2 ∨ f = 3) (he : e ≤ 10) (hfull : full ≤ 10) (hbs : bs < 2 ^ e) (hbc : bc bs = full) (hnth : nth (fun s => sf s &&& 2 != 0) (2 ^ e) 0 = (bs : Int)) (hsf : ∀ j, j < 2 ^ e → sf j < 32) (hrk : ∀ s, s < 2 ^ e → rk s ≤ 10) : MA l D S0 yX2_init cX2_init 3 none (d + 4) [.ref a, .ref mt, I (f : Int)] h 30 2100 (DPost h a la mt e full bs f sf rk) (fun _ _ => False) := by
  have hp := p2_le he
  have fr : Fr (fun x => x = la ∨ (40 < x ∧ x < 50)) h h := Fr.rf
  refine MA.start hW (by decide) [.val (.ref a), .val (.ref mt), .val (I (f : Int))] rfl ?_
  rintro X rfl rfl rfl hX
  refine WA.room (k2 := 26 + 1 + 1 + 1 + 1) (sl2 := 2054 + 10 + 10 + 10 + 10) (by omega) (by omega) ?_
  refine wa_aload_n hX (i := 0) dX2_init_0 rfl rfl ?_
  refine wa_obj hX (by decide +kernel) rfl (by exact Nat.le_of_ble_eq_true rfl) dX2_init_1 ?_
  refine wa_aload_n hX (i := 0) dX2_init_4 rfl rfl ?_
  refine wi_bipush hX dX2_init_5 (by decide) ?_
  refine wa_newa hX 10 41 .int (.inl (fun j => Int32.ofInt ((fun _ => 0 : Nat → Int) j))) rfl (by omega) (by omega) (fun cA => by rfl) (by decide +kernel) dX2_init_7 (fun jq jqn => ?_)
  refine WA.hnew jqn (fun hh1 hN hK => ?_)
  replace fr := Fr.mk9 fr hK
  replace h1 := hK _ _ _ h1
  replace hm := hK _ _ _ hm
  replace ht := hK _ _ _ ht
  replace hr := hK _ _ _ hr
  have Hjq := hN
  clear hN hK
  refine wa_putF hX 2 h1 (Nat.le_of_ble_eq_true rfl) (by decide +kernel) (by rfl) rfl (by rfl) (by rfl) (by rfl) dX2_init_9 ?_
  refine WA.hgen h1 (fun hh2 hN hK => ?_)
  replace fr := Fr.put fr h1 hK (by first | decide | omega | simp)
  replace hm := (hK _ (lab_ne h1 hm (by first | decide | omega))).trans hm
  replace ht := (hK _ (lab_ne h1 ht (by first | decide | omega))).trans ht
  replace hr := (hK _ (lab_ne h1 hr (by first | decide | omega))).trans hr
  replace Hjq := (hK _ (lab_ne h1 Hjq (by first | decide | omega))).trans Hjq
  replace h1 := hN
  clear hN hK
  refine wa_aload_n hX (i := 0) dX2_init_12 rfl rfl ?_
  refine wi_bipush hX dX2_init_13 (by decide) ?_
  refine wa_newa hX 10 42 .int (.inl (fun j => Int32.ofInt ((fun _ => 0 : Nat → Int) j))) rfl (by omega) (by omega) (fun cA => by rfl) (by decide +kernel) dX2_init_15 (fun kq kqn => ?_)
  refine WA.hnew kqn (fun hh3 hN hK => ?_)
  replace fr := Fr.mk9 fr hK
  replace h1 := hK _ _ _ h1
  replace hm := hK _ _ _ hm
  replace ht := hK _ _ _ ht
  replace hr := hK _ _ _ hr
  replace Hjq := hK _ _ _ Hjq
  have Hkq := hN
  clear hN hK
  refine wa_putF hX 3 h1 (Nat.le_of_ble_eq_true rfl) (by decide +kernel) (by rfl) rfl (by rfl) (by rfl) (by rfl) dX2_init_17 ?_
  refine WA.hgen h1 (fun hh4 hN hK => ?_)
  replace fr := Fr.put fr h1 hK (by first | decide | omega | simp)
  replace hm := (hK _ (lab_ne h1 hm (by first | decide | omega))).trans hm
  replace ht := (hK _ (lab_ne h1 ht (by first | decide | omega))).trans ht
  replace hr := (hK _ (lab_ne h1 hr (by first | decide | omega))).trans hr
  replace Hjq := (hK _ (lab_ne h1 Hjq (by first | decide | omega))).trans Hjq
  replace Hkq := (hK _ (lab_ne h1 Hkq (by first | decide | omega))).trans Hkq
  replace h1 := hN
  clear hN hK
  refine wa_aload_n hX (i := 0) dX2_init_20 rfl rfl ?_
  refine wi_bipush hX dX2_init_21 (by decide) ?_
  refine wa_newa hX 10 43 .int (.inl (fun j => Int32.ofInt ((fun _ => 0 : Nat → Int) j))) rfl (by omega) (by omega) (fun cA => by rfl) (by decide +kernel) dX2_init_23 (fun bq bqn => ?_)
  refine WA.hnew bqn (fun hh5 hN hK => ?_)
  replace fr := Fr.mk9 fr hK
  replace h1 := hK _ _ _ h1
  replace hm := hK _ _ _ hm
  replace ht := hK _ _ _ ht
  replace hr := hK _ _ _ hr
  replace Hjq := hK _ _ _ Hjq
  replace Hkq := hK _ _ _ Hkq
  have Hbq := hN
  clear hN hK
  refine wa_putF hX 4 h1 (Nat.le_of_ble_eq_true rfl) (by decide +kernel) (by rfl) rfl (by rfl) (by rfl) (by rfl) dX2_init_25 ?_
  refine WA.hgen h1 (fun hh6 hN hK => ?_)
  replace fr := Fr.put fr h1 hK (by first | decide | omega | simp)
  replace hm := (hK _ (lab_ne h1 hm (by first | decide | omega))).trans hm
  replace ht := (hK _ (lab_ne h1 ht (by first | decide | omega))).trans ht
  replace hr := (hK _ (lab_ne h1 hr (by first | decide | omega))).trans hr
  replace Hjq := (hK _ (lab_ne h1 Hjq (by first | decide | omega))).trans Hjq
  replace Hkq := (hK _ (lab_ne h1 Hkq (by first | decide | omega))).trans Hkq
  replace Hbq := (hK _ (lab_ne h1 Hbq (by first | decide | omega))).trans Hbq
  replace h1 := hN
  clear hN hK
  refine wa_aload_n hX (i := 0) dX2_init_28 rfl rfl ?_
  refine wi_bipush hX dX2_init_29 (by decide) ?_
  refine wa_newa hX 10 44 .int (.inl (fun j => Int32.ofInt ((fun _ => 0 : Nat → Int) j))) rfl (by omega) (by omega) (fun cA => by rfl) (by decide +kernel) dX2_init_31 (fun nq nqn => ?_)
  refine WA.hnew nqn (fun hh7 hN hK => ?_)
  replace fr := Fr.mk9 fr hK
  replace h1 := hK _ _ _ h1
  replace hm := hK _ _ _ hm
  replace ht := hK _ _ _ ht
  replace hr := hK _ _ _ hr
  replace Hjq := hK _ _ _ Hjq
  replace Hkq := hK _ _ _ Hkq
  replace Hbq := hK _ _ _ Hbq
  have Hnq := hN
  clear hN hK
  refine wa_putF hX 5 h1 (Nat.le_of_ble_eq_true rfl) (by decide +kernel) (by rfl) rfl (by rfl) (by rfl) (by rfl) dX2_init_33 ?_
  refine WA.hgen h1 (fun hh8 hN hK => ?_)
  replace fr := Fr.put fr h1 hK (by first | decide | omega | simp)
  replace hm := (hK _ (lab_ne h1 hm (by first | decide | omega))).trans hm
  replace ht := (hK _ (lab_ne h1 ht (by first | decide | omega))).trans ht
  replace hr := (hK _ (lab_ne h1 hr (by first | decide | omega))).trans hr
  replace Hjq := (hK _ (lab_ne h1 Hjq (by first | decide | omega))).trans Hjq
  replace Hkq := (hK _ (lab_ne h1 Hkq (by first | decide | omega))).trans Hkq
  replace Hbq := (hK _ (lab_ne h1 Hbq (by first | decide | omega))).trans Hbq
  replace Hnq := (hK _ (lab_ne h1 Hnq (by first | decide | omega))).trans Hnq
  replace h1 := hN
  clear hN hK
  refine wa_aload_n hX (i := 0) dX2_init_36 rfl rfl ?_
  refine wa_aload_n hX (i := 1) dX2_init_37 rfl rfl ?_
  refine wa_putF hX 0 h1 (Nat.le_of_ble_eq_true rfl) (by decide +kernel) (by rfl) rfl (by rfl) (by rfl) (by rfl) dX2_init_38 ?_
  refine WA.hgen h1 (fun hh9 hN hK => ?_)
  replace fr := Fr.put fr h1 hK (by first | decide | omega | simp)
  replace hm := (hK _ (lab_ne h1 hm (by first | decide | omega))).trans hm
  replace ht := (hK _ (lab_ne h1 ht (by first | decide | omega))).trans ht
  replace hr := (hK _ (lab_ne h1 hr (by first | decide | omega))).trans hr
  replace Hjq := (hK _ (lab_ne h1 Hjq (by first | decide | omega))).trans Hjq
  replace Hkq := (hK _ (lab_ne h1 Hkq (by first | decide | omega))).trans Hkq
  replace Hbq := (hK _ (lab_ne h1 Hbq (by first | decide | omega))).trans Hbq
  replace Hnq := (hK _ (lab_ne h1 Hnq (by first | decide | omega))).trans Hnq
  replace h1 := hN
  clear hN hK
  refine wa_aload_n hX (i := 0) dX2_init_41 rfl rfl ?_
  refine wi_iconst hX dX2_init_42 ?_
  refine wa_aload_n hX (i := 1) dX2_init_43 rfl rfl ?_
  refine wi_iconst hX dX2_init_44 ?_
  refine wi_iconst hX dX2_init_45 ?_
  refine wa_callV hX (c_X6_setOf hW (d + 3) hm ht he (so := 2) (i := 0) (by omega) hsf) (by assumption) (by rfl) (by rfl) (by omega) (nA := 2) (by rfl) (by decide +kernel) rfl (by exact Nat.le_of_ble_eq_true rfl) dX2_init_46 (fun r46 h46 p46 => ?_) (fun _ _ q => q.elim)
  obtain ⟨rfl, qq46⟩ := p46; subst h46
  rw [hnth]
  dsimp only [Option.toList, List.cons_append, List.nil_append]
  refine wi_max hX (by decide +kernel) rfl (by exact Nat.le_of_ble_eq_true rfl) (by omega) (by omega) dX2_init_49 ?_
  rw [Int.max_eq_right (show (0 : Int) ≤ (bs : Int) by omega)]
  refine wa_putF hX 1 h1 (Nat.le_of_ble_eq_true rfl) (by decide +kernel) (by rfl) rfl (by rfl) (by rfl) (by rfl) dX2_init_52 ?_
  refine WA.hgen h1 (fun hh10 hN hK => ?_)
  replace fr := Fr.put fr h1 hK (by first | decide | omega | simp)
  replace hm := (hK _ (lab_ne h1 hm (by first | decide | omega))).trans hm
  replace ht := (hK _ (lab_ne h1 ht (by first | decide | omega))).trans ht
  replace hr := (hK _ (lab_ne h1 hr (by first | decide | omega))).trans hr
  replace Hjq := (hK _ (lab_ne h1 Hjq (by first | decide | omega))).trans Hjq
  replace Hkq := (hK _ (lab_ne h1 Hkq (by first | decide | omega))).trans Hkq
  replace Hbq := (hK _ (lab_ne h1 Hbq (by first | decide | omega))).trans Hbq
  replace Hnq := (hK _ (lab_ne h1 Hnq (by first | decide | omega))).trans Hnq
  replace h1 := hN
  clear hN hK
  refine wa_aload_n hX (i := 0) dX2_init_55 rfl rfl ?_
  refine WA.room (k2 := 1 + 24 + 1) (sl2 := 1024 + 1024 + 6) (by omega) (by omega) ?_
  refine wa_new hX 5 45 6 [I 0, I 0, I 0, .null, .null, .null] (by decide +kernel) (by decide +kernel) rfl dX2_init_56 (fun cq cqn => ?_)
  refine WA.hnew cqn (fun hh11 hN hK => ?_)
  replace fr := Fr.mk9 fr hK
  replace h1 := hK _ _ _ h1
  replace hm := hK _ _ _ hm
  replace ht := hK _ _ _ ht
  replace hr := hK _ _ _ hr
  replace Hjq := hK _ _ _ Hjq
  replace Hkq := hK _ _ _ Hkq
  replace Hbq := hK _ _ _ Hbq
  replace Hnq := hK _ _ _ Hnq
  have Hcq := hN
  clear hN hK
  refine wa_dup hX dX2_init_59 rfl ?_
  refine wa_iload_n hX (i := 2) dX2_init_60 rfl rfl ?_
  refine wa_aload_n hX (i := 1) dX2_init_61 rfl rfl ?_
  refine wa_get hX 2 (by assumption) (by rfl) (by decide +kernel) dX2_init_62 ?_
  refine wa_aload_n hX (i := 1) dX2_init_65 rfl rfl ?_
  refine wa_get hX 0 (by assumption) (by rfl) (by decide +kernel) dX2_init_66 ?_
  refine wa_callI hX (c_X3_init hW (d + 2) (f := f) 46 47 48 Hcq (by omega) (by omega) he hfull (by decide) (by decide) (by decide) (by decide)) (by rfl) (by omega) (nA := 3) (by rfl) (by decide +kernel) rfl (by exact Nat.le_of_ble_eq_true rfl) dX2_init_69 (fun r69 h69 p69 => ?_) (fun _ _ q => q.elim)
  obtain ⟨rfl, ⟨c2, r2, p2, rc, rr, g1, g2, g3, g4, g5, g6, g7, g8⟩, f1⟩ := p69
  dsimp only [Option.toList, List.cons_append, List.nil_append]
  have q : DQ h h69 a la (oF 4 [.ref mt, I (bs : Int), .ref jq, .ref kq, .ref bq, .ref nq, .null, I 0]) mt lm (oMat e full rq hq tq sym v2 v3) tq lt (aB e sf) rq lr (aB e rk) jq kq bq nq cq (oElim f full e c2 r2 p2) c2 (aRR e rc) r2 (aRR e rr) p2 (aI .int e (fun _ => 0)) e full rc rr (fun _ => 0) (fun _ => 0) (fun _ => 0) (fun _ => 0) := ⟨f1 _ _ _ h1 (by omega), f1 _ _ _ hm (by omega), f1 _ _ _ ht (by omega), f1 _ _ _ hr (by omega), f1 _ _ _ Hjq (by omega), f1 _ _ _ Hkq (by omega), f1 _ _ _ Hbq (by omega), f1 _ _ _ Hnq (by omega), g1, g2, g3, g4, g5, g6, fr.trans (f1.mono (fun x hx => Or.inr (by omega)))⟩
  clear g1 g2 g3 g4 g5 g6 f1 fr h1 hm ht hr Hjq Hkq Hbq Hnq Hcq
  refine wa_putF hX 6 q.1 (Nat.le_of_ble_eq_true rfl) (by decide +kernel) (by rfl) rfl (by rfl) (by rfl) (by rfl) dX2_init_72 ?_
  refine WA.hgq (fun hA hhA => ?_)
  have qA : DQ h hA a la (oDra mt (bs : Int) jq kq bq nq cq 0) mt lm (oMat e full rq hq tq sym v2 v3) tq lt (aB e sf) rq lr (aB e rk) jq kq bq nq cq (oElim f full e c2 r2 p2) c2 (aRR e rc) r2 (aRR e rr) p2 (aI .int e (fun _ => 0)) e full rc rr (fun _ => 0) (fun _ => 0) (fun _ => 0) (fun _ => 0) := by
    rw [hhA]
    exact DQ.sA b1 b5 b2 b3 b4 n1 n2 n3 q
  clear q hhA
  have kA := qA.1
  refine wa_aload_n hX (i := 0) dX2_init_75 rfl rfl ?_
  refine wa_callV hX (c_X2_join hW (d + 1) qA.1 qA.2.2.2.2.1 qA.2.1 qA.2.2.1 (by omega) he hbs (fun _ => Nat.zero_lt_succ 1023) hsf) (by assumption) (by rfl) (by rfl) (by omega) (nA := 0) (by rfl) (by decide +kernel) rfl (by exact Nat.le_of_ble_eq_true rfl) dX2_init_76 (fun r76 h76 p76 => ?_) (fun _ _ q => q.elim)
  obtain ⟨rfl, hh⟩ := p76
  have q : DQ h h76 a la (oDra mt (bs : Int) jq kq bq nq cq 0) mt lm (oMat e full rq hq tq sym v2 v3) tq lt (aB e sf) rq lr (aB e rk) jq kq bq nq cq (oElim f full e c2 r2 p2) c2 (aRR e rc) r2 (aRR e rr) p2 (aI .int e (fun _ => 0)) e full rc rr (drJ sf e bs) (fun _ => 0) (fun _ => 0) (fun _ => 0) := by
    rw [hh]
    exact DQ.sJ b1 b5 b2 b3 b4 n1 n2 n3 qA
  clear hh qA kA
  have kA := q.1
  dsimp only [Option.toList, List.cons_append, List.nil_append]
  refine wa_iload_n hX (i := 2) dX2_init_79 rfl rfl ?_
  refine wi_iconst hX dX2_init_80 ?_
  refine wi_icmp_ne hX (tgt := 92) dX2_init_81 (by decide) (by omega) (by omega) (fun c81 => ?_) (fun c81 => ?_)
  · skip
    first
      | exact dinit_tail hW d b1 b5 b2 b3 b4 n1 n2 n3 hf he hfull hbs hbc hrk g7 g8 hX q
      | (have hN0 : drN sf e bs f = fun _ => 0 := if_neg (by omega)
         exact dinit_tail hW d b1 b5 b2 b3 b4 n1 n2 n3 hf he hfull hbs hbc hrk g7 g8 hX (by rw [hN0]; exact q))
  · skip
    have hf3 : f = 3 := by omega
    clear kA
    obtain ⟨k1, km, kt, kr, kj, kk, kb, kn, kc, k2, k3, k4, k5, k6, fr⟩ := id q
    refine wa_aload_n hX (i := 0) dX2_init_84 rfl rfl ?_
    refine wa_callV hX (c_X2_setFreeSigns hW (d + 1) k1 kj kk kb kn km (by decide) (by decide) (by decide) (by decide) (by decide) he (by omega) (fun j _ => drJ_lt he j) (fun _ => Nat.zero_lt_succ 1023)) (by assumption) (by rfl) (by rfl) (by omega) (nA := 0) (by rfl) (by decide +kernel) rfl (by exact Nat.le_of_ble_eq_true rfl) dX2_init_85 (fun r85 h85 p85 => ?_) (fun _ _ q => q.elim)
    obtain ⟨rfl, hh⟩ := p85
    rw [show fsO (drJ sf e bs) bs e (fun _ => 0, fun _ => 0) e = drS sf e bs from rfl] at hh
    have q2 : DQ h h85 a la (oDra mt (bs : Int) jq kq bq nq cq 0) mt lm (oMat e full rq hq tq sym v2 v3) tq lt (aB e sf) rq lr (aB e rk) jq kq bq nq cq (oElim f full e c2 r2 p2) c2 (aRR e rc) r2 (aRR e rr) p2 (aI .int e (fun _ => 0)) e full rc rr (drJ sf e bs) (drS sf e bs).1 (drS sf e bs).2 (fun _ => 0) := by
      rw [hh]
      exact DQ.sB b1 b5 b2 b3 b4 n1 n2 n3 (DQ.sK b1 b5 b2 b3 b4 n1 n2 n3 q)
    clear k1 km kt kr kj kk kb kn kc k2 k3 k4 k5 k6 fr hh q
    obtain ⟨k1, km, kt, kr, kj, kk, kb, kn, kc, k2, k3, k4, k5, k6, fr⟩ := id q2
    dsimp only [Option.toList, List.cons_append, List.nil_append]
    refine wa_aload_n hX (i := 0) dX2_init_88 rfl rfl ?_
    refine wa_callV hX (c_X2_setBoundSigns hW d k1 kj kk kb kn km kt (by decide) (by decide) (by decide) (by decide) (by decide) (by omega) (by decide) (by omega) (by omega) he (by omega) (fun j _ => drJ_lt he j) (drS_lt he) drS_B (fun _ => Nat.zero_lt_succ 1023) hsf) (by assumption) (by rfl) (by rfl) (by omega) (nA := 0) (by rfl) (by decide +kernel) rfl (by exact Nat.le_of_ble_eq_true rfl) dX2_init_89 (fun r89 h89 p89 => ?_) (fun _ _ q => q.elim)
    obtain ⟨rfl, hh⟩ := p89
    rw [show sbO sf (drJ sf e bs) e bs (false, (drS sf e bs).1, (drS sf e bs).2, fun _ => 0) 100 = drT sf e bs from rfl] at hh
    have q : DQ h h89 a la (oDra mt (bs : Int) jq kq bq nq cq 0) mt lm (oMat e full rq hq tq sym v2 v3) tq lt (aB e sf) rq lr (aB e rk) jq kq bq nq cq (oElim f full e c2 r2 p2) c2 (aRR e rc) r2 (aRR e rr) p2 (aI .int e (fun _ => 0)) e full rc rr (drJ sf e bs) (drT sf e bs).2.1 (drT sf e bs).2.2.1 (drN sf e bs f) := by
      rw [hh, show drN sf e bs f = (drT sf e bs).2.2.2 from if_pos hf3]
      exact DQ.sN b1 b5 b2 b3 b4 n1 n2 n3 (DQ.sB b1 b5 b2 b3 b4 n1 n2 n3 (DQ.sK b1 b5 b2 b3 b4 n1 n2 n3 q2))
    clear k1 km kt kr kj kk kb kn kc k2 k3 k4 k5 k6 fr hh q2
    dsimp only [Option.toList, List.cons_append, List.nil_append]
    first
      | exact dinit_tail hW d b1 b5 b2 b3 b4 n1 n2 n3 hf he hfull hbs hbc hrk g7 g8 hX q
      | (have hN0 : drN sf e bs f = fun _ => 0 := if_neg (by omega)
         exact dinit_tail hW d b1 b5 b2 b3 b4 n1 n2 n3 hf he hfull hbs hbc hrk g7 g8 hX (by rw [hN0]; exact q))
end C61
