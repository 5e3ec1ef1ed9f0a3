/-! The mathematics: drawings over 3: the class finds the least one *-/
section Au
variable {e bs : Nat} {rk sf : Nat → Nat}
theorem lrn_bit {K : Nat → Nat} {x y j i : Nat} (h : x ≠ y) : (lrn K x y j).testBit i = true ↔ (K j).testBit i = true ∨ (j = x ∧ i = y) ∨ (j = y ∧ i = x) := by
  unfold lrn
  by_cases g : j = y
  · subst g
    rw [up_s, up_n (fun z => h z.symm), Nat.testBit_or, p2_testBit, Bool.or_eq_true, decide_eq_true_eq]
    constructor
    · rintro (z | z)
      · exact Or.inl z
      · exact Or.inr (Or.inr ⟨rfl, z.symm⟩)
    · rintro (z | z | z)
      · exact Or.inl z
      · exact absurd z.1.symm h
      · exact Or.inr z.2.symm
  · rw [up_n g]
    by_cases g2 : j = x
    · subst g2
      rw [up_s, Nat.testBit_or, p2_testBit, Bool.or_eq_true, decide_eq_true_eq]
      constructor
      · rintro (z | z)
        · exact Or.inl z
        · exact Or.inr (Or.inl ⟨rfl, z.symm⟩)
      · rintro (z | z | z)
        · exact Or.inl z
        · exact Or.inr z.2.symm
        · exact absurd z.1 g
    · rw [up_n g2]
      constructor
      · exact fun z => Or.inl z
      · rintro (z | z | z)
        · exact z
        · exact absurd z.1 g2
        · exact absurd z.1 g
theorem drJ_out {J0 : Nat → Nat} : ∀ n c, n ≤ c → ¬ bs.testBit c = true → jnO sf e bs J0 n c = J0 c := by
  intro n
  induction n with
  | zero => intro c _ _; rfl
  | succ n ih =>
    intro c hc hb
    unfold jnO
    by_cases g : bs.testBit n = true
    · rw [if_pos g]; exact ih c (by omega) hb
    · rw [if_neg g]
      have hbits : ∀ i, (up (jnO sf e bs J0 n) n (sdf (cirN sf e bs n) (2 ^ n)) n).testBit i = true → bs.testBit i = true := fun i hi => by
        rw [up_s, sdf_bit, p2_testBit] at hi
        unfold cirN at hi
        rw [Nat.testBit_or, p2_testBit, orB_bit] at hi
        by_cases z : n = i
        · rw [decide_eq_true z] at hi
          rw [Bool.not_true, Bool.and_false] at hi
          cases hi
        · rw [decide_eq_false z, Bool.false_or, Bool.not_false, Bool.and_true, Bool.and_eq_true, Bool.and_eq_true] at hi
          exact hi.2.1
      rw [jnR_keep hbits g 10 c hb, up_n (by omega)]
      exact ih c (by omega) hb
theorem isE_lt {c b : Nat} (h : isE (drJ sf e bs) bs c b = true) : c < e := Classical.byContradiction fun z => by
  unfold isE at h
  rw [Bool.and_eq_true, Bool.not_eq_true'] at h
  have q := drJ_out (sf := sf) (e := e) (J0 := fun _ => 0) e c (by omega) (by rw [h.1]; exact Bool.false_ne_true)
  have h2 := h.2
  unfold drJ at h2
  rw [q, Nat.zero_testBit] at h2
  cases h2
/-- which entries are not 0, by the exchanges with the basis -/
def SupE (rk : Nat → Nat) (e bs c b : Nat) : Prop := isE (drJ (sortN rk e) e bs) bs c b = true
theorem SupE.ok {c b : Nat} (h : SupE rk e bs c b) : c < e ∧ b < e ∧ ¬ bs.testBit c = true ∧ bs.testBit b = true := by
  have q := isE_lt h
  obtain ⟨a1, a2, a3, -⟩ := (isE_iff q).mp h
  exact ⟨q, a2, a1, a3⟩
/-- the known entries: all are 1, those before (el, row) are known or joined -/
def FreeI (rk : Nat → Nat) (e bs : Nat) (G : Nat → Nat → Nat) (el row : Nat) (K : Nat → Nat) : Prop := (∀ j, K j < 1024) ∧ (∀ x y, (K x).testBit y = true → (K y).testBit x = true) ∧ (∀ x y, (K x).testBit y = true → SupE rk e bs x y ∨ SupE rk e bs y x) ∧ (∀ c b, SupE rk e bs c b → (K c).testBit b = true → G c (ixB bs b) = 1) ∧ ∀ c b, SupE rk e bs c b → (c < el ∨ (c = el ∧ b < row)) → ∀ X : Nat → Prop, Cl K X → (X c ↔ X b)
theorem Cl.less {K K' : Nat → Nat} {X : Nat → Prop} (h : Cl K' X) (hk : ∀ x y, (K x).testBit y = true → (K' x).testBit y = true) : Cl K X := fun x y hxy hx => h x y (hk x y hxy) hx
theorem free_step (hM : Mtr e rk) (hB : BsP rk e bs) {wy : Nat → Nat} (h1 : ExtW rk e 3 bs 0 wy) (h2 : ∀ wy2 : Nat → Nat, ExtW rk e 3 bs 0 wy2 → LexLe e wy wy2) {s : (Nat → Nat) × (Nat → Nat)} {el row : Nat} (h : FreeI rk e bs (mW 3 (rk (2 ^ e - 1)) bs wy e) el row s.1) : FreeI rk e bs (mW 3 (rk (2 ^ e - 1)) bs wy e) el (row + 1) (fsP (drJ (sortN rk e) e bs) bs s el row).1 := by
  have he := hM.1
  have hG : UM 3 (rk (2 ^ e - 1)) e bs (mW 3 (rk (2 ^ e - 1)) bs wy e) := mW_UM he hB.1 (by omega)
  have hR := ((ext_rep hM (Or.inr rfl) hB.1).mp h1).2
  have sup : ∀ c b, SupE rk e bs c b → mW 3 (rk (2 ^ e - 1)) bs wy e c (ixB bs b) ≠ 0 := fun c b q => by
    obtain ⟨q1, q2, q3, q4⟩ := q.ok
    exact (hG.sup hM (Or.inr rfl) hB hR q2 q4 q1 q3).mpr ((isE_iff q1).mp q).2.2.2
  have sup2 : ∀ c b, c < e → b < e → ¬ bs.testBit c = true → bs.testBit b = true → mW 3 (rk (2 ^ e - 1)) bs wy e c (ixB bs b) ≠ 0 → SupE rk e bs c b := fun c b q1 q2 q3 q4 z => (isE_iff q1).mpr ⟨q3, q2, q4, (hG.sup hM (Or.inr rfl) hB hR q2 q4 q1 q3).mp z⟩
  obtain ⟨i1, i2, i3, i4, i5⟩ := h
  have old : ∀ c b, SupE rk e bs c b → (c < el ∨ (c = el ∧ b < row + 1)) → (c < el ∨ (c = el ∧ b < row)) ∨ (c = el ∧ b = row) := fun c b _ z => by omega
  unfold fsP
  by_cases g : (!bs.testBit el && (drJ (sortN rk e) e bs el).testBit row) = true
  · rw [if_pos g]
    have hS : SupE rk e bs el row := g
    obtain ⟨q1, q2, q3, q4⟩ := hS.ok
    have hne : el ≠ row := fun z => q3 (by rw [z]; exact q4)
    by_cases gw : 99 ≤ (walkN s.1 row 10 (2 ^ el) (2 ^ el) s.2).1
    · rw [if_pos gw]
      obtain ⟨X, X1, X2, X3⟩ := walk_far (by omega) i1 hne gw
      have lb : ∀ j i, (lrn s.1 el row j).testBit i = true ↔ (s.1 j).testBit i = true ∨ (j = el ∧ i = row) ∨ (j = row ∧ i = el) := fun j i => lrn_bit hne
      refine ⟨lrn_lt (by omega) (by omega) i1, fun x y hxy => ?_, fun x y hxy => ?_, fun c b hc hcb => ?_, fun c b hc ho X' hX' => ?_⟩
      · rw [lb] at hxy ⊢
        rcases hxy with z | z | z
        · exact Or.inl (i2 x y z)
        · exact Or.inr (Or.inr ⟨z.2, z.1⟩)
        · exact Or.inr (Or.inl ⟨z.2, z.1⟩)
      · rw [lb] at hxy
        rcases hxy with z | ⟨z1, z2⟩ | ⟨z1, z2⟩
        · exact i3 x y z
        · subst z1; subst z2; exact Or.inl hS
        · subst z1; subst z2; exact Or.inr hS
      · rw [lb] at hcb
        rcases hcb with z | ⟨z1, z2⟩ | ⟨z1, z2⟩
        · exact i4 c b hc z
        · subst z1; subst z2
          have n2 := flip1 hM hB h1 h2 q1 q3 q2 q4 (X := X) (fun c' b' c1 b1 cb bb ho hz => by
            rw [Bool.eq_iff_iff]
            exact i5 c' b' (sup2 c' b' c1 b1 cb bb hz) ho _ X1) X2 X3
          have n0 := sup _ _ hS
          have n3 := hG.1 c _ (hB.ixl he q2 q4)
          omega
        · subst z1; subst z2
          exact absurd q4 hc.ok.2.2.1
      · have cl0 : Cl s.1 X' := hX'.less (fun x y z => (lb x y).mpr (Or.inl z))
        rcases old c b hc ho with z | ⟨z1, z2⟩
        · exact i5 c b hc z X' cl0
        · subst z1; subst z2
          exact ⟨fun z => hX' c b ((lb c b).mpr (Or.inr (Or.inl ⟨rfl, rfl⟩))) z, fun z => hX' b c ((lb b c).mpr (Or.inr (Or.inr ⟨rfl, rfl⟩))) z⟩
    · rw [if_neg gw]
      refine ⟨i1, i2, i3, i4, fun c b hc ho X' hX' => ?_⟩
      rcases old c b hc ho with z | ⟨z1, z2⟩
      · exact i5 c b hc z X' hX'
      · subst z1; subst z2
        have near := walk_near (by omega) i1 hne gw
        refine ⟨fun z => near X' hX' z, fun z => Classical.byContradiction fun y => ?_⟩
        exact near _ (hX'.sym i2) y z
  · rw [if_neg g]
    refine ⟨i1, i2, i3, i4, fun c b hc ho X' hX' => ?_⟩
    rcases old c b hc ho with z | ⟨z1, z2⟩
    · exact i5 c b hc z X' hX'
    · subst z1; subst z2; exact absurd hc g
theorem free_all (hM : Mtr e rk) (hB : BsP rk e bs) {wy : Nat → Nat} (h1 : ExtW rk e 3 bs 0 wy) (h2 : ∀ wy2 : Nat → Nat, ExtW rk e 3 bs 0 wy2 → LexLe e wy wy2) : FreeI rk e bs (mW 3 (rk (2 ^ e - 1)) bs wy e) e 0 (drS (sortN rk e) e bs).1 := by
  have key : ∀ n, FreeI rk e bs (mW 3 (rk (2 ^ e - 1)) bs wy e) n 0 (fsO (drJ (sortN rk e) e bs) bs e (fun _ => 0, fun _ => 0) n).1 := by
    intro n
    induction n with
    | zero =>
      have nb : ∀ x y, ¬ ((fun _ => 0 : Nat → Nat) x).testBit y = true := fun x y z => by
        have z2 : (0 : Nat).testBit y = true := z
        rw [Nat.zero_testBit] at z2; cases z2
      exact ⟨fun _ => (by show (0 : Nat) < 1024; decide), fun x y z => absurd z (nb x y), fun x y z => absurd z (nb x y), fun c b _ z => absurd z (nb c b), fun c b _ ho => by omega⟩
    | succ n ih =>
      have k2 : ∀ r, FreeI rk e bs (mW 3 (rk (2 ^ e - 1)) bs wy e) n r (fsR (drJ (sortN rk e) e bs) bs (fsO (drJ (sortN rk e) e bs) bs e (fun _ => 0, fun _ => 0) n) n r).1 := by
        intro r
        induction r with
        | zero => exact ih
        | succ r ihr => exact free_step hM hB h1 h2 ihr
      obtain ⟨i1, i2, i3, i4, i5⟩ := k2 e
      refine ⟨i1, i2, i3, i4, fun c b hc ho => i5 c b hc ?_⟩
      have := hc.ok.2.1
      omega
  exact key e
/-- an entry that is not known yet -/
def unkB (rk : Nat → Nat) (e bs : Nat) (K : Nat → Nat) (p : Nat) : Bool := isE (drJ (sortN rk e) e bs) bs (p / 10) (p % 10) && !(K (p / 10)).testBit (p % 10)
theorem unk_iff {K : Nat → Nat} {p : Nat} : unkB rk e bs K p = true ↔ SupE rk e bs (p / 10) (p % 10) ∧ ¬ (K (p / 10)).testBit (p % 10) = true := by
  unfold unkB SupE
  rw [Bool.and_eq_true, Bool.not_eq_true', Bool.not_eq_true]
theorem sbI_ok (he : e ≤ 10) {K : Nat → Nat} (hK : ∀ j, K j < 1024) {B : Nat → Nat} : ∀ n, n ≤ 100 → ((sbI (drJ (sortN rk e) e bs) K bs B n).2.1 = 0 ∧ (sbI (drJ (sortN rk e) e bs) K bs B n).1 = 99 ∧ ∀ p, p < n → unkB rk e bs K p = true → ∀ d, ¬ Dst K (p / 10) d (p % 10)) ∨ ∃ p, p < n ∧ (sbI (drJ (sortN rk e) e bs) K bs B n).2.1 = p + 1 ∧ unkB rk e bs K p = true ∧ (sbI (drJ (sortN rk e) e bs) K bs B n).1 ≤ 10 ∧ Dst K (p / 10) (sbI (drJ (sortN rk e) e bs) K bs B n).1 (p % 10) ∧ ∀ p', p' < n → unkB rk e bs K p' = true → ∀ d, Dst K (p' / 10) d (p' % 10) → (sbI (drJ (sortN rk e) e bs) K bs B n).1 ≤ d := by
  intro n
  induction n with
  | zero => intro _; exact Or.inl ⟨rfl, rfl, fun p hp => absurd hp (Nat.not_lt_zero p)⟩
  | succ n ih =>
    intro hn
    have i := ih (by omega)
    unfold sbI
    generalize sbI (drJ (sortN rk e) e bs) K bs B n = st at i ⊢
    unfold sbP
    by_cases g : (isE (drJ (sortN rk e) e bs) bs (n / 10) (n % 10) && !(K (n / 10)).testBit (n % 10)) = true
    · rw [if_pos g]
      have hu : unkB rk e bs K n = true := g
      obtain ⟨q1, q2, q3, q4⟩ := (unk_iff.mp hu).1.ok
      have hne : n / 10 ≠ n % 10 := fun z => q3 (by rw [z]; exact q4)
      rcases walk_is (B := st.2.2) (show n / 10 < 10 by omega) hK hne with ⟨L, L1, L2, L3, L4⟩ | ⟨w1, w2⟩
      · rw [L3]
        have noL : ∀ p', p' < n + 1 → unkB rk e bs K p' = true → p' = n ∨ p' < n := fun p' h _ => by omega
        by_cases gl : L < st.1
        · rw [if_pos gl]
          refine Or.inr ⟨n, by omega, rfl, hu, L2, L4, fun p' hp' hu' d hd => ?_⟩
          show L ≤ d
          by_cases gp : p' = n
          · subst gp
            rw [L4.uniq hd]; exact Nat.le_refl _
          · rcases i with ⟨-, -, i3⟩ | ⟨p, -, -, -, -, -, i6⟩
            · exact absurd hd (i3 p' (by omega) hu' d)
            · have := i6 p' (by omega) hu' d hd
              omega
        · rw [if_neg gl]
          rcases i with ⟨i1, i2, i3⟩ | ⟨p, p1, p2, p3, p4, p5, p6⟩
          · omega
          · refine Or.inr ⟨p, by omega, p2, p3, p4, p5, fun p' hp' hu' d hd => ?_⟩
            show st.1 ≤ d
            by_cases gp : p' = n
            · subst gp
              rw [← L4.uniq hd]; omega
            · exact p6 p' (by omega) hu' d hd
      · have far : ∀ d, ¬ Dst K (n / 10) d (n % 10) := fun d hd => by
          have := dst_lt (by omega) hK hd
          exact w2 d (by omega) hd
        rcases i with ⟨i1, i2, i3⟩ | ⟨p, p1, p2, p3, p4, p5, p6⟩
        · rw [if_neg (by omega)]
          refine Or.inl ⟨i1, i2, fun p hp hup d hd => ?_⟩
          by_cases gp : p = n
          · subst gp; exact far d hd
          · exact i3 p (by omega) hup d hd
        · rw [if_neg (by omega)]
          refine Or.inr ⟨p, by omega, p2, p3, p4, p5, fun p' hp' hu' d hd => ?_⟩
          by_cases gp : p' = n
          · subst gp; exact absurd hd (far d)
          · exact p6 p' (by omega) hu' d hd
    · rw [if_neg g]
      rcases i with ⟨i1, i2, i3⟩ | ⟨p, p1, p2, p3, p4, p5, p6⟩
      · refine Or.inl ⟨i1, i2, fun p hp hup d hd => ?_⟩
        by_cases gp : p = n
        · subst gp; exact g hup
        · exact i3 p (by omega) hup d hd
      · refine Or.inr ⟨p, by omega, p2, p3, p4, p5, fun p' hp' hu' d hd => ?_⟩
        by_cases gp : p' = n
        · subst gp; exact absurd hu' g
        · exact p6 p' (by omega) hu' d hd
/-- the known entries with their signs -/
def BndI (rk : Nat → Nat) (e bs : Nat) (G : Nat → Nat → Nat) (K N : Nat → Nat) : Prop := (∀ j, K j < 1024) ∧ (∀ x y, (K x).testBit y = true → (K y).testBit x = true) ∧ (∀ x y, (K x).testBit y = true → SupE rk e bs x y ∨ SupE rk e bs y x) ∧ (∀ x y, (N x).testBit y = true → (K x).testBit y = true) ∧ (∀ x y, (N x).testBit y = true → (N y).testBit x = true) ∧ (∀ c b, SupE rk e bs c b → (K c).testBit b = true → G c (ixB bs b) = vl3 ((N c).testBit b)) ∧ ∀ c b, SupE rk e bs c b → ∀ X : Nat → Prop, Cl K X → (X c ↔ X b)
/-- the way back from the row -/
def wS (B : Nat → Nat) (row : Nat) : Nat → Nat
  | 0 => row
  | k + 1 => B (wS B row k)
theorem rg_ok {B N : Nat → Nat} {el row L : Nat} (h : ∀ k, k < L → wS B row k ≠ el) : ∀ k, k ≤ L → (rgN B N el row k).1 = wS B row k ∧ (∀ i, (rgN B N el row k).2.1.testBit i = true ↔ ∃ j, j ≤ k ∧ wS B row j = i) ∧ (rgN B N el row k).2.2 = xrS (fun j => (N (wS B row j)).testBit (wS B row (j + 1))) k := by
  intro k
  induction k with
  | zero =>
    intro _
    refine ⟨rfl, fun i => ?_, rfl⟩
    show (2 ^ row).testBit i = true ↔ _
    rw [p2_testBit, decide_eq_true_eq]
    exact ⟨fun z => ⟨0, Nat.le_refl 0, z⟩, fun ⟨j, j1, j2⟩ => by rw [Nat.le_zero.mp j1] at j2; exact j2⟩
  | succ k ih =>
    intro hk
    obtain ⟨i1, i2, i3⟩ := ih (by omega)
    unfold rgN
    rw [if_neg (by rw [i1]; exact h k (by omega))]
    refine ⟨?_, fun i => ?_, ?_⟩
    · show B (rgN B N el row k).1 = B (wS B row k)
      rw [i1]
    · show ((rgN B N el row k).2.1 ||| 2 ^ B (rgN B N el row k).1).testBit i = true ↔ _
      rw [Nat.testBit_or, p2_testBit, Bool.or_eq_true, decide_eq_true_eq, i2, i1]
      constructor
      · rintro (⟨j, j1, j2⟩ | z)
        · exact ⟨j, by omega, j2⟩
        · exact ⟨k + 1, Nat.le_refl _, z⟩
      · rintro ⟨j, j1, j2⟩
        by_cases g : j = k + 1
        · subst g; exact Or.inr j2
        · exact Or.inl ⟨j, by omega, j2⟩
    · show xor (rgN B N el row k).2.2 ((N (rgN B N el row k).1).testBit (B (rgN B N el row k).1)) = xor (xrS _ k) _
      rw [i3, i1]; rfl
theorem ring_sign (hM : Mtr e rk) (hB : BsP rk e bs) {G : Nat → Nat → Nat} (hU : UM 3 (rk (2 ^ e - 1)) e bs G) (hR : ∀ s, s < 2 ^ e → rkE 3 (rk (2 ^ e - 1)) G s = rk s) {K N B : Nat → Nat} (h : BndI rk e bs G K N) {p L : Nat} (hp : unkB rk e bs K p = true) (hL : Dst K (p / 10) L (p % 10)) (hB2 : ∀ d i, 1 ≤ d → d ≤ L → Dst K (p / 10) d i → Dst K (p / 10) (d - 1) (B i) ∧ (K (B i)).testBit i = true) (hmin : ∀ p', p' < 100 → unkB rk e bs K p' = true → ∀ d, Dst K (p' / 10) d (p' % 10) → L ≤ d) : G (p / 10) (ixB bs (p % 10)) = vl3 (sgnN (sortN rk e) B N e bs (p / 10) (p % 10)) := by
  have he := hM.1
  obtain ⟨k1, k2, k3, k4, k5, k6, k7⟩ := h
  obtain ⟨u1, u2⟩ := unk_iff.mp hp
  obtain ⟨q1, q2, q3, q4⟩ := u1.ok
  generalize hel : p / 10 = el at *
  generalize hrow : p % 10 = row at *
  have hne : el ≠ row := fun z => q3 (by rw [z]; exact q4)
  have L9 := dst_lt (by omega) k1 hL
  have d0 : ∀ i, Dst K el 0 i ↔ el = i := fun i => ⟨fun ⟨⟨v, v1, v2, _⟩, _⟩ => by rw [← v1, ← v2], fun z => by subst z; exact ⟨Pth.nil el, fun n hn => absurd hn (Nat.not_lt_zero n)⟩⟩
  -- the way back
  have wd : ∀ k, k ≤ L → Dst K el (L - k) (wS B row k) := by
    intro k
    induction k with
    | zero => intro _; exact hL
    | succ k ih =>
      intro hk
      have i := ih (by omega)
      have q := (hB2 (L - k) _ (by omega) (by omega) i).1
      rw [show L - (k + 1) = L - k - 1 by omega]
      exact q
  have we : ∀ k, k < L → (K (wS B row (k + 1))).testBit (wS B row k) = true := fun k hk => (hB2 (L - k) _ (by omega) (by omega) (wd k (by omega))).2
  have wel : wS B row L = el := by
    have q := wd L (Nat.le_refl L)
    rw [Nat.sub_self] at q
    exact ((d0 _).mp q).symm
  have inj : ∀ j k, j ≤ L → k ≤ L → wS B row j = wS B row k → j = k := fun j k hj hk z => by
    have a := wd j hj
    rw [z] at a
    have := a.uniq (wd k hk)
    omega
  have L1 : 1 ≤ L := by
    apply Classical.byContradiction
    intro z
    have : L = 0 := by omega
    subst this
    exact hne wel.symm
  have wlt : ∀ k, k ≤ L → wS B row k < e := fun k hk => by
    by_cases g : k = 0
    · subst g; exact q2
    · have q := we (k - 1) (by omega)
      rw [show k - 1 + 1 = k by omega] at q
      rcases k3 _ _ q with z | z
      · exact z.ok.1
      · exact z.ok.2.1
  have par : ∀ k, k ≤ L → (bs.testBit (wS B row k) = true ↔ k % 2 = 0) := by
    intro k
    induction k with
    | zero => intro _; exact ⟨fun _ => rfl, fun _ => q4⟩
    | succ k ih =>
      intro hk
      have i := ih (by omega)
      rcases k3 _ _ (we k (by omega)) with z | z
      · have z3 := z.ok.2.2.1
        have z4 := i.mp z.ok.2.2.2
        exact ⟨fun y => absurd y z3, fun y => by omega⟩
      · have z3 := z.ok.2.2.1
        have z4 := z.ok.2.2.2
        have z5 : ¬ k % 2 = 0 := fun y => z3 (i.mpr y)
        exact ⟨fun _ => by omega, fun _ => z4⟩
  have Lodd : L % 2 = 1 := by
    have q := par L (Nat.le_refl L)
    rw [wel] at q
    have : ¬ L % 2 = 0 := fun z => q3 (q.mpr z)
    omega
  obtain ⟨M, hMm⟩ : ∃ M, L = 2 * M + 1 := ⟨L / 2, by omega⟩
  subst hMm
  have M1 : 1 ≤ M := by
    apply Classical.byContradiction
    intro z
    have : M = 0 := by omega
    subst this
    have q := we 0 (by omega)
    have wel2 : wS B row (0 + 1) = el := wel
    rw [wel2] at q
    exact u2 q
  have gz : ∀ c b, SupE rk e bs c b → G c (ixB bs b) ≠ 0 := fun c b q => by
    obtain ⟨a1, a2, a3, a4⟩ := q.ok
    exact (hU.sup hM (Or.inr rfl) hB hR a2 a4 a1 a3).mpr ((isE_iff a1).mp q).2.2.2
  have g12 : ∃ bL, G el (ixB bs row) = vl3 bL := by
    have a := gz el row u1
    have b := hU.1 el _ (hB.ixl he q2 q4)
    by_cases z : G el (ixB bs row) = 2
    · exact ⟨true, z⟩
    · exact ⟨false, show _ = 1 by omega⟩
  obtain ⟨bL, hbL⟩ := g12
  have sE : ∀ x y, (K x).testBit y = true → bs.testBit y = true → SupE rk e bs x y := fun x y hxy hy => by
    rcases k3 x y hxy with z | z
    · exact z
    · exact absurd hy z.ok.2.2.1
  have nsym : ∀ x y, (N x).testBit y = (N y).testBit x := fun x y => by
    rw [Bool.eq_iff_iff]
    exact ⟨k5 x y, k5 y x⟩
  have ring : Ring e bs G (wS B row) (fun j => (N (wS B row j)).testBit (wS B row (j + 1))) bL M := by
    refine ⟨M1, wlt, inj, par, fun m hm => ?_, fun m hm => ?_, ?_, fun m k hm hk n1 n2 n3 => ?_⟩
    · have ed := we (2 * m) (by omega)
      have s := sE _ _ ed ((par (2 * m) (by omega)).mpr (by omega))
      rw [k6 _ _ s ed]
      show vl3 _ = vl3 ((N (wS B row (2 * m))).testBit (wS B row (2 * m + 1)))
      rw [nsym]
    · have ed := k2 _ _ (we (2 * m + 1) (by omega))
      have s := sE _ _ ed ((par (2 * m + 1 + 1) (by omega)).mpr (by omega))
      exact k6 _ _ s ed
    · show G (wS B row (2 * M + 1)) (ixB bs row) = vl3 bL
      rw [wel]; exact hbL
    · apply Classical.byContradiction
      intro hz
      have s : SupE rk e bs (wS B row (2 * m + 1)) (wS B row (2 * k)) := by
        have c1 := wlt (2 * m + 1) (by omega)
        have b1 := wlt (2 * k) (by omega)
        have c2 : ¬ bs.testBit (wS B row (2 * m + 1)) = true := fun z => by have := (par _ (by omega)).mp z; omega
        have b2 : bs.testBit (wS B row (2 * k)) = true := (par _ (by omega)).mpr (by omega)
        exact (isE_iff c1).mpr ⟨c2, b1, b2, (hU.sup hM (Or.inr rfl) hB hR b1 b2 c1 c2).mp hz⟩
      have dc := wd (2 * m + 1) (by omega)
      have db := wd (2 * k) (by omega)
      by_cases g : (K (wS B row (2 * m + 1))).testBit (wS B row (2 * k)) = true
      · have p1 := dc.1.snoc g
        have p2 := db.1.snoc (k2 _ _ g)
        have a1 : ¬ 2 * M + 1 - (2 * m + 1) + 1 < 2 * M + 1 - 2 * k := fun z => db.2 _ z p1
        have a2 : ¬ 2 * M + 1 - 2 * k + 1 < 2 * M + 1 - (2 * m + 1) := fun z => dc.2 _ z p2
        omega
      · have hu : unkB rk e bs K (10 * wS B row (2 * m + 1) + wS B row (2 * k)) = true := by
          have b1 := wlt (2 * k) (by omega)
          rw [unk_iff, show (10 * wS B row (2 * m + 1) + wS B row (2 * k)) / 10 = wS B row (2 * m + 1) by omega, show (10 * wS B row (2 * m + 1) + wS B row (2 * k)) % 10 = wS B row (2 * k) by omega]
          exact ⟨s, g⟩
        have mn := hmin (10 * wS B row (2 * m + 1) + wS B row (2 * k)) (by
          have b1 := wlt (2 * k) (by omega)
          have c1 := wlt (2 * m + 1) (by omega)
          omega) hu
        have b1 := wlt (2 * k) (by omega)
        rw [show (10 * wS B row (2 * m + 1) + wS B row (2 * k)) / 10 = wS B row (2 * m + 1) by omega, show (10 * wS B row (2 * m + 1) + wS B row (2 * k)) % 10 = wS B row (2 * k) by omega] at mn
        have way : ∃ n, n < 2 * M + 1 ∧ Pth K (wS B row (2 * m + 1)) n (wS B row (2 * k)) := by
          by_cases go : 2 * k < 2 * m + 1
          · refine ⟨2 * m + 1 - 2 * k, by omega, fun i => wS B row (2 * m + 1 - i), rfl, ?_, fun i hi => ?_⟩
            · show wS B row (2 * m + 1 - (2 * m + 1 - 2 * k)) = _
              rw [show 2 * m + 1 - (2 * m + 1 - 2 * k) = 2 * k by omega]
            · have q := we (2 * m + 1 - (i + 1)) (by omega)
              rw [show 2 * m + 1 - (i + 1) + 1 = 2 * m + 1 - i by omega] at q
              exact q
          · refine ⟨2 * k - (2 * m + 1), by omega, fun i => wS B row (2 * m + 1 + i), rfl, ?_, fun i hi => ?_⟩
            · show wS B row (2 * m + 1 + (2 * k - (2 * m + 1))) = _
              rw [show 2 * m + 1 + (2 * k - (2 * m + 1)) = 2 * k by omega]
            · exact k2 _ _ (we (2 * m + 1 + i) (by omega))
        obtain ⟨n, n4, n5⟩ := way
        obtain ⟨d, d1, d2⟩ := n5.dst
        have := mn d d2
        omega
  -- the ring's set
  have hk : ∀ k, k < 2 * M + 1 → wS B row k ≠ el := fun k hk z => by
    have := inj k (2 * M + 1) (by omega) (by omega) (by rw [wel]; exact z)
    omega
  have rgs := rg_ok (N := N) hk
  have stay : rgN B N el row 10 = rgN B N el row (2 * M + 1) := by
    have q := rgN_stay (N := N) (k := 2 * M + 1) (el := el) (by rw [(rgs _ (Nat.le_refl _)).1]; exact wel) (10 - (2 * M + 1))
    rw [show 2 * M + 1 + (10 - (2 * M + 1)) = 10 by omega] at q
    exact q
  have rlt : ∀ k, k ≤ 2 * M + 1 → (rgN B N el row k).2.1 < 2 ^ e := fun k hk => by
    apply Nat.lt_pow_two_of_testBit
    intro i hi
    rw [Bool.eq_false_iff]
    intro z
    obtain ⟨j, j1, j2⟩ := ((rgs k hk).2.1 i).mp z
    have := wlt j (by omega)
    omega
  have rcnt : ∀ k, k ≤ 2 * M + 1 → bc (rgN B N el row k).2.1 = k + 1 ∧ bc ((rgN B N el row k).2.1 &&& bs) = k / 2 + 1 := by
    intro k
    induction k with
    | zero =>
      intro _
      have e0 : (rgN B N el row 0).2.1 = 2 ^ row := rfl
      rw [e0]
      refine ⟨bc_p2 he q2, ?_⟩
      have e1 : 2 ^ row &&& bs = 2 ^ row := by
        apply Nat.eq_of_testBit_eq
        intro i
        rw [Nat.testBit_and, p2_testBit]
        by_cases g : row = i
        · subst g; rw [decide_eq_true rfl, q4]; rfl
        · rw [decide_eq_false g]; rfl
      rw [e1]
      exact bc_p2 he q2
    | succ k ih =>
      intro hk2
      obtain ⟨i1, i2⟩ := ih (by omega)
      have e0 : (rgN B N el row (k + 1)).2.1 = (rgN B N el row k).2.1 ||| 2 ^ wS B row (k + 1) := by
        have q : rgN B N el row (k + 1) = if (rgN B N el row k).1 = el then rgN B N el row k else (B (rgN B N el row k).1, (rgN B N el row k).2.1 ||| 2 ^ B (rgN B N el row k).1, xor (rgN B N el row k).2.2 ((N (rgN B N el row k).1).testBit (B (rgN B N el row k).1))) := rfl
        rw [if_neg (by rw [(rgs k (by omega)).1]; exact hk k (by omega))] at q
        rw [q]
        show (rgN B N el row k).2.1 ||| 2 ^ B (rgN B N el row k).1 = _
        rw [(rgs k (by omega)).1]; rfl
      have nn : ¬ (rgN B N el row k).2.1.testBit (wS B row (k + 1)) = true := fun z => by
        obtain ⟨j, j1, j2⟩ := ((rgs k (by omega)).2.1 _).mp z
        have := inj j (k + 1) (by omega) (by omega) j2
        omega
      rw [e0]
      refine ⟨by rw [bc_add he (rlt k (by omega)) (wlt _ hk2) nn, i1], ?_⟩
      by_cases g : bs.testBit (wS B row (k + 1)) = true
      · have gp := (par (k + 1) hk2).mp g
        rw [and_or_in g, bc_add he (Nat.lt_of_le_of_lt Nat.and_le_left (rlt k (by omega))) (wlt _ hk2) (fun z => nn (by
          rw [Nat.testBit_and, Bool.and_eq_true] at z
          exact z.1)), i2]
        omega
      · have gp : ¬ (k + 1) % 2 = 0 := fun z => g ((par (k + 1) hk2).mpr z)
        rw [and_or_out g, i2]
        omega
  have rc := rcnt _ (Nat.le_refl (2 * M + 1))
  have rl := rlt _ (Nat.le_refl (2 * M + 1))
  have rb := (rgs _ (Nat.le_refl (2 * M + 1))).2.1
  have rx := (rgs _ (Nat.le_refl (2 * M + 1))).2.2
  unfold sgnN
  rw [stay, rx, rc.2]
  generalize (rgN B N el row (2 * M + 1)).2.1 = T at rc rl rb ⊢
  have hSl : bs ^^^ T < 2 ^ e := Nat.xor_lt_two_pow hB.1 rl
  have hrS : rgS bs (wS B row) M (bs ^^^ T) := fun i => by
    rw [Nat.testBit_xor]
    cases hb : bs.testBit i
    · rw [Bool.false_xor, rb]
      constructor
      · rintro ⟨j, j1, j2⟩
        have hj : ¬ j % 2 = 0 := fun z => by
          have := (par j j1).mpr z
          rw [j2, hb] at this
          cases this
        exact Or.inr ⟨j / 2, by omega, by rw [show 2 * (j / 2) + 1 = j by omega]; exact j2⟩
      · rintro (⟨z, -⟩ | ⟨m, m1, m2⟩)
        · cases z
        · exact ⟨2 * m + 1, by omega, m2⟩
    · rw [Bool.true_xor, Bool.not_eq_true']
      constructor
      · intro z
        refine Or.inl ⟨rfl, fun k hk y => ?_⟩
        have := (rb i).mpr ⟨k, hk, y⟩
        rw [z] at this; cases this
      · rintro (⟨-, z⟩ | ⟨m, m1, m2⟩)
        · rw [Bool.eq_false_iff]
          intro y
          obtain ⟨j, j1, j2⟩ := (rb i).mp y
          exact z j j1 j2
        · exfalso
          have := (par (2 * m + 1) (by omega)).mp (by rw [m2]; exact hb)
          omega
  have hbc : bc (bs ^^^ T) = bc bs := by
    have e1 : bs ^^^ T = sdf (bs ||| T) (bs &&& T) := by
      apply Nat.eq_of_testBit_eq
      intro i
      rw [Nat.testBit_xor, sdf_bit, Nat.testBit_or, Nat.testBit_and]
      cases bs.testBit i <;> cases T.testBit i <;> rfl
    have m1 := bc_mod he hB.1 rl
    have m2 := bc_dif2 he (or_lt hB.1 rl) (t := bs &&& T) (fun i hi => by
      rw [Nat.testBit_and, Bool.and_eq_true] at hi
      rw [Nat.testBit_or, hi.1]; rfl)
    rw [e1]
    rw [Nat.and_comm] at rc
    omega
  have sgn := ring.sign hM hrS hSl hbc hU hB hR
  rw [hbL, sgn]
  unfold rgD srtB
  rw [decide_eq_true hSl, Bool.true_and, sortB9, show (2 * M + 1) / 2 + 1 = M + 1 by omega]
end Au
