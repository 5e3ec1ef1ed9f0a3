/-! The mathematics: components, greedy bases -/
section Ao
variable {e : Nat} {rk : Nat → Nat}
theorem ntz_is : ∀ s, s < 1024 → s = 0 ∨ (s.testBit (ntz s) = true ∧ ∀ i, i < 10 → s.testBit i = true → ntz s ≤ i) := by decide +kernel
theorem bit_lt10 {s i : Nat} (hs : s < 2 ^ e) (h : s.testBit i = true) : i < e := Classical.byContradiction fun z => by
  rw [Nat.testBit_lt_two_pow (Nat.lt_of_lt_of_le hs (Nat.pow_le_pow_right (by decide) (by omega)))] at h
  cases h
theorem ntz_at (he : e ≤ 10) {s i : Nat} (hs : s < 2 ^ e) (h : s.testBit i = true) : s.testBit (ntz s) = true ∧ ntz s ≤ i := by
  have hi := bit_lt10 hs h
  rcases ntz_is s (Nat.lt_of_lt_of_le hs (p2_le he)) with z | ⟨z1, z2⟩
  · rw [z, Nat.zero_testBit] at h; cases h
  · exact ⟨z1, z2 i (by omega) h⟩
theorem cmp_ok {k : Nat} : ∀ n, cmpN rk e k n ≤ k ∧ (∀ z, z < n → z.testBit k = true → cirM rk z e = true → cmpN rk e k n ≤ ntz z) ∧ (cmpN rk e k n = k ∨ ∃ z, z < n ∧ z.testBit k = true ∧ cirM rk z e = true ∧ cmpN rk e k n = ntz z) := by
  intro n
  induction n with
  | zero => exact ⟨Nat.le_refl _, fun z hz => absurd hz (Nat.not_lt_zero z), Or.inl rfl⟩
  | succ n ih =>
    obtain ⟨i1, i2, i3⟩ := ih
    have q : cmpN rk e k (n + 1) = if (n.testBit k && cirM rk n e) = true then min (cmpN rk e k n) (ntz n) else cmpN rk e k n := rfl
    by_cases g : (n.testBit k && cirM rk n e) = true
    · rw [if_pos g] at q
      rw [Bool.and_eq_true] at g
      refine ⟨by omega, fun z hz z1 z2 => ?_, ?_⟩
      · by_cases gz : z = n
        · subst gz; omega
        · have := i2 z (by omega) z1 z2; omega
      · by_cases gm : cmpN rk e k n ≤ ntz n
        · rcases i3 with y | ⟨z, z1, z2, z3, z4⟩
          · exact Or.inl (by omega)
          · exact Or.inr ⟨z, by omega, z2, z3, by omega⟩
        · exact Or.inr ⟨n, by omega, g.1, g.2, by omega⟩
    · rw [if_neg g] at q
      rw [Bool.and_eq_true] at g
      rw [q]
      refine ⟨i1, fun z hz z1 z2 => ?_, ?_⟩
      · by_cases gz : z = n
        · subst gz; exact absurd ⟨z1, z2⟩ g
        · exact i2 z (by omega) z1 z2
      · rcases i3 with y | ⟨z, z1, z2⟩
        · exact Or.inl y
        · exact Or.inr ⟨z, by omega, z2⟩
theorem component_same (hM : Mtr e rk) {k : Nat} (hk : k < e) : lowN (sortN rk e) e k = cmpN rk e k (2 ^ e) := by
  obtain ⟨c1, c2, c3⟩ := cmp_ok (rk := rk) (e := e) (k := k) (2 ^ e)
  unfold lowN
  have hS : 2 ^ k ||| orN (fun s => s.testBit k && (sortN rk e s &&& 4 != 0)) (2 ^ e) < 2 ^ e := or_lt (bit_lt hk) (orN_lt (Nat.le_refl _))
  have hb : ∀ i, (2 ^ k ||| orN (fun s => s.testBit k && (sortN rk e s &&& 4 != 0)) (2 ^ e)).testBit i = true ↔ (k = i ∨ ∃ s, s < 2 ^ e ∧ (s.testBit k = true ∧ cirM rk s e = true) ∧ s.testBit i = true) := fun i => by
    rw [Nat.testBit_or, Bool.or_eq_true, p2_testBit, decide_eq_true_eq, orN_bit]
    constructor
    · rintro (z | ⟨s, s1, s2, s3⟩)
      · exact Or.inl z
      · rw [Bool.and_eq_true, hM.srtC s1] at s2
        exact Or.inr ⟨s, s1, s2, s3⟩
    · rintro (z | ⟨s, s1, s2, s3⟩)
      · exact Or.inl z
      · exact Or.inr ⟨s, s1, by rw [Bool.and_eq_true, hM.srtC s1]; exact s2, s3⟩
  generalize 2 ^ k ||| orN (fun s => s.testBit k && (sortN rk e s &&& 4 != 0)) (2 ^ e) = S at hS hb ⊢
  obtain ⟨n1, n2⟩ := ntz_at hM.1 hS ((hb k).mpr (Or.inl rfl))
  have l1 : cmpN rk e k (2 ^ e) ≤ ntz S := by
    rcases (hb _).mp n1 with z | ⟨s, s1, ⟨s2, s3⟩, s4⟩
    · omega
    · have := c2 s s1 s2 s3
      have := (ntz_at hM.1 s1 s4).2
      omega
  have l2 : ntz S ≤ cmpN rk e k (2 ^ e) := by
    rcases c3 with z | ⟨s, s1, s2, s3, s4⟩
    · omega
    · rw [s4]
      exact (ntz_at hM.1 hS ((hb (ntz s)).mpr (Or.inr ⟨s, s1, ⟨s2, s3⟩, (ntz_at hM.1 s1 s2).1⟩))).2
  omega
/-- x comes before y: it is heavier, or as heavy and has the lower number -/
def befB (w : Nat → Nat) (x y : Nat) : Bool := decide (w y < w x) || (decide (w x = w y) && decide (x < y))
theorem bef_iff {w : Nat → Nat} {x y : Nat} : befB w x y = true ↔ w y < w x ∨ (w x = w y ∧ x < y) := by
  unfold befB
  rw [Bool.or_eq_true, Bool.and_eq_true, decide_eq_true_eq, decide_eq_true_eq, decide_eq_true_eq]
/-- those of a set that come before x -/
def preB (w : Nat → Nat) (e B x : Nat) : Nat := orB (fun y => B.testBit y && befB w y x) e
theorem preB_congr {w : Nat → Nat} {B B2 x : Nat} (h : ∀ y, y < e → befB w y x = true → B.testBit y = B2.testBit y) : preB w e B x = preB w e B2 x := by
  apply Nat.eq_of_testBit_eq
  intro i
  unfold preB
  rw [orB_bit, orB_bit]
  by_cases g : i < e
  · rw [decide_eq_true g]
    cases hb : befB w i x
    · simp only [Bool.and_false]
    · rw [h i g hb]
  · rw [decide_eq_false g]; rfl
theorem preB_all {w : Nat → Nat} {B x : Nat} (hB : B < 2 ^ e) (h : ∀ y, B.testBit y = true → befB w y x = true) : preB w e B x = B := by
  apply Nat.eq_of_testBit_eq
  intro i
  unfold preB
  rw [orB_bit]
  cases hb : B.testBit i
  · rw [Bool.false_and, Bool.and_false]
  · rw [decide_eq_true (bit_lt10 hB hb), h i hb]; rfl
def GrC (rk w : Nat → Nat) (e B : Nat) : Prop := B < 2 ^ e ∧ ∀ x, x < e → (B.testBit x = true ↔ frB rk (preB w e B x ||| 2 ^ x) = true)
theorem GrC.same {w : Nat → Nat} (he : e ≤ 10) (hw : ∀ j, j < e → w j < 1024) {B B2 : Nat} (h : GrC rk w e B) (h2 : GrC rk w e B2) : B = B2 := by
  have key : ∀ n x, x < e → (1024 - w x) * 16 + x < n → B.testBit x = B2.testBit x := by
    intro n
    induction n with
    | zero => intro x _ hx; omega
    | succ n ih =>
      intro x hx hn
      have c : preB w e B x = preB w e B2 x := preB_congr (fun y hy hb => ih y hy (by
        have := hw x hx
        have := hw y hy
        rcases bef_iff.mp hb with z | z <;> omega))
      rw [Bool.eq_iff_iff, h.2 x hx, h2.2 x hx, c]
  apply Nat.eq_of_testBit_eq
  intro i
  by_cases g : i < e
  · exact key _ i g (Nat.lt_succ_self _)
  · rw [Nat.testBit_lt_two_pow (Nat.lt_of_lt_of_le h.1 (Nat.pow_le_pow_right (by decide) (by omega))), Nat.testBit_lt_two_pow (Nat.lt_of_lt_of_le h2.1 (Nat.pow_le_pow_right (by decide) (by omega)))]
/-- the state in which the elements of pr are settled -/
def GrS (rk w : Nat → Nat) (e : Nat) (pr : Nat → Prop) (B : Nat) : Prop := B < 2 ^ e ∧ (∀ x, B.testBit x = true → pr x) ∧ ∀ x, x < e → pr x → (B.testBit x = true ↔ frB rk (preB w e B x ||| 2 ^ x) = true)
theorem GrS.step {w : Nat → Nat} {pr : Nat → Prop} {B k : Nat} (h : GrS rk w e pr B) (hk : k < e) (hn : ¬ pr k) (hb : ∀ x, x < e → pr x → befB w x k = true) {b : Nat} (hB : b = if frB rk (B ||| 2 ^ k) = true then B ||| 2 ^ k else B) : GrS rk w e (fun x => pr x ∨ x = k) b := by
  obtain ⟨h1, h2, h3⟩ := h
  have hb2 : ∀ i, b.testBit i = (B.testBit i || (decide (k = i) && frB rk (B ||| 2 ^ k))) := fun i => by
    rw [hB]
    by_cases g : frB rk (B ||| 2 ^ k) = true
    · rw [if_pos g, g, Bool.and_true, Nat.testBit_or, p2_testBit]
    · rw [if_neg g]
      rw [Bool.not_eq_true] at g
      rw [g, Bool.and_false, Bool.or_false]
  have asym : ∀ x, pr x → x < e → befB w k x = false := fun x hx hxe => by
    have q := bef_iff.mp (hb x hxe hx)
    rw [Bool.eq_false_iff]
    intro z
    have q2 := bef_iff.mp z
    omega
  refine ⟨?_, fun x hx => ?_, fun x hx hp => ?_⟩
  · rw [hB]
    split
    · exact or_lt h1 (bit_lt hk)
    · exact h1
  · rw [hb2, Bool.or_eq_true, Bool.and_eq_true, decide_eq_true_eq] at hx
    rcases hx with z | z
    · exact Or.inl (h2 x z)
    · exact Or.inr z.1.symm
  · by_cases g : x = k
    · subst g
      have e1 : preB w e b x = B := by
        rw [show preB w e b x = preB w e B x from preB_congr (fun y hy hyb => by
          rw [hb2, decide_eq_false (show ¬ x = y from fun z => by
            subst z
            have := bef_iff.mp hyb
            omega), Bool.false_and, Bool.or_false])]
        exact preB_all h1 (fun y hy => hb y (bit_lt10 h1 hy) (h2 y hy))
      have e2 : B.testBit x = false := by
        rw [Bool.eq_false_iff]
        exact fun z => hn (h2 x z)
      rw [e1, hb2, e2, decide_eq_true rfl, Bool.false_or, Bool.true_and]
    · have px : pr x := hp.resolve_right g
      have e1 : preB w e b x = preB w e B x := preB_congr (fun y hy hyb => by
        rw [hb2, decide_eq_false (show ¬ k = y from fun z => by
          subst z
          rw [asym x px hx] at hyb
          cases hyb), Bool.false_and, Bool.or_false])
      rw [e1, hb2, decide_eq_false (fun z => g z.symm), Bool.false_and, Bool.or_false]
      exact h3 x hx px
theorem GrS.eqv {w : Nat → Nat} {pr pr2 : Nat → Prop} {B : Nat} (h : GrS rk w e pr B) (hp : ∀ x, x < e → (pr x ↔ pr2 x)) : GrS rk w e pr2 B :=
  ⟨h.1, fun x hx => (hp x (bit_lt10 h.1 hx)).mp (h.2.1 x hx), fun x hx q => h.2.2 x hx ((hp x hx).mpr q)⟩
theorem grI_ok {w : Nat → Nat} {z s0 : Nat} (hz : z < 1024) (h : GrS rk w e (fun x => 1024 ≤ w x + z) s0) : ∀ k, k ≤ e → GrS rk w e (fun x => 1024 ≤ w x + z ∨ (w x + z = 1023 ∧ x < k)) (grI rk w (1023 - z) s0 k) := by
  intro k
  induction k with
  | zero => intro _; exact h.eqv (fun x _ => ⟨fun q => Or.inl q, fun q => q.elim id (fun y => absurd y.2 (Nat.not_lt_zero x))⟩)
  | succ k ih =>
    intro hk
    have i := ih (by omega)
    show GrS rk w e _ (grI rk w (1023 - z) s0 k ||| (if (w k == 1023 - z && frB rk (grI rk w (1023 - z) s0 k ||| 2 ^ k)) = true then 2 ^ k else 0))
    by_cases g : w k = 1023 - z
    · refine (i.step (k := k) (by omega) (by omega) (fun x hx px => bef_iff.mpr (by omega)) (b := _) ?_).eqv (fun x hx => ?_)
      · rw [g, beq_self_eq_true, Bool.true_and]
        split
        · rfl
        · rw [Nat.or_zero]
      · by_cases gx : x = k
        · subst gx; omega
        · omega
    · have e1 : (w k == 1023 - z) = false := beq_eq_false_iff_ne.mpr g
      rw [e1, Bool.false_and, if_neg Bool.false_ne_true, Nat.or_zero]
      refine i.eqv (fun x hx => ?_)
      by_cases gx : x = k
      · subst gx; omega
      · omega
theorem grO_ok {w : Nat → Nat} (hw : ∀ j, j < e → w j < 1024) : ∀ z, z ≤ 1024 → GrS rk w e (fun x => 1024 ≤ w x + z) (grO rk w e z) := by
  intro z
  induction z with
  | zero =>
    intro _
    refine ⟨p2_pos e, fun x hx => ?_, fun x hx q => ?_⟩
    · have hx2 : (0 : Nat).testBit x = true := hx
      rw [Nat.zero_testBit] at hx2
      cases hx2
    · have := hw x hx
      omega
  | succ z ih =>
    intro hz
    exact (grI_ok (by omega) (ih (by omega)) e (Nat.le_refl e)).eqv (fun x hx => by omega)
theorem hv_ok {w : Nat → Nat} {seen : Nat} : ∀ n, (hvN w seen n = -1 ∧ ∀ i, i < n → seen.testBit i = true) ∨ ∃ p : Nat, p < n ∧ hvN w seen n = ((p : Nat) : Int) ∧ seen.testBit p = false ∧ ∀ i, i < n → seen.testBit i = false → i ≠ p → befB w p i = true := by
  intro n
  induction n with
  | zero => exact Or.inl ⟨rfl, fun i hi => absurd hi (Nat.not_lt_zero i)⟩
  | succ n ih =>
    unfold hvN
    rcases ih with ⟨h1, h2⟩ | ⟨p, p1, p2, p3, p4⟩
    · by_cases g : seen.testBit n = false
      · rw [if_pos ⟨g, Or.inl (by omega)⟩]
        refine Or.inr ⟨n, by omega, rfl, g, fun i hi hb hne => ?_⟩
        rw [h2 i (by omega)] at hb
        cases hb
      · rw [if_neg (fun z => g z.1)]
        refine Or.inl ⟨h1, fun i hi => ?_⟩
        by_cases gi : i = n
        · subst gi; rw [Bool.not_eq_false] at g; exact g
        · exact h2 i (by omega)
    · rw [p2, Int.toNat_natCast]
      by_cases g : seen.testBit n = false ∧ w p < w n
      · rw [if_pos ⟨g.1, Or.inr g.2⟩]
        refine Or.inr ⟨n, by omega, rfl, g.1, fun i hi hb hne => ?_⟩
        by_cases gi : i = p
        · subst gi; exact bef_iff.mpr (by omega)
        · have := bef_iff.mp (p4 i (by omega) hb gi)
          exact bef_iff.mpr (by omega)
      · rw [if_neg (fun z => g ⟨z.1, z.2.resolve_left (by omega)⟩)]
        refine Or.inr ⟨p, by omega, rfl, p3, fun i hi hb hne => ?_⟩
        by_cases gi : i = n
        · subst gi
          exact bef_iff.mpr (by
            have : ¬ w p < w i := fun z => g ⟨hb, z⟩
            omega)
        · exact p4 i (by omega) hb hne
theorem grd_ok {w : Nat → Nat} (he : e ≤ 10) : ∀ k, k ≤ e → GrS rk w e (fun x => (grdN (sortN rk e) w e k).2.testBit x = true) (grdN (sortN rk e) w e k).1 ∧ (grdN (sortN rk e) w e k).2 < 2 ^ e ∧ bc (grdN (sortN rk e) w e k).2 = k ∧ ∀ x y, x < e → y < e → (grdN (sortN rk e) w e k).2.testBit x = true → (grdN (sortN rk e) w e k).2.testBit y = false → befB w x y = true := by
  intro k
  induction k with
  | zero =>
    intro _
    have q : grdN (sortN rk e) w e 0 = (0, 0) := rfl
    rw [q]
    refine ⟨⟨p2_pos e, fun x hx => hx, fun x hx hp => ?_⟩, p2_pos e, rfl, fun x y _ _ hx _ => ?_⟩
    · have hp2 : (0 : Nat).testBit x = true := hp
      rw [Nat.zero_testBit] at hp2; cases hp2
    · have hp2 : (0 : Nat).testBit x = true := hx
      rw [Nat.zero_testBit] at hp2; cases hp2
  | succ k ih =>
    intro hk
    obtain ⟨i1, i2, i3, i4⟩ := ih (by omega)
    unfold grdN
    generalize grdN (sortN rk e) w e k = st at i1 i2 i3 i4 ⊢
    rcases hv_ok (w := w) (seen := st.2) e with ⟨-, h2⟩ | ⟨p, p1, p2, p3, p4⟩
    · exfalso
      have z : st.2 = 2 ^ e - 1 := by
        apply Nat.eq_of_testBit_eq
        intro i
        rw [all_bit]
        by_cases g : i < e
        · rw [decide_eq_true g]; exact h2 i g
        · rw [decide_eq_false g]
          exact Nat.testBit_lt_two_pow (Nat.lt_of_lt_of_le i2 (Nat.pow_le_pow_right (by decide) (by omega)))
      rw [z, bc_all e (by omega)] at i3
      omega
    · rw [p2, if_neg (show ¬ ((p : Nat) : Int) < 0 by omega), Int.toNat_natCast]
      have hp : ¬ st.2.testBit p = true := by rw [p3]; exact Bool.false_ne_true
      have tb : ∀ i, (st.2 ||| 2 ^ p).testBit i = true ↔ (st.2.testBit i = true ∨ i = p) := fun i => by
        rw [Nat.testBit_or, p2_testBit, Bool.or_eq_true, decide_eq_true_eq]
        exact ⟨fun z => z.imp id Eq.symm, fun z => z.imp id Eq.symm⟩
      refine ⟨(i1.step p1 hp (fun x hx px => i4 x p hx p1 px p3) (by rw [sortI9])).eqv (fun x _ => (tb x).symm), or_lt i2 (bit_lt p1), ?_, fun x y hx hy bx bY => ?_⟩
      · show bc (st.2 ||| 2 ^ p) = k + 1
        rw [bc_add he i2 p1 hp, i3]
      · have bY2 : ¬ (st.2.testBit y = true ∨ y = p) := fun z => by
          have q := (tb y).mpr z
          have bY3 : (st.2 ||| 2 ^ p).testBit y = false := bY
          rw [bY3] at q; cases q
        have yf : st.2.testBit y = false := by
          rw [Bool.eq_false_iff]; exact fun z => bY2 (Or.inl z)
        rcases (tb x).mp bx with z | z
        · exact i4 x y hx hy z yf
        · subst z
          exact p4 y hy yf (fun q => bY2 (Or.inr q))
theorem greedy_same {w : Nat → Nat} (he : e ≤ 10) (hw : ∀ j, j < e → w j < 1024) : (grdN (sortN rk e) w e e).1 = grO rk w e 1024 := by
  have a := grO_ok (rk := rk) (e := e) hw 1024 (Nat.le_refl _)
  obtain ⟨b, b2, b3, -⟩ := grd_ok (rk := rk) (w := w) he e (Nat.le_refl _)
  have all : ∀ x, x < e → (grdN (sortN rk e) w e e).2.testBit x = true := fun x hx => by
    have z : (grdN (sortN rk e) w e e).2 = 2 ^ e - 1 := sbs_full he (by have := p2_pos e; omega) (sbs_all b2) (by rw [b3, bc_all e (by omega)])
    rw [z]
    exact all1 hx
  exact GrC.same he hw ⟨b.1, fun x hx => b.2.2 x hx (all x hx)⟩ ⟨a.1, fun x hx => a.2.2 x hx (by omega)⟩
end Ao
