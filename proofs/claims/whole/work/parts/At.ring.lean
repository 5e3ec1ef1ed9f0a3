/-! The mathematics: drawings over 3: the sign of an entry that closes a ring without chords -/
section At
variable {e f bs rows : Nat} {rk : Nat → Nat}
theorem ind_iff (he : e ≤ 10) {C : Nat → Nat → Nat} {r : Nat → Nat} (h : SpR f rows e C r) {S : Nat} (hS : S < 2 ^ e) : r S = bc S ↔ ∀ x, S.testBit x = true → ¬ Sp f rows e C (sdf S (2 ^ x)) (cz C x) := by
  have hM := h.mtr he
  have nt : ∀ {s x : Nat}, ¬ (sdf s (2 ^ x)).testBit x = true := rem_nt
  constructor
  · intro hi x hx z
    have hxe := bit_lt10 hS hx
    have q := (h.2 (sdf S (2 ^ x)) x (sdf_lt hS) hxe nt).1 z
    rw [rem_or hx] at q
    have a := hM.her hS (sbs_rem S x) hi
    have b := bc_rem he hS hxe hx
    omega
  · intro hi
    have key : ∀ n T, bc T ≤ n → T < 2 ^ e → sbs T S → r T = bc T := by
      intro n
      induction n with
      | zero =>
        intro T hT hl _
        have : T = 0 := bc_ne he hl (by omega)
        subst this
        rw [h.1]; rfl
      | succ n ih =>
        intro T hT hl hs
        by_cases g : T = 0
        · subst g; rw [h.1]; rfl
        · obtain ⟨k, k1, k2⟩ := some_bit hl g
          have b := bc_rem he hl k1 k2
          have i := ih (sdf T (2 ^ k)) (by omega) (sdf_lt hl) (sbs_tr (sbs_rem T k) hs)
          have q := (h.2 (sdf T (2 ^ k)) k (sdf_lt hl) k1 nt).2 (fun z => hi k (hs k k2) (z.mono (fun i hi2 => by
            rw [sdf_bit, Bool.and_eq_true] at hi2 ⊢
            exact ⟨hs i hi2.1, hi2.2⟩)))
          rw [rem_or k2] at q
          omega
    exact key (bc S) S (Nat.le_refl _) hS (sbs_refl S)
theorem sumI_two {a : Nat → Int} {p q n : Nat} (hp : p < n) (hq : q < n) (hne : p ≠ q) (h : ∀ i, i < n → i ≠ p → i ≠ q → a i = 0) : sumI a n = a p + a q := by
  have e1 := sumI_put (a := a) (k := p) 0 n
  rw [if_pos hp, sumI_one (a := fun i => if i = p then 0 else a i) hq (fun i hi hn => by
    show (if i = p then (0 : Int) else a i) = 0
    by_cases g : i = p
    · rw [if_pos g]
    · rw [if_neg g]; exact h i hi g hn)] at e1
  have e2 : (if q = p then (0 : Int) else a q) = a q := if_neg (fun z => hne z.symm)
  rw [e2] at e1
  omega
def vl3 (b : Bool) : Nat := if b = true then 2 else 1
def xrS (a : Nat → Bool) : Nat → Bool
  | 0 => false
  | k + 1 => xor (xrS a k) (a k)
def pmS (a : Nat → Bool) : Nat → Bool
  | 0 => false
  | m + 1 => !(xor (xor (a (2 * m + 1)) (a (2 * m + 2))) (pmS a m))
theorem pm_xr {a : Nat → Bool} : ∀ m, pmS a m = xor (xor (xrS a (2 * m + 1)) (a 0)) (decide (m % 2 = 1)) := by
  intro m
  induction m with
  | zero =>
    show false = xor (xor (xor false (a 0)) (a 0)) (decide (0 % 2 = 1))
    cases a 0 <;> rfl
  | succ m ih =>
    show (!(xor (xor (a (2 * m + 1)) (a (2 * m + 2))) (pmS a m))) = xor (xor (xor (xor (xrS a (2 * m + 1)) (a (2 * m + 1))) (a (2 * m + 2))) (a 0)) (decide ((m + 1) % 2 = 1))
    rw [ih]
    by_cases g : m % 2 = 1
    · rw [decide_eq_true g, decide_eq_false (show ¬ (m + 1) % 2 = 1 by omega)]
      cases a (2 * m + 1) <;> cases a (2 * m + 2) <;> cases xrS a (2 * m + 1) <;> cases a 0 <;> rfl
    · rw [decide_eq_false g, decide_eq_true (show (m + 1) % 2 = 1 by omega)]
      cases a (2 * m + 1) <;> cases a (2 * m + 2) <;> cases xrS a (2 * m + 1) <;> cases a 0 <;> rfl
/-- what the sign must be for the ring's columns to be dependent -/
def rgD (a : Nat → Bool) (M : Nat) : Bool := xor (xrS a (2 * M + 1)) (decide ((M + 1) % 2 = 1))
theorem rgD_is {a : Nat → Bool} {M : Nat} : rgD a M = !(xor (a 0) (pmS a M)) := by
  unfold rgD
  rw [pm_xr]
  by_cases g : M % 2 = 1
  · rw [decide_eq_true g, decide_eq_false (show ¬ (M + 1) % 2 = 1 by omega)]
    cases xrS a (2 * M + 1) <;> cases a 0 <;> rfl
  · rw [decide_eq_false g, decide_eq_true (show (M + 1) % 2 = 1 by omega)]
    cases xrS a (2 * M + 1) <;> cases a 0 <;> rfl
/-- a ring without chords: rows at even places, columns at odd places -/
def Ring (e bs : Nat) (G : Nat → Nat → Nat) (w : Nat → Nat) (a : Nat → Bool) (bL : Bool) (M : Nat) : Prop := 1 ≤ M ∧ (∀ k, k ≤ 2 * M + 1 → w k < e) ∧ (∀ j k, j ≤ 2 * M + 1 → k ≤ 2 * M + 1 → w j = w k → j = k) ∧ (∀ k, k ≤ 2 * M + 1 → (bs.testBit (w k) = true ↔ k % 2 = 0)) ∧ (∀ m, m ≤ M → G (w (2 * m + 1)) (ixB bs (w (2 * m))) = vl3 (a (2 * m))) ∧ (∀ m, m < M → G (w (2 * m + 1)) (ixB bs (w (2 * m + 2))) = vl3 (a (2 * m + 1))) ∧ G (w (2 * M + 1)) (ixB bs (w 0)) = vl3 bL ∧ ∀ m k, m ≤ M → k ≤ M → m ≠ k → m + 1 ≠ k → ¬ (m = M ∧ k = 0) → G (w (2 * m + 1)) (ixB bs (w (2 * k))) = 0
theorem vl_sg (b : Bool) : ((vl3 b : Nat) : Int) = sg b ∨ ((vl3 b : Nat) : Int) = sg b + 3 := by cases b <;> decide
def rgS (bs : Nat) (w : Nat → Nat) (M S : Nat) : Prop := ∀ i, S.testBit i = true ↔ (bs.testBit i = true ∧ ∀ k, k ≤ 2 * M + 1 → w k ≠ i) ∨ ∃ m, m ≤ M ∧ w (2 * m + 1) = i
variable {G : Nat → Nat → Nat} {w : Nat → Nat} {a : Nat → Bool} {bL : Bool} {M S : Nat}
/-- the sum along one row of the ring -/
theorem Ring.row (h : Ring e bs G w a bL M) (hS : rgS bs w M S) (hU : UM 3 (rk (2 ^ e - 1)) e bs G) (hB : BsP rk e bs) (he : e ≤ 10) {d : Nat → Int} (hd : ∀ i, i < e → ¬ S.testBit i = true → d i = 0) : (∀ m, 1 ≤ m → m ≤ M → sumI (fun i => d i * ((G i (ixB bs (w (2 * m))) : Nat) : Int)) e = d (w (2 * m - 1)) * ((vl3 (a (2 * m - 1)) : Nat) : Int) + d (w (2 * m + 1)) * ((vl3 (a (2 * m)) : Nat) : Int)) ∧ sumI (fun i => d i * ((G i (ixB bs (w 0)) : Nat) : Int)) e = d (w 1) * ((vl3 (a 0) : Nat) : Int) + d (w (2 * M + 1)) * ((vl3 bL : Nat) : Int) := by
  obtain ⟨h0, h1, h2, h3, h4, h5, h6, h7⟩ := h
  have zero : ∀ k i, k ≤ M → i < e → (∀ m, m ≤ M → i = w (2 * m + 1) → G i (ixB bs (w (2 * k))) = 0) → d i * ((G i (ixB bs (w (2 * k))) : Nat) : Int) = 0 := fun k i hk hi hz => by
    by_cases gi : S.testBit i = true
    · rcases (hS i).mp gi with ⟨z1, z2⟩ | ⟨m, m1, m2⟩
      · have hb : bs.testBit (w (2 * k)) = true := (h3 _ (by omega)).mpr (by omega)
        rw [hU.2 i hi z1 _ (hB.ixl he (h1 _ (by omega)) hb), if_neg (fun z => z2 (2 * k) (by omega) (ix_inj hb z1 z))]
        exact Int.mul_zero _
      · rw [hz m m1 m2.symm]; exact Int.mul_zero _
    · rw [hd i hi gi]; exact Int.zero_mul _
  constructor
  · intro m m1 m2
    have q := sumI_two (a := fun i => d i * ((G i (ixB bs (w (2 * m))) : Nat) : Int)) (p := w (2 * m - 1)) (q := w (2 * m + 1)) (n := e) (h1 _ (by omega)) (h1 _ (by omega)) (fun z => by have := h2 _ _ (by omega) (by omega) z; omega) (fun i hi n1 n2 => zero m i m2 hi (fun m' m'1 m'2 => by
      subst m'2
      refine h7 m' m m'1 m2 (fun z => ?_) (fun z => ?_) (fun z => ?_)
      · subst z; exact n2 rfl
      · subst z; exact n1 (by rw [show 2 * (m' + 1) - 1 = 2 * m' + 1 by omega])
      · omega))
    rw [q]
    show d (w (2 * m - 1)) * ((G (w (2 * m - 1)) (ixB bs (w (2 * m))) : Nat) : Int) + d (w (2 * m + 1)) * ((G (w (2 * m + 1)) (ixB bs (w (2 * m))) : Nat) : Int) = _
    rw [h4 m m2]
    have q5 := h5 (m - 1) (by omega)
    rw [show 2 * (m - 1) + 1 = 2 * m - 1 by omega, show 2 * (m - 1) + 2 = 2 * m by omega] at q5
    rw [q5]
  · have q := sumI_two (a := fun i => d i * ((G i (ixB bs (w (2 * 0))) : Nat) : Int)) (p := w 1) (q := w (2 * M + 1)) (n := e) (h1 _ (by omega)) (h1 _ (by omega)) (fun z => by have := h2 _ _ (by omega) (by omega) z; omega) (fun i hi n1 n2 => zero 0 i (by omega) hi (fun m' m'1 m'2 => by
      subst m'2
      refine h7 m' 0 m'1 (by omega) (fun z => ?_) (fun z => ?_) (fun z => ?_)
      · subst z; exact n1 rfl
      · omega
      · obtain ⟨z1, -⟩ := z; subst z1; exact n2 rfl))
    rw [show 2 * 0 = 0 from rfl] at q
    rw [q]
    show d (w 1) * ((G (w 1) (ixB bs (w 0)) : Nat) : Int) + d (w (2 * M + 1)) * ((G (w (2 * M + 1)) (ixB bs (w 0)) : Nat) : Int) = _
    rw [h6]
    have q4 := h4 0 (by omega)
    rw [show 2 * 0 + 1 = 1 from rfl, show 2 * 0 = 0 from rfl] at q4
    rw [q4]
theorem dv_sg {x y : Int} {b c : Bool} (h : (3 : Int) ∣ x * ((vl3 b : Nat) : Int) + y * ((vl3 c : Nat) : Int)) : (3 : Int) ∣ x * sg b + y * sg c := by
  have e1 : ∀ b : Bool, ((vl3 b : Nat) : Int) = if b = true then 2 else 1 := fun b => by cases b <;> rfl
  rw [e1, e1] at h
  unfold sg
  cases b <;> cases c <;> simp at h ⊢ <;> omega
theorem sg_t : sg true = -1 := rfl
theorem sg_f : sg false = 1 := rfl
theorem ch3 {z1 z2 z3 : Int} {a b p : Bool} (i : (3 : Int) ∣ z2 - sg p * z3) (q : (3 : Int) ∣ z2 * sg a + z1 * sg b) : (3 : Int) ∣ z1 - sg (!(xor (xor a b) p)) * z3 := by
  cases a <;> cases b <;> cases p <;> simp only [Bool.xor_self, Bool.xor_false, Bool.false_xor, Bool.true_xor, Bool.xor_true, Bool.not_true, Bool.not_false, sg_t, sg_f] at i q ⊢ <;> omega
theorem ch4 {z1 z3 : Int} {p : Bool} (i : (3 : Int) ∣ z1 - sg p * z3) (q : (3 : Int) ∣ z3) : (3 : Int) ∣ z1 := by
  cases p <;> simp only [sg_t, sg_f] at i <;> omega
theorem ch5 {z1 z3 : Int} {a b p : Bool} (i : (3 : Int) ∣ z1 - sg p * z3) (q : (3 : Int) ∣ z3 * sg a + z1 * sg b) (h : ¬ (3 : Int) ∣ z3) : b = !(xor a p) := by
  cases a <;> cases b <;> cases p <;> simp only [sg_t, sg_f] at i q <;> first | rfl | (exfalso; omega)
theorem Ring.dep1 (h : Ring e bs G w a bL M) (hS : rgS bs w M S) (hU : UM 3 (rk (2 ^ e - 1)) e bs G) (hB : BsP rk e bs) (he : e ≤ 10) {d : Nat → Int} (hd : ∀ i, i < e → ¬ S.testBit i = true → d i = 0) (hz : ∀ r, r < rk (2 ^ e - 1) → (3 : Int) ∣ sumI (fun i => d i * ((G i r : Nat) : Int)) e) {x : Nat} (hxe : x < e) (hx : S.testBit x = true) (hdx : d x = -1) : bL = rgD a M := by
  obtain ⟨r1, r2⟩ := h.row hS hU hB he hd
  obtain ⟨h0, h1, h2, h3, h4, h5, h6, h7⟩ := h
  have rl : ∀ m, m ≤ M → ixB bs (w (2 * m)) < rk (2 ^ e - 1) := fun m hm => hB.ixl he (h1 _ (by omega)) ((h3 _ (by omega)).mpr (by omega))
  have chain : ∀ m, m ≤ M → (3 : Int) ∣ d (w (2 * m + 1)) - sg (pmS a m) * d (w 1) := by
    intro m
    induction m with
    | zero =>
      intro _
      show (3 : Int) ∣ d (w 1) - 1 * d (w 1)
      rw [Int.one_mul, Int.sub_self]; exact Int.dvd_zero _
    | succ m ih =>
      intro hm
      have i := ih (by omega)
      have q := hz _ (rl (m + 1) hm)
      rw [r1 (m + 1) (by omega) hm, show 2 * (m + 1) - 1 = 2 * m + 1 by omega] at q
      have q2 := dv_sg q
      rw [show 2 * (m + 1) = 2 * m + 2 by omega] at q2
      show (3 : Int) ∣ d (w (2 * (m + 1) + 1)) - sg (!(xor (xor (a (2 * m + 1)) (a (2 * m + 2))) (pmS a m))) * d (w 1)
      rw [show 2 * (m + 1) + 1 = 2 * m + 2 + 1 by omega]
      exact ch3 i q2
  have last := hz _ (rl 0 (by omega))
  rw [show 2 * 0 = 0 from rfl, r2] at last
  have last2 := dv_sg last
  have cM := chain M (Nat.le_refl M)
  have nz : ¬ (3 : Int) ∣ d (w 1) := fun z => by
    have allz : ∀ m, m ≤ M → (3 : Int) ∣ d (w (2 * m + 1)) := fun m hm => by
      exact ch4 (chain m hm) z
    have dz : (3 : Int) ∣ d x := by
      rcases (hS x).mp hx with ⟨z1, z2⟩ | ⟨m, m1, m2⟩
      · have q := hz _ (hB.ixl he hxe z1)
        have e1 := sumI_put (a := fun i => d i * ((G i (ixB bs x) : Nat) : Int)) (k := x) 0 e
        rw [if_pos hxe] at e1
        have q2 : (3 : Int) ∣ sumI (fun i => if i = x then 0 else d i * ((G i (ixB bs x) : Nat) : Int)) e := sumI_dvd e (fun i hi => by
          show (3 : Int) ∣ (if i = x then 0 else d i * ((G i (ixB bs x) : Nat) : Int))
          by_cases gx : i = x
          · rw [if_pos gx]; exact Int.dvd_zero _
          · rw [if_neg gx]
            by_cases gi : S.testBit i = true
            · rcases (hS i).mp gi with ⟨y1, y2⟩ | ⟨m, m1, m2⟩
              · rw [hU.2 i hi y1 _ (hB.ixl he hxe z1), if_neg (fun y => gx (ix_inj z1 y1 y).symm)]
                exact ⟨0, Int.mul_zero _⟩
              · rw [← m2]; exact Int.dvd_mul_of_dvd_left (allz m m1)
            · rw [hd i hi gi, Int.zero_mul]; exact Int.dvd_zero _)
        rw [e1] at q2
        have e2 : d x * ((G x (ixB bs x) : Nat) : Int) = d x := by
          rw [hU.2 x hxe z1 _ (hB.ixl he hxe z1), if_pos rfl]
          show d x * 1 = d x
          rw [Int.mul_one]
        have q3 := Int.dvd_sub q q2
        have e3 : sumI (fun i => d i * ((G i (ixB bs x) : Nat) : Int)) e - (sumI (fun i => d i * ((G i (ixB bs x) : Nat) : Int)) e - d x * ((G x (ixB bs x) : Nat) : Int) + 0) = d x := by omega
        rw [e3] at q3
        exact q3
      · rw [← m2]; exact allz m m1
    rw [hdx] at dz
    omega
  rw [rgD_is]
  exact ch5 cM last2 nz
def yvS (w : Nat → Nat) (a : Nat → Bool) : Nat → Nat → Int
  | 0 => fun _ => 0
  | m + 1 => fun i => if i = w (2 * m + 1) then sg (pmS a m) else yvS w a m i
theorem yv_at (h2 : ∀ j k, j ≤ 2 * M + 1 → k ≤ 2 * M + 1 → w j = w k → j = k) : ∀ n, n ≤ M + 1 → (∀ m, m < n → yvS w a n (w (2 * m + 1)) = sg (pmS a m)) ∧ ∀ i, (∀ m, m < n → i ≠ w (2 * m + 1)) → yvS w a n i = 0 := by
  intro n
  induction n with
  | zero => intro _; exact ⟨fun m hm => absurd hm (Nat.not_lt_zero m), fun _ _ => rfl⟩
  | succ n ih =>
    intro hn
    obtain ⟨i1, i2⟩ := ih (by omega)
    refine ⟨fun m hm => ?_, fun i hi => ?_⟩
    · show (if w (2 * m + 1) = w (2 * n + 1) then sg (pmS a n) else yvS w a n (w (2 * m + 1))) = _
      by_cases g : m = n
      · subst g; rw [if_pos rfl]
      · rw [if_neg (fun z => by have := h2 _ _ (by omega) (by omega) z; omega)]
        exact i1 m (by omega)
    · show (if i = w (2 * n + 1) then sg (pmS a n) else yvS w a n i) = 0
      rw [if_neg (hi n (Nat.lt_succ_self n))]
      exact i2 i (fun m hm => hi m (by omega))
theorem sg_dv {x y : Int} {b c : Bool} (h : (3 : Int) ∣ x * sg b + y * sg c) : (3 : Int) ∣ x * ((vl3 b : Nat) : Int) + y * ((vl3 c : Nat) : Int) := by
  have e1 : ∀ b : Bool, ((vl3 b : Nat) : Int) = if b = true then 2 else 1 := fun b => by cases b <;> rfl
  rw [e1, e1]
  unfold sg at h
  cases b <;> cases c <;> simp at h ⊢ <;> omega
theorem Ring.dep2 (h : Ring e bs G w a bL M) (hS : rgS bs w M S) (hU : UM 3 (rk (2 ^ e - 1)) e bs G) (hB : BsP rk e bs) (he : e ≤ 10) (hb : bL = rgD a M) : S.testBit (w 1) = true ∧ Sp 3 (rk (2 ^ e - 1)) e G (sdf S (2 ^ w 1)) (cz G (w 1)) := by
  have hh := h
  obtain ⟨h0, h1, h2, h3, h4, h5, h6, h7⟩ := h
  obtain ⟨y1, y2⟩ := yv_at (a := a) h2 (M + 1) (Nat.le_refl _)
  have w1S : S.testBit (w 1) = true := (hS _).mpr (Or.inr ⟨0, by omega, rfl⟩)
  refine ⟨w1S, ?_⟩
  have yd : ∀ i, i < e → ¬ S.testBit i = true → yvS w a (M + 1) i = 0 := fun i _ hn => y2 i (fun m hm z => hn ((hS i).mpr (Or.inr ⟨m, by omega, z.symm⟩)))
  obtain ⟨r1, r2⟩ := hh.row hS hU hB he yd
  have yw1 : yvS w a (M + 1) (w 1) = 1 := y1 0 (by omega)
  -- the sum vanishes along the ring's rows
  have van : ∀ k, k ≤ M → (3 : Int) ∣ sumI (fun i => yvS w a (M + 1) i * ((G i (ixB bs (w (2 * k))) : Nat) : Int)) e := fun k hk => by
    by_cases g : k = 0
    · subst g
      rw [show 2 * 0 = 0 from rfl, r2]
      refine sg_dv ?_
      rw [yw1, y1 M (by omega)]
      rw [rgD_is] at hb
      subst hb
      unfold sg
      cases a 0 <;> cases pmS a M <;> decide
    · rw [r1 k (by omega) hk]
      refine sg_dv ?_
      have e1 := y1 (k - 1) (by omega)
      rw [show 2 * (k - 1) + 1 = 2 * k - 1 by omega] at e1
      have e2 := y1 k (by omega)
      have e3 : pmS a k = !(xor (xor (a (2 * k - 1)) (a (2 * k))) (pmS a (k - 1))) := by
        have q : pmS a (k - 1 + 1) = !(xor (xor (a (2 * (k - 1) + 1)) (a (2 * (k - 1) + 2))) (pmS a (k - 1))) := rfl
        rw [show k - 1 + 1 = k by omega, show 2 * (k - 1) + 1 = 2 * k - 1 by omega, show 2 * (k - 1) + 2 = 2 * k by omega] at q
        exact q
      rw [e1, e2, e3]
      unfold sg
      cases a (2 * k - 1) <;> cases a (2 * k) <;> cases pmS a (k - 1) <;> decide
  -- units make up the rest
  have tS : sbs (sdf (bs &&& S) (2 ^ w 1)) (sdf S (2 ^ w 1)) := fun i hi => by
    rw [sdf_bit, Nat.testBit_and, Bool.and_eq_true, Bool.and_eq_true] at hi
    rw [sdf_bit, Bool.and_eq_true]
    exact ⟨hi.1.2, hi.2⟩
  have tB : sbs (sdf (bs &&& S) (2 ^ w 1)) bs := fun i hi => by
    rw [sdf_bit, Nat.testBit_and, Bool.and_eq_true, Bool.and_eq_true] at hi
    exact hi.1.1
  have u1 : Sp 3 (rk (2 ^ e - 1)) e G (sdf (bs &&& S) (2 ^ w 1)) (fun r => sumI (fun i => yvS w a (M + 1) i * ((G i r : Nat) : Int)) e) := by
    refine (hU.sp hB he tB).mpr (fun b hb2 hbb hn => ?_)
    have hring : ∃ k, k ≤ 2 * M + 1 ∧ w k = b := Classical.byContradiction fun z => hn (by
      have hbS : S.testBit b = true := (hS b).mpr (Or.inl ⟨hbb, fun k hk y => z ⟨k, hk, y⟩⟩)
      rw [sdf_bit, Nat.testBit_and, hbb, hbS, p2_testBit, decide_eq_false (fun y => z ⟨1, by omega, y⟩)]; rfl)
    obtain ⟨k, k1, k2⟩ := hring
    have ke : k % 2 = 0 := (h3 k k1).mp (by rw [k2]; exact hbb)
    have q := van (k / 2) (by omega)
    rw [show 2 * (k / 2) = k by omega, k2] at q
    exact q
  have u2 := u1.mono tS
  have u3 : Sp 3 (rk (2 ^ e - 1)) e G (sdf S (2 ^ w 1)) (fun r => sumI (fun i => (if i = w 1 then 0 else yvS w a (M + 1) i) * ((G i r : Nat) : Int)) e) := ⟨fun i => if i = w 1 then 0 else yvS w a (M + 1) i, fun i hi hn => by
    show (if i = w 1 then (0 : Int) else yvS w a (M + 1) i) = 0
    by_cases g : i = w 1
    · rw [if_pos g]
    · rw [if_neg g]
      exact yd i hi (fun z => hn (by rw [sdf_bit, z, p2_testBit, decide_eq_false (fun y => g y.symm)]; rfl)), fun r _ => by rw [Int.sub_self]; exact Int.dvd_zero _⟩
  refine (u2.comb (-1) u3).congr (fun r _ => ?_)
  show _ ∣ ((G (w 1) r : Nat) : Int) - (sumI (fun i => yvS w a (M + 1) i * ((G i r : Nat) : Int)) e + (-1) * sumI (fun i => (if i = w 1 then 0 else yvS w a (M + 1) i) * ((G i r : Nat) : Int)) e)
  have e1 := sumI_put (a := fun i => yvS w a (M + 1) i * ((G i r : Nat) : Int)) (k := w 1) 0 e
  rw [if_pos (h1 1 (by omega))] at e1
  rw [sI_congr (a := fun i => (if i = w 1 then 0 else yvS w a (M + 1) i) * ((G i r : Nat) : Int)) (b := fun i => if i = w 1 then 0 else yvS w a (M + 1) i * ((G i r : Nat) : Int)) e (fun i _ => by
    show (if i = w 1 then (0 : Int) else yvS w a (M + 1) i) * _ = (if i = w 1 then (0 : Int) else yvS w a (M + 1) i * _)
    by_cases g : i = w 1
    · rw [if_pos g, if_pos g, Int.zero_mul]
    · rw [if_neg g, if_neg g]), e1, yw1, Int.one_mul]
  refine ⟨0, ?_⟩
  omega
theorem Ring.sign (hM : Mtr e rk) (h : Ring e bs G w a bL M) (hS : rgS bs w M S) (hSl : S < 2 ^ e) (hbc : bc S = bc bs) (hU : UM 3 (rk (2 ^ e - 1)) e bs G) (hB : BsP rk e bs) (hR : ∀ s, s < 2 ^ e → rkE 3 (rk (2 ^ e - 1)) G s = rk s) : bL = xor (rgD a M) (bsB rk e S) := by
  have he := hM.1
  have hf3 : (3 : Nat) = 2 ∨ (3 : Nat) = 3 ∨ (3 : Nat) = 5 := by omega
  have I := ind_iff he (rkE_spr (e := e) he hf3 hU.1) hSl
  rw [hR S hSl] at I
  have ib : bsB rk e S = true ↔ rk S = bc S := by
    rw [bsB_iff]
    have := hB.2.2
    omega
  by_cases g : bL = rgD a M
  · obtain ⟨z1, z2⟩ := h.dep2 hS hU hB he g
    have hn : ¬ bsB rk e S = true := fun y => (I.mp (ib.mp y)) _ z1 z2
    rw [Bool.not_eq_true] at hn
    rw [hn, Bool.xor_false]; exact g
  · have hy : bsB rk e S = true := by
      refine ib.mpr (I.mpr (fun x hx z => g ?_))
      have hxe := bit_lt10 hSl hx
      obtain ⟨c, c1, c2⟩ := z
      refine h.dep1 hS hU hB he (d := fun i => if i = x then -1 else c i) (fun i hi hn => ?_) (fun r hr => ?_) hxe hx (if_pos rfl)
      · show (if i = x then (-1 : Int) else c i) = 0
        rw [if_neg (fun y => hn (by rw [y]; exact hx))]
        exact c1 i hi (fun y => hn (sbs_rem S x i y))
      · have q := c2 r hr
        have e1 := sumI_put (a := fun i => c i * ((G i r : Nat) : Int)) (k := x) (-((G x r : Nat) : Int)) e
        rw [if_pos hxe] at e1
        have cx : c x = 0 := c1 x hxe rem_nt
        rw [sI_congr (a := fun i => (if i = x then (-1 : Int) else c i) * ((G i r : Nat) : Int)) (b := fun i => if i = x then -((G x r : Nat) : Int) else c i * ((G i r : Nat) : Int)) e (fun i _ => by
          show (if i = x then (-1 : Int) else c i) * _ = (if i = x then -((G x r : Nat) : Int) else c i * _)
          by_cases y : i = x
          · subst y; rw [if_pos rfl, if_pos rfl]; omega
          · rw [if_neg y, if_neg y]), e1, cx, Int.zero_mul]
        have q2 := Int.dvd_neg.mpr q
        have e2 : -(cz G x r - sumI (fun i => c i * ((G i r : Nat) : Int)) e) = sumI (fun i => c i * ((G i r : Nat) : Int)) e - 0 + -((G x r : Nat) : Int) := by
          show -(((G x r : Nat) : Int) - _) = _
          omega
        rw [e2] at q2
        exact q2
    rw [hy]
    cases hd : rgD a M <;> cases hl : bL
    · rw [hd, hl] at g; exact absurd rfl g
    · rfl
    · rfl
    · rw [hd, hl] at g; exact absurd rfl g
end At
