/-! The mathematics: drawings: what the class's columns are; a matrix by its digits -/
section Aq
variable {e f bs : Nat} {sf rk : Nat → Nat}
theorem jnR_keep {J : Nat → Nat} {el : Nat} (h : ∀ i, (J el).testBit i = true → bs.testBit i = true) (hel : ¬ bs.testBit el = true) : ∀ n j, ¬ bs.testBit j = true → jnR J el n j = J j := by
  intro n
  induction n with
  | zero => intro j _; rfl
  | succ n ih =>
    intro j hj
    unfold jnR
    split
    · rename_i g
      rw [ih el hel] at g
      have hn : j ≠ n := fun z => hj (by rw [z]; exact h n g)
      rw [up_n hn]
      exact ih j hj
    · exact ih j hj
theorem drJ_ok {J0 : Nat → Nat} : ∀ n c, c < n → ¬ bs.testBit c = true → jnO sf e bs J0 n c = sdf (cirN sf e bs c) (2 ^ c) := by
  intro n
  induction n with
  | zero => intro c hc; omega
  | succ n ih =>
    intro c hc hb
    unfold jnO
    by_cases g : bs.testBit n = true
    · rw [if_pos g]
      exact ih c (by
        have : c ≠ n := fun z => hb (by rw [z]; exact g)
        omega) hb
    · rw [if_neg g]
      have hbits : ∀ i, (up (jnO sf e bs J0 n) n (sdf (cirN sf e bs n) (2 ^ n)) n).testBit i = true → bs.testBit i = true := fun i hi => by
        rw [up_s, sdf_bit, p2_testBit] at hi
        unfold cirN at hi
        rw [Nat.testBit_or, p2_testBit, orB_bit] at hi
        by_cases z : n = i
        · rw [decide_eq_true z] at hi
          rw [Bool.not_true, Bool.and_false] at hi
          cases hi
        · rw [decide_eq_false z, Bool.false_or, Bool.not_false, Bool.and_true, Bool.and_eq_true, Bool.and_eq_true] at hi
          exact hi.2.1
      rw [jnR_keep hbits g 10 c hb]
      by_cases z : c = n
      · subst z; rw [up_s]
      · rw [up_n z]; exact ih c (by omega) hb
theorem drJ_bit {c b : Nat} (hc : c < e) (hb : ¬ bs.testBit c = true) : (drJ sf e bs c).testBit b = (decide (b < e) && (bs.testBit b && (sf (sdf bs (2 ^ b) ||| 2 ^ c) &&& 2 != 0))) := by
  unfold drJ
  rw [drJ_ok e c hc hb, sdf_bit, p2_testBit]
  unfold cirN
  rw [Nat.testBit_or, p2_testBit, orB_bit]
  by_cases z : c = b
  · subst z
    rw [Bool.not_eq_true] at hb
    rw [decide_eq_true rfl, hb]
    simp
  · rw [decide_eq_false z]
    simp
theorem fcI_at {J N : Nat → Nat} {nm row : Nat} {G : Nat → Nat → Nat} : ∀ n c r, fcI J N bs nm row G n c r = if c < n ∧ r = row ∧ isE J bs c nm = true then (if (N c).testBit nm = true then 2 else 1) else G c r := by
  intro n
  induction n with
  | zero => intro c r; rw [if_neg (fun z => absurd z.1 (Nat.not_lt_zero c))]; rfl
  | succ n ih =>
    intro c r
    unfold fcI
    by_cases g : isE J bs n nm = true
    · rw [if_pos g]
      unfold cup
      by_cases gc : c = n
      · subst gc
        rw [if_pos rfl]
        by_cases gr : r = row
        · subst gr
          rw [up_s, if_pos (show c < c + 1 ∧ r = r ∧ isE J bs c nm = true from ⟨Nat.lt_succ_self c, rfl, g⟩)]
        · rw [up_n gr, if_neg (fun z => gr z.2.1), ih, if_neg (fun z => gr z.2.1)]
      · rw [if_neg gc, ih]
        by_cases z : c < n ∧ r = row ∧ isE J bs c nm = true
        · rw [if_pos z, if_pos (show c < n + 1 ∧ r = row ∧ isE J bs c nm = true from ⟨by omega, z.2⟩)]
        · rw [if_neg z, if_neg (fun y => z ⟨by omega, y.2⟩)]
    · rw [if_neg g, ih]
      by_cases z : c < n ∧ r = row ∧ isE J bs c nm = true
      · rw [if_pos z, if_pos (show c < n + 1 ∧ r = row ∧ isE J bs c nm = true from ⟨by omega, z.2⟩)]
      · rw [if_neg z, if_neg (fun y => by
          by_cases gc : c = n
          · subst gc; exact g y.2.2
          · exact z ⟨by omega, y.2⟩)]
/-- the row of an element of the basis -/
abbrev ixB (bs b : Nat) : Nat := cnt (fun k => bs.testBit k) b
theorem ix_lt {a b : Nat} (h : a < b) (ha : bs.testBit a = true) : ixB bs a < ixB bs b := by
  have q := cnt_mono (p := fun k => bs.testBit k) (show a + 1 ≤ b from h)
  rw [cnt_y (p := fun k => bs.testBit k) ha] at q
  exact q
theorem ix_inj {a b : Nat} (ha : bs.testBit a = true) (hb : bs.testBit b = true) (h : ixB bs a = ixB bs b) : a = b := cnt_inj (p := fun k => bs.testBit k) ha hb h
theorem ix_sur {r : Nat} : ∀ n, r < ixB bs n → ∃ b, b < n ∧ bs.testBit b = true ∧ ixB bs b = r := by
  intro n
  induction n with
  | zero => intro h; exact absurd h (Nat.not_lt_zero r)
  | succ n ih =>
    intro h
    by_cases g : bs.testBit n = true
    · rw [show ixB bs (n + 1) = ixB bs n + 1 from cnt_y (p := fun k => bs.testBit k) g] at h
      by_cases z : r = ixB bs n
      · exact ⟨n, by omega, g, z.symm⟩
      · obtain ⟨b, h1, h2⟩ := ih (by omega)
        exact ⟨b, by omega, h2⟩
    · rw [show ixB bs (n + 1) = ixB bs n from cnt_n (p := fun k => bs.testBit k) g] at h
      obtain ⟨b, h1, h2⟩ := ih h
      exact ⟨b, by omega, h2⟩
theorem fcO_at {J N : Nat → Nat} : ∀ n, n ≤ e → (∀ b, b < n → bs.testBit b = true → ∀ c, c < e → fcO J N bs e (fun _ _ => 0) n c (ixB bs b) = if c = b then 1 else if isE J bs c b = true then (if (N c).testBit b = true then 2 else 1) else 0) ∧ ∀ c r, ixB bs n ≤ r → fcO J N bs e (fun _ _ => 0) n c r = 0 := by
  intro n
  induction n with
  | zero => intro _; exact ⟨fun b hb => absurd hb (Nat.not_lt_zero b), fun _ _ _ => rfl⟩
  | succ n ih =>
    intro hn
    obtain ⟨i1, i2⟩ := ih (by omega)
    unfold fcO
    by_cases g : bs.testBit n = true
    · rw [if_pos g]
      have hx : ixB bs (n + 1) = ixB bs n + 1 := cnt_y (p := fun k => bs.testBit k) g
      refine ⟨fun b hb hbb c hc => ?_, fun c r hr => ?_⟩
      · rw [fcI_at]
        by_cases gb : b = n
        · subst gb
          have nn : ¬ isE J bs b b = true := fun z => by
            unfold isE at z
            rw [g] at z; cases z
          unfold cup
          by_cases gc : c = b
          · subst gc
            rw [if_neg (fun z => nn z.2.2), if_pos rfl, up_s, if_pos rfl]
          · rw [if_neg gc, if_neg gc, i2 c _ (Nat.le_refl _)]
            by_cases z : isE J bs c b = true
            · rw [if_pos ⟨hc, rfl, z⟩, if_pos z]
            · rw [if_neg (fun y => z y.2.2), if_neg z]
        · have hlt := ix_lt (bs := bs) (show b < n by omega) hbb
          have hne : ixB bs b ≠ ixB bs n := by omega
          rw [if_neg (fun z => hne z.2.1)]
          unfold cup
          have e1 : (if c = n then up (fcO J N bs e (fun _ _ => 0) n n) (cnt (fun k => bs.testBit k) n) 1 else fcO J N bs e (fun _ _ => 0) n c) (ixB bs b) = fcO J N bs e (fun _ _ => 0) n c (ixB bs b) := by
            by_cases gc : c = n
            · subst gc; rw [if_pos rfl, up_n hne]
            · rw [if_neg gc]
          rw [e1]
          exact i1 b (by omega) hbb c hc
      · rw [fcI_at, if_neg (fun z => by
          have y : r = ixB bs n := z.2.1
          omega)]
        unfold cup
        have hne : r ≠ ixB bs n := by omega
        by_cases gc : c = n
        · subst gc; rw [if_pos rfl, up_n hne]; exact i2 c r (by omega)
        · rw [if_neg gc]; exact i2 c r (by omega)
    · rw [if_neg g]
      have hx : ixB bs (n + 1) = ixB bs n := cnt_n (p := fun k => bs.testBit k) g
      refine ⟨fun b hb hbb c hc => ?_, fun c r hr => i2 c r (by omega)⟩
      refine i1 b (by
        have : b ≠ n := fun z => g (by rw [← z]; exact hbb)
        omega) hbb c hc
theorem drG_at {b c : Nat} (hb : b < e) (hbb : bs.testBit b = true) (hc : c < e) : drG sf e bs f c (ixB bs b) = if c = b then 1 else if isE (drJ sf e bs) bs c b = true then (if (drN sf e bs f c).testBit b = true then 2 else 1) else 0 := (fcO_at e (Nat.le_refl e)).1 b hb hbb c hc
/-- the number of the digits g 0, g 1, .. -/
def dgN (f : Nat) (g : Nat → Nat) : Nat → Nat
  | 0 => 0
  | n + 1 => dgN f g n * f + g n
theorem dgN_lt {g : Nat → Nat} (hf : 0 < f) : ∀ n, (∀ r, r < n → g r < f) → dgN f g n < f ^ n := by
  intro n
  induction n with
  | zero => intro _; rw [Nat.pow_zero]; exact Nat.zero_lt_one
  | succ n ih =>
    intro h
    have i := ih (fun r hr => h r (by omega))
    have q := h n (by omega)
    show dgN f g n * f + g n < f ^ (n + 1)
    rw [Nat.pow_succ]
    have : (dgN f g n + 1) * f ≤ f ^ n * f := Nat.mul_le_mul_right f i
    rw [Nat.add_mul, Nat.one_mul] at this
    omega
theorem dgN_at {g : Nat → Nat} (hf : 0 < f) : ∀ n, (∀ r, r < n → g r < f) → ∀ r, r < n → dgN f g n / f ^ (n - 1 - r) % f = g r := by
  intro n
  induction n with
  | zero => intro _ r hr; omega
  | succ n ih =>
    intro h r hr
    show (dgN f g n * f + g n) / f ^ (n + 1 - 1 - r) % f = g r
    by_cases z : r = n
    · subst z
      rw [show r + 1 - 1 - r = 0 by omega, Nat.pow_zero, Nat.div_one, Nat.mul_add_mod_self_right, Nat.mod_eq_of_lt (h r (by omega))]
    · rw [show n + 1 - 1 - r = (n - 1 - r) + 1 by omega, Nat.pow_succ, Nat.mul_comm (f ^ (n - 1 - r)) f, ← Nat.div_div_eq_div_mul, Nat.mul_comm (dgN f g n) f, Nat.mul_add_div hf, Nat.div_eq_of_lt (h n (by omega)), Nat.add_zero]
      exact ih (fun r hr => h r (by omega)) r (by omega)
/-- numbers are told by their digits, and ordered by the first that differs -/
theorem dg_pre {n x y : Nat} (hf : 0 < f) (hx : x < f ^ n) (hy : y < f ^ n) : ∀ k, k ≤ n → (∀ r, r < k → x / f ^ (n - 1 - r) % f = y / f ^ (n - 1 - r) % f) → x / f ^ (n - k) = y / f ^ (n - k) := by
  intro k
  induction k with
  | zero => intro _ _; rw [Nat.sub_zero, Nat.div_eq_of_lt hx, Nat.div_eq_of_lt hy]
  | succ k ih =>
    intro hk h
    have i := ih (by omega) (fun r hr => h r (by omega))
    have q := h k (by omega)
    have ex : n - k = (n - 1 - k) + 1 := by omega
    have ez : n - (k + 1) = n - 1 - k := by omega
    rw [ex, Nat.pow_succ, ← Nat.div_div_eq_div_mul, ← Nat.div_div_eq_div_mul] at i
    rw [ez]
    have a := Nat.div_add_mod (x / f ^ (n - 1 - k)) f
    have b := Nat.div_add_mod (y / f ^ (n - 1 - k)) f
    rw [i, q] at a
    omega
theorem dg_eq {n x y : Nat} (hf : 0 < f) (hx : x < f ^ n) (hy : y < f ^ n) (h : ∀ r, r < n → x / f ^ (n - 1 - r) % f = y / f ^ (n - 1 - r) % f) : x = y := by
  have q := dg_pre hf hx hy n (Nat.le_refl n) h
  rw [Nat.sub_self, Nat.pow_zero, Nat.div_one, Nat.div_one] at q
  exact q
theorem dg_lt {n x y k : Nat} (hf : 0 < f) (hx : x < f ^ n) (hy : y < f ^ n) (hk : k < n) (h : ∀ r, r < k → x / f ^ (n - 1 - r) % f = y / f ^ (n - 1 - r) % f) (h2 : x / f ^ (n - 1 - k) % f < y / f ^ (n - 1 - k) % f) : x < y := by
  have i := dg_pre hf hx hy k (by omega) h
  have ex : n - k = (n - 1 - k) + 1 := by omega
  rw [ex, Nat.pow_succ, ← Nat.div_div_eq_div_mul, ← Nat.div_div_eq_div_mul] at i
  have a := Nat.div_add_mod (x / f ^ (n - 1 - k)) f
  have b := Nat.div_add_mod (y / f ^ (n - 1 - k)) f
  rw [i] at a
  apply Classical.byContradiction
  intro z
  have q : y / f ^ (n - 1 - k) ≤ x / f ^ (n - 1 - k) := Nat.div_le_div_right (by omega)
  omega
/-- a matrix with a 1 for each element of the basis -/
def UM (f rows e bs : Nat) (G : Nat → Nat → Nat) : Prop := (∀ c r, r < rows → G c r < f) ∧ ∀ b, b < e → bs.testBit b = true → ∀ r, r < rows → G b r = if r = ixB bs b then 1 else 0
/-- its columns as numbers -/
def wyG (f rows bs : Nat) (G : Nat → Nat → Nat) (c : Nat) : Nat := if bs.testBit c = true then 0 else dgN f (G c) rows
theorem ix_bc (he : e ≤ 10) (hbs : bs < 2 ^ e) {c : Nat} (hc : c < e) : bc (bs &&& (2 ^ c - 1)) = ixB bs c := by
  have hp := p2_pos c
  have h1 : bs &&& (2 ^ c - 1) < 2 ^ c := Nat.lt_of_le_of_lt Nat.and_le_right (by omega)
  rw [← cnt_bc c (by omega) _ h1]
  exact cnt_same c (fun s hs => by
    rw [Nat.testBit_and, all1 hs, Bool.and_true])
theorem mW_wyG (he : e ≤ 10) (hbs : bs < 2 ^ e) {rows : Nat} {G : Nat → Nat → Nat} (hf : 0 < f) (h : UM f rows e bs G) {c r : Nat} (hc : c < e) (hr : r < rows) : mW f rows bs (wyG f rows bs G) e c r = G c r := by
  unfold mW
  rw [if_pos hc]
  unfold cV wyG
  by_cases g : bs.testBit c = true
  · rw [if_pos g, ix_bc he hbs hc, h.2 c hc g r hr]
  · rw [if_neg g, if_neg g]
    exact dgN_at hf rows (fun r hr => h.1 c r hr) r hr
theorem wyG_lt {rows : Nat} {G : Nat → Nat → Nat} (hf : 0 < f) (h : UM f rows e bs G) (c : Nat) : wyG f rows bs G c < wayN f rows bs c := by
  unfold wyG wayN
  split
  · exact Nat.zero_lt_one
  · exact dgN_lt hf rows (fun r hr => h.1 c r hr)
theorem mW_UM (he : e ≤ 10) (hbs : bs < 2 ^ e) (hf : 1 < f) {rows : Nat} {wy : Nat → Nat} : UM f rows e bs (mW f rows bs wy e) := by
  refine ⟨fun c r hr => ?_, fun b hb hbb r hr => ?_⟩
  · unfold mW
    split
    · unfold cV
      split
      · split <;> omega
      · exact Nat.mod_lt _ (by omega)
    · omega
  · unfold mW
    rw [if_pos hb]
    unfold cV
    rw [if_pos hbb, ix_bc he hbs hb]
end Aq
