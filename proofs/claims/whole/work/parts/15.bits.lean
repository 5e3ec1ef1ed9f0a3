/-! BITS: sets as numbers. Own text. -/
/-- the elements of a that b has not -/
def sdf (a b : Nat) : Nat := a ^^^ (a &&& b)
theorem sdf_bit (a b i : Nat) : (sdf a b).testBit i = (a.testBit i && !b.testBit i) := by
  unfold sdf
  rw [Nat.testBit_xor, Nat.testBit_and]
  cases a.testBit i <;> cases b.testBit i <;> rfl
theorem sdf_le (a b : Nat) : sdf a b ≤ a := by
  have e : sdf a b = sdf a b &&& a := by
    apply Nat.eq_of_testBit_eq
    intro i
    rw [Nat.testBit_and, sdf_bit]
    cases a.testBit i <;> cases b.testBit i <;> rfl
  rw [e]
  exact Nat.and_le_right
theorem ofI_andn (a b : Nat) : Int32.ofInt (a : Int) &&& (Int32.ofInt (b : Int) ^^^ Int32.ofInt (-1)) = Int32.ofInt ((sdf a b : Nat) : Int) := by
  apply bv_inj
  rw [Int32.toBitVec_and, Int32.toBitVec_xor]
  have em : (Int32.ofInt (-1)).toBitVec = BitVec.allOnes 32 := by decide
  rw [em]
  simp only [ofI_nat, nI_bv]
  apply BitVec.eq_of_getLsbD_eq
  intro i hi
  simp only [BitVec.getLsbD_and, BitVec.getLsbD_xor, BitVec.getLsbD_ofNat, BitVec.getLsbD_allOnes, hi, decide_true, Bool.true_and, sdf_bit, Bool.xor_true]
theorem bit_two (i j : Nat) : (2 ^ i).testBit j = decide (i = j) := Nat.testBit_two_pow
theorem shl1 (e : Nat) : 1 <<< e = 2 ^ e := Nat.one_shiftLeft e
theorem and_bit0 (s i : Nat) : s &&& 2 ^ i = 0 ↔ s.testBit i = false := by
  constructor
  · intro h
    have h2 := congrArg (fun z => z.testBit i) h
    simpa [Nat.testBit_and, Nat.testBit_two_pow] using h2
  · intro h
    apply Nat.eq_of_testBit_eq
    intro j
    rw [Nat.testBit_and, bit_two, Nat.zero_testBit]
    by_cases e : i = j
    · subst e; rw [h]; rfl
    · rw [decide_eq_false e, Bool.and_false]
theorem and_bit1 (s i : Nat) : ¬ s &&& 2 ^ i = 0 ↔ s.testBit i = true := by
  rw [and_bit0]; simp
section LY7
variable {X : Cx} {own : String} {cc : ByteArray} {nL : Nat} {ret : Option FieldType} {nm : String} {d : Nat} {post : Option Value → AH → Prop} {px : String → AH → Prop} {h : AH} {k sl pc : Nat} {ls : List Slot} {rest : List Value}
theorem wn_andn (hX : Ok X own cc nL ret nm d post px) {x y : Int} {a b : Nat} (dg : decode cc pc = .ok (.iand, 1)) (hx : x = (a : Int)) (hy : y = (b : Int)) (k' : WA X h k sl (pc + 1) ls (I ((sdf a b : Nat) : Int) :: rest)) : WA X h k sl pc ls (.int (Int32.ofInt y ^^^ Int32.ofInt (-1)) :: I x :: rest) := by
  subst hx; subst hy
  refine wa_iand hX dg ?_
  rw [ofI_andn]
  exact k'
theorem wn_shl1 (hX : Ok X own cc nL ret nm d post px) {y : Int} {b : Nat} (dg : decode cc pc = .ok (.ishl, 1)) (hy : y = (b : Int)) (hb : b < 32) (k' : WA X h k sl (pc + 1) ls (I ((2 ^ b : Nat) : Int) :: rest)) : WA X h k sl pc ls (I y :: I 1 :: rest) := by
  refine wn_ishl hX dg (a := 1) (b := b) (by rfl) hy hb ?_
  rw [Nat.one_shiftLeft]
  exact k'
end LY7
theorem inR_nat {a : Nat} (h : a < 2147483648) : inR (a : Int) := by
  unfold inR
  omega
/-- how many numbers below n p holds of -/
def cnt (p : Nat → Bool) : Nat → Nat
  | 0 => 0
  | n + 1 => cnt p n + (if p n then 1 else 0)
theorem cnt_le (p : Nat → Bool) (n : Nat) : cnt p n ≤ n := by
  induction n with
  | zero => exact Nat.le_refl 0
  | succ n ih => unfold cnt; split <;> omega
theorem cnt_y {p : Nat → Bool} {n : Nat} (h : p n = true) : cnt p (n + 1) = cnt p n + 1 := by
  show cnt p n + (if p n = true then 1 else 0) = _
  rw [if_pos h]
theorem cnt_n {p : Nat → Bool} {n : Nat} (h : ¬ p n = true) : cnt p (n + 1) = cnt p n := by
  show cnt p n + (if p n = true then 1 else 0) = _
  rw [if_neg h]
  omega
/-- the first number below n that p holds of -/
def fst (p : Nat → Bool) : Nat → Option Nat
  | 0 => none
  | n + 1 => match fst p n with
    | some s => some s
    | none => if p n then some n else none
theorem fst_none {p : Nat → Bool} {n : Nat} (h : ∀ j, j < n → p j = false) : fst p n = none := by
  induction n with
  | zero => rfl
  | succ n ih =>
    unfold fst
    rw [ih (fun j hj => h j (by omega))]
    simp [h n (by omega)]
theorem fst_some {p : Nat → Bool} {n i : Nat} (hi : i < n) (h : ∀ j, j < i → p j = false) (hp : p i = true) : fst p n = some i := by
  induction n with
  | zero => omega
  | succ n ih =>
    unfold fst
    rcases Nat.lt_succ_iff_lt_or_eq.mp hi with e | e
    · rw [ih e]
    · subst e
      rw [fst_none h]
      simp [hp]
/-- the set of the elements below n that p holds of -/
def orB (p : Nat → Bool) : Nat → Nat
  | 0 => 0
  | n + 1 => orB p n ||| (if p n then 2 ^ n else 0)
theorem orB_y {p : Nat → Bool} {n : Nat} (h : p n = true) : orB p (n + 1) = orB p n ||| 2 ^ n := by
  show orB p n ||| (if p n = true then 2 ^ n else 0) = _
  rw [if_pos h]
theorem orB_n {p : Nat → Bool} {n : Nat} (h : ¬ p n = true) : orB p (n + 1) = orB p n := by
  show orB p n ||| (if p n = true then 2 ^ n else 0) = _
  rw [if_neg h, Nat.or_zero]
theorem orB_bit (p : Nat → Bool) (n i : Nat) : (orB p n).testBit i = (decide (i < n) && p i) := by
  induction n with
  | zero => simp [orB]
  | succ n ih =>
    by_cases hp : p n = true
    · rw [orB_y hp, Nat.testBit_or, ih, bit_two]
      by_cases e : n = i
      · subst e; simp [hp]
      · have : (i < n + 1) ↔ i < n := by omega
        simp [e, this]
    · rw [orB_n hp, ih]
      by_cases e : n = i
      · subst e; simp [hp]
      · have : (i < n + 1) ↔ i < n := by omega
        simp [this]
/-- the elements of all sets below n that p holds of -/
def orN (p : Nat → Bool) : Nat → Nat
  | 0 => 0
  | n + 1 => orN p n ||| (if p n then n else 0)
theorem orN_y {p : Nat → Bool} {n : Nat} (h : p n = true) : orN p (n + 1) = orN p n ||| n := by
  show orN p n ||| (if p n = true then n else 0) = _
  rw [if_pos h]
theorem orN_n {p : Nat → Bool} {n : Nat} (h : ¬ p n = true) : orN p (n + 1) = orN p n := by
  show orN p n ||| (if p n = true then n else 0) = _
  rw [if_neg h, Nat.or_zero]
theorem orN_lt {p : Nat → Bool} {e n : Nat} (h : n ≤ 2 ^ e) : orN p n < 2 ^ e := by
  induction n with
  | zero => exact Nat.pow_pos (by omega)
  | succ n ih =>
    have := ih (by omega)
    by_cases hp : p n = true
    · rw [orN_y hp]; exact Nat.or_lt_two_pow this (by omega)
    · rw [orN_n hp]; exact this
theorem orN_bit (p : Nat → Bool) (n i : Nat) : (orN p n).testBit i = true ↔ ∃ s, s < n ∧ p s = true ∧ s.testBit i = true := by
  induction n with
  | zero => simp [orN]
  | succ n ih =>
    by_cases hp : p n = true
    · rw [orN_y hp, Nat.testBit_or, Bool.or_eq_true, ih]
      constructor
      · rintro (⟨s, h1, h2, h3⟩ | h)
        · exact ⟨s, by omega, h2, h3⟩
        · exact ⟨n, by omega, hp, h⟩
      · rintro ⟨s, h1, h2, h3⟩
        rcases Nat.lt_succ_iff_lt_or_eq.mp h1 with e | e
        · exact Or.inl ⟨s, e, h2, h3⟩
        · subst e; exact Or.inr h3
    · rw [orN_n hp, ih]
      constructor
      · rintro ⟨s, h1, h2, h3⟩; exact ⟨s, by omega, h2, h3⟩
      · rintro ⟨s, h1, h2, h3⟩
        rcases Nat.lt_succ_iff_lt_or_eq.mp h1 with e | e
        · exact ⟨s, e, h2, h3⟩
        · subst e; exact absurd h2 hp
theorem bit_lt {el e : Nat} (h : el < e) : 2 ^ el < 2 ^ e := Nat.pow_lt_pow_right (by omega) h
theorem or_lt {a b e : Nat} (ha : a < 2 ^ e) (hb : b < 2 ^ e) : a ||| b < 2 ^ e := Nat.or_lt_two_pow ha hb
theorem sdf_lt {a b n : Nat} (ha : a < n) : sdf a b < n := Nat.lt_of_le_of_lt (sdf_le a b) ha
theorem and_ltl {a b n : Nat} (ha : a < n) : a &&& b < n := Nat.lt_of_le_of_lt Nat.and_le_left ha
theorem and_ltr {a b n : Nat} (hb : b < n) : a &&& b < n := Nat.lt_of_le_of_lt Nat.and_le_right hb
theorem and_c0 {s i : Nat} (h : ((s &&& 2 ^ i : Nat) : Int) = 0) : s.testBit i = false := (and_bit0 s i).mp (by omega)
theorem and_c1 {s i : Nat} (h : ¬ ((s &&& 2 ^ i : Nat) : Int) = 0) : s.testBit i = true := (and_bit1 s i).mp (by omega)
theorem sdf_self {a b : Nat} : sdf a b = a ↔ a &&& b = 0 := by
  unfold sdf
  constructor
  · intro h
    have h2 : a ^^^ (a ^^^ (a &&& b)) = a ^^^ a := by rw [h]
    rw [← Nat.xor_assoc, Nat.xor_self, Nat.zero_xor] at h2
    exact h2
  · intro h
    rw [h, Nat.xor_zero]
