/-! BITS: sets as numbers. Own text. -/
/-- the elements of a that b has not -/
def sdf (a b : Nat) : Nat := a ^^^ (a &&& b)
theorem sdf_bit (a b i : Nat) : (sdf a b).testBit i = (a.testBit i && !b.testBit i) := by
  unfold sdf
  rw [Nat.testBit_xor, Nat.testBit_and]
  cases a.testBit i <;> cases b.testBit i <;> rfl
theorem sdf_le (a b : Nat) : sdf a b ≤ a := by
  have e : sdf a b = sdf a b &&& a := by
    apply Nat.eq_of_testBit_eq
    intro i
    rw [Nat.testBit_and, sdf_bit]
    cases a.testBit i <;> cases b.testBit i <;> rfl
  rw [e]
  exact Nat.and_le_right
theorem ofI_andn (a b : Nat) : Int32.ofInt (a : Int) &&& (Int32.ofInt (b : Int) ^^^ Int32.ofInt (-1)) = Int32.ofInt ((sdf a b : Nat) : Int) := by
  apply bv_inj
  rw [Int32.toBitVec_and, Int32.toBitVec_xor]
  have em : (Int32.ofInt (-1)).toBitVec = BitVec.allOnes 32 := by decide
  rw [em]
  simp only [ofI_nat, nI_bv]
  apply BitVec.eq_of_getLsbD_eq
  intro i hi
  simp only [BitVec.getLsbD_and, BitVec.getLsbD_xor, BitVec.getLsbD_ofNat, BitVec.getLsbD_allOnes, hi, decide_true, Bool.true_and, sdf_bit, Bool.xor_true]
theorem bit_two (i j : Nat) : (2 ^ i).testBit j = decide (i = j) := Nat.testBit_two_pow
theorem shl1 (e : Nat) : 1 <<< e = 2 ^ e := Nat.one_shiftLeft e
theorem and_bit0 (s i : Nat) : s &&& 2 ^ i = 0 ↔ s.testBit i = false := by
  constructor
  · intro h
    have h2 := congrArg (fun z => z.testBit i) h
    simpa [Nat.testBit_and, Nat.testBit_two_pow] using h2
  · intro h
    apply Nat.eq_of_testBit_eq
    intro j
    rw [Nat.testBit_and, bit_two, Nat.zero_testBit]
    by_cases e : i = j
    · subst e; rw [h]; rfl
    · rw [decide_eq_false e, Bool.and_false]
theorem and_bit1 (s i : Nat) : ¬ s &&& 2 ^ i = 0 ↔ s.testBit i = true := by
  rw [and_bit0]; simp
section LY7
variable {X : Cx} {own : String} {cc : ByteArray} {nL : Nat} {ret : Option FieldType} {nm : String} {d : Nat} {post : Option Value → AH → Prop} {px : String → AH → Prop} {h : AH} {k sl pc : Nat} {ls : List Slot} {rest : List Value}
theorem wn_andn (hX : Ok X own cc nL ret nm d post px) {x y : Int} {a b : Nat} (dg : decode cc pc = .ok (.iand, 1)) (hx : x = (a : Int)) (hy : y = (b : Int)) (k' : WA X h k sl (pc + 1) ls (I ((sdf a b : Nat) : Int) :: rest)) : WA X h k sl pc ls (.int (Int32.ofInt y ^^^ Int32.ofInt (-1)) :: I x :: rest) := by
  subst hx; subst hy
  refine wa_iand hX dg ?_
  rw [ofI_andn]
  exact k'
end LY7
