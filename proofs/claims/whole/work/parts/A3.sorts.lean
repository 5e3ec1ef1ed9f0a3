/-! The mathematics: flats, hyperplanes, what makers ask -/
section A3
variable {e : Nat} {rk : Nat → Nat}
theorem clo_bit {s i : Nat} : (cloN rk e s).testBit i = (s.testBit i || (decide (i < e) && (rk (s ||| 2 ^ i) == rk s))) := by
  unfold cloN
  rw [Nat.testBit_or, orB_bit]
theorem fltB_iff {s : Nat} : fltB rk e s = true ↔ ∀ k, k < e → rk (s ||| 2 ^ k) = rk s → s.testBit k = true := by
  unfold fltB
  rw [beq_iff_eq]
  constructor
  · intro h k hk q
    have b : (cloN rk e s).testBit k = true := by
      rw [clo_bit, decide_eq_true hk, beq_iff_eq.mpr q]
      cases s.testBit k <;> rfl
    rw [h] at b
    exact b
  · intro h
    apply Nat.eq_of_testBit_eq
    intro i
    rw [clo_bit]
    cases hb : s.testBit i
    · by_cases g : i < e
      · by_cases q : rk (s ||| 2 ^ i) = rk s
        · rw [h i g q] at hb; cases hb
        · rw [beq_eq_false_iff_ne.mpr q, Bool.and_false]; rfl
      · rw [decide_eq_false g]; rfl
    · rfl
theorem Mtr.flt (hM : Mtr e rk) {s : Nat} (hs : s < 2 ^ e) : flatN rk e s = fltB rk e s := by
  rw [Bool.eq_iff_iff, fltB_iff]
  unfold flatN
  rw [allB_iff]
  constructor
  · intro h k hk q
    have z := h k hk
    cases hb : s.testBit k
    · rw [hb, Bool.false_or, decide_eq_true_eq, xor_out (by rw [hb]; exact Bool.false_ne_true)] at z
      omega
    · rfl
  · intro h k hk
    cases hb : s.testBit k
    · have nb : ¬ s.testBit k = true := by rw [hb]; exact Bool.false_ne_true
      rw [Bool.false_or, decide_eq_true_eq, xor_out nb]
      have a := hM.2.2.1 s k hs hk
      have b : rk (s ||| 2 ^ k) ≠ rk s := fun q => nb (h k hk q)
      omega
    · rfl
theorem Mtr.hyp (hM : Mtr e rk) {s : Nat} (hs : s < 2 ^ e) : (sortN rk e s &&& 16 != 0) = hypB rk e s := by
  rw [srt_hyp, hM.flt hs]
  unfold hypB
  congr 1
  rw [Bool.eq_iff_iff, decide_eq_true_eq, decide_eq_true_eq]
  omega
theorem Mtr.srtC (hM : Mtr e rk) {s : Nat} (hs : s < 2 ^ e) : (sortN rk e s &&& 4 != 0) = cirM rk s e := by
  rw [srt_cir]
  exact hM.circ hs
theorem Mtr.srtF (hM : Mtr e rk) {s : Nat} (hs : s < 2 ^ e) : (sortN rk e s &&& 8 != 0) = fltB rk e s := by
  rw [srt_flt]
  exact hM.flt hs
theorem sortI9 {s : Nat} : (sortN rk e s &&& 1 != 0) = frB rk s := by
  rw [Bool.eq_iff_iff, srt_ind]
  unfold frB
  rw [beq_iff_eq]
theorem sortB9 {s : Nat} : (sortN rk e s &&& 2 != 0) = bsB rk e s := by
  rw [Bool.eq_iff_iff, srt_bas]
  unfold bsB frB
  rw [Bool.and_eq_true, beq_iff_eq, beq_iff_eq]
  constructor
  · rintro ⟨h1, h2⟩; exact ⟨h1, by omega⟩
  · rintro ⟨h1, h2⟩; exact ⟨h1, by omega⟩
theorem Mtr.relaxR (hM : Mtr e rk) {t : Nat} (ht : t < 2 ^ e) (h1 : (sortN rk e t &&& 4 != 0) = true) (h2 : (sortN rk e t &&& 16 != 0) = true) : Mtr e (fun s => if s = t then rk (2 ^ e - 1) else rk s) := by
  rw [srt_cir] at h1
  unfold circN at h1
  rw [Bool.and_eq_true, decide_eq_true_eq, allB_iff] at h1
  obtain ⟨h3, h4⟩ := h1
  rw [srt_hyp, Bool.and_eq_true, decide_eq_true_eq, hM.flt ht, fltB_iff] at h2
  obtain ⟨h5, h6⟩ := h2
  refine hM.relax ht h6 (fun x hx g => ?_) (fun x hx g => ?_) h3
  · have a := hM.2.2.1 t x ht hx
    have b := hM.le_all (or_lt ht (bit_lt hx))
    have c : rk (t ||| 2 ^ x) ≠ rk t := fun q => g (h5 x hx q)
    omega
  · have q := h4 x hx
    rw [g, Bool.not_true, Bool.false_or, decide_eq_true_eq, xor_in g] at q
    have b := bc_rem hM.1 ht hx g
    omega
theorem Mtr.clo_in (hM : Mtr e rk) {u t : Nat} (hu : u < 2 ^ e) (ht : t < 2 ^ e) : cloN rk e u &&& t = t ↔ rk (u ||| t) = rk u := by
  constructor
  · intro h
    have q := (hM.span (t := t) hu (fun x hx hb => by
      have b : (cloN rk e u &&& t).testBit x = true := by rw [h]; exact hb
      rw [Nat.testBit_and, clo_bit, Bool.and_eq_true, Bool.or_eq_true] at b
      rcases b.1 with z | z
      · rw [or_bit_same z]
      · rw [Bool.and_eq_true, beq_iff_eq] at z
        exact z.2) e (Nat.le_refl e)).1
    rw [Nat.mod_eq_of_lt ht] at q
    exact q
  · intro h
    apply Nat.eq_of_testBit_eq
    intro i
    rw [Nat.testBit_and, clo_bit]
    cases hb : t.testBit i
    · rw [Bool.and_false]
    · have hi : i < e := by
        apply Classical.byContradiction
        intro g
        rw [Nat.testBit_lt_two_pow (Nat.lt_of_lt_of_le ht (Nat.pow_le_pow_right (by decide) (by omega)))] at hb
        cases hb
      have a := hM.2.2.1 u i hu hi
      have m := hM.mono (s := u ||| 2 ^ i) (or_lt hu ht) (fun j hj => by
        rw [Nat.testBit_or, p2_testBit, Bool.or_eq_true, decide_eq_true_eq] at hj
        rw [Nat.testBit_or]
        rcases hj with z | z
        · rw [z]; rfl
        · subst z; rw [hb, Bool.or_true])
      rw [decide_eq_true hi, beq_iff_eq.mpr (show rk (u ||| 2 ^ i) = rk u by omega)]
      cases u.testBit i <;> rfl
theorem lt_bit {s : Nat} (hs : s < 2 ^ (e + 1)) : s < 2 ^ e ↔ ¬ s.testBit e = true := by
  constructor
  · intro h
    rw [Nat.testBit_lt_two_pow h]
    exact Bool.false_ne_true
  · intro h
    have q : s = s % 2 ^ e := Classical.byContradiction fun z => h ((low_ne hs).mp z)
    rw [q]
    exact Nat.mod_lt _ (p2_pos e)
theorem Mtr.extE (hM : Mtr e rk) {sp s : Nat} (hsp : sp < 2 ^ e) (hs : s < 2 ^ (e + 1)) : extR rk e sp s = extM rk e sp s := by
  rw [ext_eq hs]
  unfold extM exF
  congr 1
  have hl : s % 2 ^ e < 2 ^ e := Nat.mod_lt _ (p2_pos e)
  by_cases g : s.testBit e = true
  · rw [if_pos g]
    by_cases q : rk (s % 2 ^ e ||| sp) = rk (s % 2 ^ e)
    · rw [if_pos q, if_pos (Or.inr ((hM.clo_in hl hsp).mpr q))]
    · rw [if_neg q, if_neg]
      rintro (z | z)
      · exact (lt_bit hs).mp z g
      · exact q ((hM.clo_in hl hsp).mp z)
  · rw [if_neg g, if_pos (Or.inl ((lt_bit hs).mpr g))]
theorem wit_t {k s : Nat} : witR rk k true s = partR rk k (2 ^ k) s := by
  unfold witR partR sprN insB
  rw [if_pos rfl, if_pos rfl, Nat.or_comm (s &&& (2 ^ k - 1))]
theorem wit_f {k s : Nat} (h0 : rk 0 = 0) : witR rk k false s = partR rk k 0 s := by
  unfold witR partR sprN insB
  rw [if_neg Bool.false_ne_true, if_neg Bool.false_ne_true, Nat.or_comm (s &&& (2 ^ k - 1)), h0]
end A3
