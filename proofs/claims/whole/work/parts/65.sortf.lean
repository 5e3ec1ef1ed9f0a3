/-! What the sorts say; the first basis -/
theorem srt_ind {rk : Nat → Nat} {e s : Nat} : (sortN rk e s &&& 1 != 0) = true ↔ rk s = bc s := by
  unfold sortN numN nbrN
  by_cases h1 : rk s ≠ bc s
  · rw [if_pos h1]
    refine ⟨fun q => ?_, fun q => absurd q h1⟩
    exfalso
    revert q
    split <;> split <;> (try split) <;> decide
  · rw [if_neg h1]
    refine ⟨fun _ => Classical.byContradiction h1, fun _ => ?_⟩
    split <;> split <;> split <;> (try split) <;> decide
theorem srt_bas {rk : Nat → Nat} {e s : Nat} : (sortN rk e s &&& 2 != 0) = true ↔ rk s = bc s ∧ rk (2 ^ e - 1) = bc s := by
  unfold sortN numN nbrN
  by_cases h1 : rk s ≠ bc s
  · rw [if_pos h1]
    refine ⟨fun q => ?_, fun q => absurd q.1 h1⟩
    exfalso
    revert q
    split <;> split <;> (try split) <;> decide
  · rw [if_neg h1]
    by_cases h2 : rk (2 ^ e - 1) = bc s
    · rw [if_pos h2]
      refine ⟨fun _ => ⟨Classical.byContradiction h1, h2⟩, fun _ => ?_⟩
      split <;> split <;> (try split) <;> decide
    · rw [if_neg h2]
      refine ⟨fun q => ?_, fun q => absurd q.2 h2⟩
      exfalso
      revert q
      split <;> split <;> (try split) <;> decide
theorem srt_cir {rk : Nat → Nat} {e s : Nat} : (sortN rk e s &&& 4 != 0) = circN rk e s := by
  unfold sortN numN nbrN
  cases circN rk e s <;> (split <;> (try split) <;> (try split) <;> (try split) <;> (try split) <;> first | rfl | contradiction)
theorem srt_flt {rk : Nat → Nat} {e s : Nat} : (sortN rk e s &&& 8 != 0) = flatN rk e s := by
  unfold sortN numN nbrN
  cases flatN rk e s <;> (split <;> (try split) <;> (try split) <;> (try split) <;> (try split) <;> first | rfl | contradiction)
theorem srt_hyp {rk : Nat → Nat} {e s : Nat} : (sortN rk e s &&& 16 != 0) = (flatN rk e s && decide (rk s + 1 = rk (2 ^ e - 1))) := by
  unfold sortN numN nbrN
  by_cases h : rk s + 1 = rk (2 ^ e - 1)
  · rw [if_pos h, decide_eq_true h]
    cases flatN rk e s <;> (split <;> (try split) <;> (try split) <;> (try split) <;> (try split) <;> first | rfl | contradiction)
  · rw [if_neg h, decide_eq_false h]
    cases flatN rk e s <;> (split <;> (try split) <;> (try split) <;> (try split) <;> (try split) <;> first | rfl | contradiction)
theorem cnt_none {p : Nat → Bool} {n : Nat} (h : ∀ j, j < n → p j = false) : cnt p n = 0 := by
  induction n with
  | zero => rfl
  | succ n ih =>
    rw [cnt_n (by rw [h n (Nat.lt_succ_self n)]; decide)]
    exact ih (fun j hj => h j (by omega))
theorem nth_first {p : Nat → Bool} {n : Nat} (h : ∃ s, s < n ∧ p s = true) : ∃ s, s < n ∧ nth p n 0 = (s : Int) ∧ p s = true ∧ ∀ t, t < s → p t = false := by
  rcases fst_spec (p := p) (n := n) with ⟨-, h2⟩ | ⟨i, hi, -, hp, hb⟩
  · obtain ⟨s, hs, hp⟩ := h
    rw [h2 s hs] at hp
    cases hp
  · refine ⟨i, hi, ?_, hp, hb⟩
    have e : fst (fun s => p s && decide (((cnt p s : Nat) : Int) = 0)) n = some i := fst_some hi (fun j hj => by
      show (p j && _) = false
      rw [hb j hj]; rfl) (by
      show (p i && _) = true
      rw [hp, cnt_none hb]; rfl)
    unfold nth
    rw [e]
theorem Mtr.bas {e : Nat} {rk : Nat → Nat} (hM : Mtr e rk) : nth (fun s => sortN rk e s &&& 2 != 0) (2 ^ e) 0 = (bsN rk e : Int) ∧ bsN rk e < 2 ^ e ∧ bc (bsN rk e) = rk (2 ^ e - 1) ∧ rk (bsN rk e) = rk (2 ^ e - 1) ∧ ∀ t, t < bsN rk e → ¬ (rk t = bc t ∧ rk (2 ^ e - 1) = bc t) := by
  have hp := p2_pos e
  obtain ⟨t, t1, -, t3, t4⟩ := hM.inner (s := 2 ^ e - 1) (by omega)
  obtain ⟨s, s1, s2, s3, s4⟩ := nth_first (p := fun s => sortN rk e s &&& 2 != 0) (n := 2 ^ e) ⟨t, t1, srt_bas.mpr ⟨t3, by omega⟩⟩
  have hb : bsN rk e = s := by
    unfold bsN
    rw [s2]
    exact Int.toNat_natCast s
  have h5 := srt_bas.mp s3
  rw [hb]
  refine ⟨s2, s1, h5.2.symm, by omega, fun t ht q => ?_⟩
  have := s4 t ht
  have h6 := srt_bas.mpr q
  rw [this] at h6
  cases h6
