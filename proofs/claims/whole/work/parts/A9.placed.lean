/-! The mathematics: bases told as sets, sets that can be placed -/
section A9
variable {e : Nat} {rk : Nat → Nat}
theorem anyB_eq {p q : Nat → Bool} {n m : Nat} (h1 : ∀ i, i < n → p i = true → ∃ j, j < m ∧ q j = true) (h2 : ∀ j, j < m → q j = true → ∃ i, i < n ∧ p i = true) : anyB p n = anyB q m := by
  rw [Bool.eq_iff_iff, anyB_iff, anyB_iff]
  constructor
  · rintro ⟨i, hi, h⟩; exact h1 i hi h
  · rintro ⟨i, hi, h⟩; exact h2 i hi h
theorem inB_fre {w : Nat → Nat} {c s : Nat} (hw : ∀ j, j < c → w j < 1024) : inB w c s = freB w c s := by
  unfold inB freB basB
  refine anyB_eq (fun i hi h => ⟨w i, hw i hi, ?_⟩) (fun j hj h => ?_)
  · rw [Bool.and_eq_true]
    exact ⟨anyB_iff.mpr ⟨i, hi, beq_iff_eq.mpr rfl⟩, h⟩
  · rw [Bool.and_eq_true] at h
    obtain ⟨i, hi, q⟩ := anyB_iff.mp h.1
    rw [beq_iff_eq] at q
    exact ⟨i, hi, by rw [q]; exact h.2⟩
theorem bases_same {w : Nat → Nat} {c s : Nat} (he : e ≤ 10) (hw : ∀ j, j < c → w j < 1024) (hs : s < 2 ^ e) : rkT (fun s => b2n (inB w c s)) e (2 ^ e) s = basM w c e s :=
  Lrg.same he (LrgT he) (LrgF he) (fun _ _ => inB_fre hw) hs
theorem bc_ne (he : e ≤ 10) {s : Nat} (hs : s < 2 ^ e) (h : bc s = 0) : s = 0 := Classical.byContradiction fun z => by
  obtain ⟨k, hk, hb⟩ := some_bit hs z
  have := bc_rem he hs hk hb
  omega
theorem sbs_full (he : e ≤ 10) {q s : Nat} (hs : s < 2 ^ e) (h : sbs q s) (hb : bc q = bc s) : q = s := by
  have a := bc_dif2 he hs h
  have b := bc_ne he (sdf_lt hs : sdf s q < 2 ^ e) (by omega)
  have c := or_dif h
  rw [b, Nat.or_zero] at c
  exact c
theorem Lrg.le {p : Nat → Bool} {r : Nat → Nat} (he : e ≤ 10) (h : Lrg p e r) {s : Nat} (hs : s < 2 ^ e) : r s ≤ bc s := by
  obtain ⟨⟨q, q1, -, q3⟩, -⟩ := h s hs
  rw [← q3]
  exact bc_sbs he hs q1
theorem Lrg.iff {p : Nat → Bool} {r : Nat → Nat} (he : e ≤ 10) (h : Lrg p e r) (p0 : p 0 = true) {s : Nat} (hs : s < 2 ^ e) : p s = true ↔ r s = bc s := by
  constructor
  · intro hp
    have a := (h s hs).2 s (sbs_refl s) hp
    have b := h.le he hs
    omega
  · intro hr
    obtain ⟨⟨q, q1, q2, q3⟩, -⟩ := h s hs
    have e1 := sbs_full he hs q1 (by omega)
    subst e1
    rcases q2 with z | z
    · exact z
    · subst z; exact p0
def r1w (w q : Nat) : Nat := if q &&& w = 0 then 0 else 1
theorem r1w_or {w q x : Nat} (h : q &&& w ≠ 0) : (q ||| 2 ^ x) &&& w ≠ 0 := fun z => h (by
  apply Nat.eq_of_testBit_eq
  intro i
  have b : ((q ||| 2 ^ x) &&& w).testBit i = false := by rw [z, Nat.zero_testBit]
  rw [Nat.testBit_and, Nat.testBit_or] at b
  rw [Nat.testBit_and, Nat.zero_testBit]
  revert b
  cases q.testBit i <;> cases w.testBit i <;> cases (2 ^ x).testBit i <;> decide)
theorem r1w_in {w q x : Nat} (h : w.testBit x = true) : (q ||| 2 ^ x) &&& w ≠ 0 := fun z => by
  have b : ((q ||| 2 ^ x) &&& w).testBit x = false := by rw [z, Nat.zero_testBit]
  rw [Nat.testBit_and, Nat.testBit_or, p2_testBit, decide_eq_true rfl, h, Bool.or_true] at b
  cases b
theorem r1w_out {w q x : Nat} (h : ¬ w.testBit x = true) : (q ||| 2 ^ x) &&& w = q &&& w := and_or_out h
theorem Mtr.one (he : e ≤ 10) (w : Nat) : Mtr e (r1w w) := by
  refine ⟨he, by unfold r1w; rw [Nat.zero_and, if_pos rfl], fun s x hs hx => ?_, fun s x y hs hx hy q1 q2 => ?_⟩
  · unfold r1w
    by_cases h : s &&& w = 0
    · rw [if_pos h]; split <;> omega
    · rw [if_neg h, if_neg (r1w_or h)]; omega
  · unfold r1w at q1 q2 ⊢
    by_cases h : s &&& w = 0
    · rw [if_pos h] at q1 q2 ⊢
      have hx2 : ¬ w.testBit x = true := fun z => by rw [if_neg (r1w_in z)] at q1; cases q1
      have hy2 : ¬ w.testBit y = true := fun z => by rw [if_neg (r1w_in z)] at q2; cases q2
      rw [r1w_out hy2, r1w_out hx2, if_pos h]
    · rw [if_neg h, if_neg (r1w_or (r1w_or h))]
theorem bc_p2 (he : e ≤ 10) {k : Nat} (hk : k < e) : bc (2 ^ k) = 1 := by
  have q := bc_add he (p2_pos e) hk (by rw [Nat.zero_testBit]; exact Bool.false_ne_true)
  rw [Nat.zero_or] at q
  exact q
theorem plM_0 {pl : Nat → Nat} : ∀ p, plM pl e p 0 = true := by
  intro p
  induction p with
  | zero => rfl
  | succ p ih =>
    show (plM pl e p 0 || _) = true
    rw [ih]
    rfl
theorem plM_par {pl : Nat → Nat} {p : Nat} {r : Nat → Nat} (he : e ≤ 10) (hr : ∀ s, s < 2 ^ e → (plM pl e p s = true ↔ r s = bc s)) {s : Nat} (hs : s < 2 ^ e) : plM pl e (p + 1) s = parM r (r1w (pl p)) s := by
  have b0 : bc 0 = 0 := rfl
  rw [Bool.eq_iff_iff, parM_iff]
  show (plM pl e p s || anyB (fun k => s.testBit k && (pl p).testBit k && plM pl e p (s ^^^ 2 ^ k)) e) = true ↔ _
  rw [Bool.or_eq_true, anyB_iff]
  constructor
  · rintro (z | ⟨k, hk, z⟩)
    · refine ⟨s, sbs_refl s, (hr s hs).mp z, ?_⟩
      rw [show sdf s s = 0 from sdf_zero (Nat.and_self s)]
      unfold r1w
      rw [Nat.zero_and, if_pos rfl]
      rfl
    · rw [Bool.and_eq_true, Bool.and_eq_true] at z
      obtain ⟨⟨z1, z2⟩, z3⟩ := z
      rw [xor_in z1] at z3
      refine ⟨sdf s (2 ^ k), sbs_rem s k, (hr _ (sdf_lt hs)).mp z3, ?_⟩
      have e1 : sdf s (sdf s (2 ^ k)) = 2 ^ k := by
        apply Nat.eq_of_testBit_eq
        intro i
        rw [sdf_bit, sdf_bit, p2_testBit]
        by_cases g : k = i
        · subst g; rw [z1, decide_eq_true rfl]; rfl
        · rw [decide_eq_false g]; cases s.testBit i <;> rfl
      rw [e1, bc_p2 he hk]
      unfold r1w
      have := r1w_in (q := 0) z2
      rw [Nat.zero_or] at this
      rw [if_neg this]
  · rintro ⟨a, a1, a2, a3⟩
    have hae : a < 2 ^ e := Nat.lt_of_le_of_lt (sbs_le a1) hs
    have hde : sdf s a < 2 ^ e := sdf_lt hs
    unfold r1w at a3
    by_cases h : sdf s a &&& pl p = 0
    · rw [if_pos h] at a3
      have e1 := bc_ne he hde a3.symm
      have e2 := or_dif a1
      rw [e1, Nat.or_zero] at e2
      subst e2
      exact Or.inl ((hr a hs).mpr a2)
    · rw [if_neg h] at a3
      obtain ⟨k, hk, hb⟩ := some_bit (Nat.lt_of_le_of_lt Nat.and_le_left hde) h
      rw [Nat.testBit_and, Bool.and_eq_true] at hb
      have hb1 := hb.1
      rw [sdf_bit, Bool.and_eq_true, Bool.not_eq_true'] at hb1
      have e1 := bc_rem he hde hk hb.1
      have e2 := bc_ne he (sdf_lt hde : sdf (sdf s a) (2 ^ k) < 2 ^ e) (by omega)
      have e3 := rem_or hb.1
      rw [e2, Nat.zero_or] at e3
      refine Or.inr ⟨k, hk, ?_⟩
      rw [Bool.and_eq_true, Bool.and_eq_true, xor_in hb1.1]
      refine ⟨⟨hb1.1, hb.2⟩, (hr _ (sdf_lt hs)).mpr ?_⟩
      have e4 : sdf s (2 ^ k) = a := by
        rw [e3]
        apply Nat.eq_of_testBit_eq
        intro i
        rw [sdf_bit, sdf_bit]
        cases ha : a.testBit i
        · cases s.testBit i <;> rfl
        · rw [a1 i ha]; rfl
      rw [e4]
      exact a2
theorem plM_mtr {pl : Nat → Nat} (he : e ≤ 10) : ∀ p, Mtr e (rkT (fun s => b2n (plM pl e p s)) e (2 ^ e)) := by
  intro p
  induction p with
  | zero =>
    refine (Mtr.uni (k := 0) he).congr (fun s hs => ?_)
    obtain ⟨⟨q, q1, q2, q3⟩, -⟩ := LrgT (p := plM pl e 0) he s hs
    have hq : q = 0 := by
      rcases q2 with z | z
      · exact beq_iff_eq.mp z
      · exact z
    subst hq
    show min 0 (bc s) = _
    have b0 : bc 0 = 0 := rfl
    omega
  | succ p ih =>
    have hL := LrgT (p := plM pl e p) he
    have hL1 := LrgT (p := plM pl e (p + 1)) he
    have hr : ∀ s, s < 2 ^ e → (plM pl e p s = true ↔ rkT (fun s => b2n (plM pl e p s)) e (2 ^ e) s = bc s) := fun s hs => hL.iff he (plM_0 p) hs
    refine Mtr.union ih (Mtr.one he (pl p)) (fun s hs => ?_)
    obtain ⟨⟨q, q1, q2, q3⟩, hm⟩ := hL1 s hs
    have hqe : ∀ q, sbs q s → q < 2 ^ e := fun q h => Nat.lt_of_le_of_lt (sbs_le h) hs
    refine ⟨⟨q, q1, ?_, q3⟩, fun q z1 z2 => hm q z1 (by rw [plM_par he hr (hqe q z1)]; exact z2)⟩
    rcases q2 with z | z
    · rw [plM_par he hr (hqe q q1)] at z; exact Or.inl z
    · exact Or.inr z
end A9
