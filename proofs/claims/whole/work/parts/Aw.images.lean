/-! The mathematics: images of sets under a permutation; sums over all sets; bases in greater sets -/
section Aw
variable {e : Nat} {im : Nat → Nat}
theorem imO_bit {s b0 i : Nat} : ∀ k, (imO im s b0 k).testBit i = true ↔ b0.testBit i = true ∨ ∃ j, j < k ∧ s.testBit j = true ∧ im j = i := by
  intro k
  induction k with
  | zero => exact ⟨fun z => Or.inl z, fun z => z.elim id (fun ⟨j, hj, _⟩ => absurd hj (Nat.not_lt_zero j))⟩
  | succ k ih =>
    unfold imO
    rw [Nat.testBit_or, Bool.or_eq_true, ih]
    by_cases g : s.testBit k = true
    · rw [if_pos g, p2_testBit, decide_eq_true_eq]
      constructor
      · rintro ((z | ⟨j, j1, j2⟩) | z)
        · exact Or.inl z
        · exact Or.inr ⟨j, by omega, j2⟩
        · exact Or.inr ⟨k, by omega, g, z⟩
      · rintro (z | ⟨j, j1, j2, j3⟩)
        · exact Or.inl (Or.inl z)
        · by_cases gj : j = k
          · subst gj; exact Or.inr j3
          · exact Or.inl (Or.inr ⟨j, by omega, j2, j3⟩)
    · rw [if_neg g, Nat.zero_testBit]
      constructor
      · rintro ((z | ⟨j, j1, j2⟩) | z)
        · exact Or.inl z
        · exact Or.inr ⟨j, by omega, j2⟩
        · cases z
      · rintro (z | ⟨j, j1, j2, j3⟩)
        · exact Or.inl (Or.inl z)
        · refine Or.inl (Or.inr ⟨j, ?_, j2, j3⟩)
          have : j ≠ k := fun z => g (by rw [← z]; exact j2)
          omega
/-- a permutation of the elements -/
def PmI (im : Nat → Nat) (e : Nat) : Prop := (∀ k, k < e → im k < e) ∧ ∀ j k, j < e → k < e → im j = im k → j = k
/-- the image of a set -/
abbrev imS (im : Nat → Nat) (e s : Nat) : Nat := imO im s 0 e
theorem imS_bit {s i : Nat} : (imS im e s).testBit i = true ↔ ∃ j, j < e ∧ s.testBit j = true ∧ im j = i := by
  rw [imO_bit, Nat.zero_testBit]
  exact ⟨fun z => z.elim (fun y => absurd y Bool.false_ne_true) id, fun z => Or.inr z⟩
theorem imS_at (hp : PmI im e) {s j : Nat} (hj : j < e) : (imS im e s).testBit (im j) = s.testBit j := by
  rw [Bool.eq_iff_iff, imS_bit]
  exact ⟨fun ⟨j', h1, h2, h3⟩ => by rw [← hp.2 j' j h1 hj h3]; exact h2, fun z => ⟨j, hj, z, rfl⟩⟩
theorem imS_lt (hp : PmI im e) {s : Nat} : imS im e s < 2 ^ e := by
  apply Nat.lt_pow_two_of_testBit
  intro i hi
  rw [Bool.eq_false_iff]
  intro z
  obtain ⟨j, h1, -, h3⟩ := imS_bit.mp z
  have := hp.1 j h1
  omega
theorem imS_or {s k : Nat} (hk : k < e) : imS im e (s ||| 2 ^ k) = imS im e s ||| 2 ^ im k := by
  apply Nat.eq_of_testBit_eq
  intro i
  rw [Bool.eq_iff_iff, imS_bit, Nat.testBit_or, Bool.or_eq_true, imS_bit, p2_testBit, decide_eq_true_eq]
  constructor
  · rintro ⟨j, h1, h2, h3⟩
    rw [Nat.testBit_or, p2_testBit, Bool.or_eq_true, decide_eq_true_eq] at h2
    rcases h2 with z | z
    · exact Or.inl ⟨j, h1, z, h3⟩
    · subst z; exact Or.inr h3
  · rintro (⟨j, h1, h2, h3⟩ | z)
    · exact ⟨j, h1, by rw [Nat.testBit_or, h2]; rfl, h3⟩
    · exact ⟨k, hk, by rw [Nat.testBit_or, p2_testBit, decide_eq_true rfl, Bool.or_true], z⟩
theorem imS_zero : imS im e 0 = 0 := by
  apply Nat.eq_of_testBit_eq
  intro i
  rw [Nat.zero_testBit, Bool.eq_false_iff]
  intro z
  obtain ⟨j, -, h2, -⟩ := imS_bit.mp z
  rw [Nat.zero_testBit] at h2
  cases h2
theorem imS_bc (he : e ≤ 10) (hp : PmI im e) : ∀ n s, bc s ≤ n → s < 2 ^ e → bc (imS im e s) = bc s := by
  intro n
  induction n with
  | zero =>
    intro s hs hl
    have : s = 0 := bc_ne he hl (by omega)
    subst this
    rw [imS_zero]
  | succ n ih =>
    intro s hs hl
    by_cases g : s = 0
    · subst g; rw [imS_zero]
    · obtain ⟨k, k1, k2⟩ := some_bit hl g
      have b := bc_rem he hl k1 k2
      have i := ih (sdf s (2 ^ k)) (by omega) (sdf_lt hl)
      have e1 := imS_or (im := im) (s := sdf s (2 ^ k)) k1
      rw [rem_or k2] at e1
      have nn : ¬ (imS im e (sdf s (2 ^ k))).testBit (im k) = true := by
        rw [imS_at hp k1]; exact rem_nt
      rw [e1, bc_add he (imS_lt hp) (hp.1 k k1) nn, i, b]
theorem imS_inj (hp : PmI im e) {s t : Nat} (hs : s < 2 ^ e) (ht : t < 2 ^ e) (h : imS im e s = imS im e t) : s = t := by
  apply Nat.eq_of_testBit_eq
  intro i
  by_cases g : i < e
  · rw [← imS_at hp (s := s) g, ← imS_at hp (s := t) g, h]
  · rw [Nat.testBit_lt_two_pow (Nat.lt_of_lt_of_le hs (Nat.pow_le_pow_right (by decide) (by omega))), Nat.testBit_lt_two_pow (Nat.lt_of_lt_of_le ht (Nat.pow_le_pow_right (by decide) (by omega)))]
theorem pm_sur (he : e ≤ 10) (hp : PmI im e) {i : Nat} (hi : i < e) : ∃ j, j < e ∧ im j = i := by
  have h0 := p2_pos e
  have h1 : imS im e (2 ^ e - 1) = 2 ^ e - 1 := sbs_full he (by omega) (sbs_all (imS_lt hp)) (imS_bc he hp _ _ (Nat.le_refl _) (by omega))
  have h2 : (imS im e (2 ^ e - 1)).testBit i = true := by rw [h1]; exact all1 hi
  obtain ⟨j, j1, -, j3⟩ := imS_bit.mp h2
  exact ⟨j, j1, j3⟩
theorem imS_sur (he : e ≤ 10) (hp : PmI im e) {t : Nat} (ht : t < 2 ^ e) : ∃ s, s < 2 ^ e ∧ imS im e s = t := by
  refine ⟨orB (fun j => t.testBit (im j)) e, ?_, ?_⟩
  · apply Nat.lt_pow_two_of_testBit
    intro i hi
    rw [orB_bit, decide_eq_false (show ¬ i < e by omega)]; rfl
  · apply Nat.eq_of_testBit_eq
    intro i
    rw [Bool.eq_iff_iff, imS_bit]
    constructor
    · rintro ⟨j, h1, h2, h3⟩
      rw [orB_bit, Bool.and_eq_true] at h2
      rw [← h3]; exact h2.2
    · intro z
      obtain ⟨j, j1, j2⟩ := pm_sur he hp (bit_lt10 ht z)
      exact ⟨j, j1, by rw [orB_bit, decide_eq_true j1, j2, z]; rfl, j2⟩
theorem imS_and (hp : PmI im e) {s t : Nat} : imS im e (s &&& t) = imS im e s &&& imS im e t := by
  apply Nat.eq_of_testBit_eq
  intro i
  rw [Bool.eq_iff_iff, imS_bit, Nat.testBit_and, Bool.and_eq_true, imS_bit, imS_bit]
  constructor
  · rintro ⟨j, h1, h2, h3⟩
    rw [Nat.testBit_and, Bool.and_eq_true] at h2
    exact ⟨⟨j, h1, h2.1, h3⟩, ⟨j, h1, h2.2, h3⟩⟩
  · rintro ⟨⟨j, h1, h2, h3⟩, ⟨j', h4, h5, h6⟩⟩
    have := hp.2 j j' h1 h4 (by omega)
    subst this
    exact ⟨j, h1, by rw [Nat.testBit_and, h2, h5]; rfl, h3⟩
theorem imO_top {s k : Nat} (hs : s < 2 ^ k) (hk : k < e) : imO im s (2 ^ im k) k = imS im e (s ||| 2 ^ k) := by
  apply Nat.eq_of_testBit_eq
  intro i
  rw [Bool.eq_iff_iff, imO_bit, imS_bit, p2_testBit, decide_eq_true_eq]
  constructor
  · rintro (z | ⟨j, j1, j2, j3⟩)
    · exact ⟨k, hk, by rw [Nat.testBit_or, p2_testBit, decide_eq_true rfl, Bool.or_true], z⟩
    · exact ⟨j, by omega, by rw [Nat.testBit_or, j2]; rfl, j3⟩
  · rintro ⟨j, j1, j2, j3⟩
    rw [Nat.testBit_or, p2_testBit, Bool.or_eq_true, decide_eq_true_eq] at j2
    rcases j2 with z | z
    · exact Or.inr ⟨j, bit_lt10 hs z, z, j3⟩
    · subst z; exact Or.inl j3
theorem cnt_one {p : Nat → Bool} {k : Nat} : ∀ n, k < n → p k = true → (∀ i, i < n → p i = true → i = k) → cnt p n = 1 := by
  intro n
  induction n with
  | zero => intro h; omega
  | succ n ih =>
    intro hk hp hu
    by_cases g : k = n
    · subst g
      rw [cnt_y hp, cnt_none (fun j hj => by
        rw [Bool.eq_false_iff]
        intro z
        have := hu j (by omega) z
        omega)]
    · have hn : ¬ p n = true := fun z => g (hu n (by omega) z).symm
      rw [cnt_n hn]
      exact ih (by omega) hp (fun i hi => hu i (by omega))
/-- a sum in another order -/
theorem sumI_perm {N : Nat} {π : Nat → Nat} (F : Nat → Int) (h1 : ∀ s, s < N → π s < N) (h2 : ∀ s t, s < N → t < N → π s = π t → s = t) (h3 : ∀ t, t < N → ∃ s, s < N ∧ π s = t) : sumI (fun s => F (π s)) N = sumI F N := by
  rw [sumI_key (key := π) (F := F) (K := N) N h1]
  refine sI_congr N (fun j hj => ?_)
  obtain ⟨s, s1, s2⟩ := h3 j hj
  rw [cnt_one (k := s) N s1 (decide_eq_true s2) (fun i hi z => h2 i s hi s1 (by rw [of_decide_eq_true z, s2]))]
  show (1 : Int) * F j = F j
  rw [Int.one_mul]
theorem sum_im (he : e ≤ 10) (hp : PmI im e) (F : Nat → Int) : sumI (fun s => F (imS im e s)) (2 ^ e) = sumI F (2 ^ e) :=
  sumI_perm F (fun _ _ => imS_lt hp) (fun _ _ hs ht h => imS_inj hp hs ht h) (fun _ ht => imS_sur he hp ht)
/-- the sums over greater sets -/
theorem sg_sum {G : Nat → Nat} : ∀ k j, ((sgN G k j : Nat) : Int) = sumI (fun t => if (j % 2 ^ k) &&& t = j % 2 ^ k then ((G (j / 2 ^ k * 2 ^ k + t) : Nat) : Int) else 0) (2 ^ k) := by
  intro k
  induction k with
  | zero =>
    intro j
    rw [Nat.pow_zero, Nat.mod_one, Nat.div_one, Nat.mul_one]
    show ((G j : Nat) : Int) = 0 + (if 0 &&& 0 = 0 then ((G (j + 0) : Nat) : Int) else 0)
    rw [if_pos (show (0 : Nat) &&& 0 = 0 from rfl), Nat.add_zero, Int.zero_add]
  | succ k ih =>
    intro j
    have hp := p2_pos k
    rw [show 2 ^ (k + 1) = 2 ^ k + 2 ^ k by rw [Nat.pow_succ]; omega, sumI_app]
    rw [show 2 ^ k + 2 ^ k = 2 ^ (k + 1) by rw [Nat.pow_succ]; omega]
    have low : ∀ t, t < 2 ^ k → ∀ i, i < k → (2 ^ k + t).testBit i = t.testBit i := fun t ht i hi => by
      rw [Nat.testBit_two_pow_add_gt hi]
    have topb : ∀ t, t < 2 ^ k → (2 ^ k + t).testBit k = true := fun t ht => by
      rw [Nat.testBit_two_pow_add_eq, Nat.testBit_lt_two_pow ht]; rfl
    have sub : ∀ x t, (x &&& t = x) ↔ sbs x t := fun x t => sbs_and.symm
    have mlt := Nat.mod_lt j hp
    have tpo := Nat.two_pow_add_eq_or_of_lt mlt 1
    rw [Nat.mul_one] at tpo
    unfold sgN
    by_cases g : j.testBit k = true
    · rw [if_pos g, ih j]
      have mj : j % 2 ^ (k + 1) = j % 2 ^ k ||| 2 ^ k := pre_y g
      have dj : j / 2 ^ (k + 1) * 2 ^ (k + 1) + 2 ^ k = j / 2 ^ k * 2 ^ k := by
        have a1 := Nat.div_add_mod j (2 ^ (k + 1))
        have a2 := Nat.div_add_mod j (2 ^ k)
        have a3 : j % 2 ^ (k + 1) = j % 2 ^ k + 2 ^ k := by rw [mj, Nat.or_comm, ← tpo]; omega
        rw [Nat.mul_comm] at a1 a2
        omega
      rw [sumI_zero (a := fun t => if j % 2 ^ (k + 1) &&& t = j % 2 ^ (k + 1) then ((G (j / 2 ^ (k + 1) * 2 ^ (k + 1) + t) : Nat) : Int) else 0) (2 ^ k) (fun t ht => by
        show (if _ then _ else _) = _
        rw [if_neg (fun z => by
          have q := (sub _ _).mp z k (by rw [mj, Nat.testBit_or, p2_testBit, decide_eq_true rfl, Bool.or_true])
          rw [Nat.testBit_lt_two_pow ht] at q
          cases q)]), Int.zero_add]
      refine sI_congr (2 ^ k) (fun t ht => ?_)
      have c : (j % 2 ^ (k + 1) &&& (2 ^ k + t) = j % 2 ^ (k + 1)) ↔ (j % 2 ^ k &&& t = j % 2 ^ k) := by
        rw [sub, sub]
        constructor
        · intro z i hi
          have hik : i < k := bit_lt10 mlt hi
          rw [← low t ht i hik]
          exact z i (by rw [mj, Nat.testBit_or, hi]; rfl)
        · intro z i hi
          rw [mj, Nat.testBit_or, p2_testBit, Bool.or_eq_true, decide_eq_true_eq] at hi
          rcases hi with y | y
          · rw [low t ht i (bit_lt10 mlt y)]; exact z i y
          · rw [← y]; exact topb t ht
      show (if _ then _ else _) = (if _ then _ else _)
      rw [show j / 2 ^ (k + 1) * 2 ^ (k + 1) + (2 ^ k + t) = j / 2 ^ k * 2 ^ k + t by omega]
      by_cases y : j % 2 ^ k &&& t = j % 2 ^ k
      · rw [if_pos y, if_pos (c.mpr y)]
      · rw [if_neg y, if_neg (fun z => y (c.mp z))]
    · rw [if_neg g, Int.natCast_add, ih j, ih (j ||| 2 ^ k)]
      have mj : j % 2 ^ (k + 1) = j % 2 ^ k := pre_n g
      have dj : j / 2 ^ (k + 1) * 2 ^ (k + 1) = j / 2 ^ k * 2 ^ k := by
        have a1 := Nat.div_add_mod j (2 ^ (k + 1))
        have a2 := Nat.div_add_mod j (2 ^ k)
        rw [Nat.mul_comm] at a1 a2
        omega
      have mo : (j ||| 2 ^ k) % 2 ^ k = j % 2 ^ k := by
        apply Nat.eq_of_testBit_eq
        intro i
        rw [Nat.testBit_mod_two_pow, Nat.testBit_mod_two_pow, Nat.testBit_or, p2_testBit]
        by_cases y : i < k
        · rw [decide_eq_false (show ¬ k = i by omega), Bool.or_false]
        · rw [decide_eq_false y]; rfl
      have oj : j ||| 2 ^ k = j + 2 ^ k := by
        have a1 : (j ||| 2 ^ k) % 2 ^ (k + 1) = j % 2 ^ k ||| 2 ^ k := by
          rw [pre_y (t := j ||| 2 ^ k) (by rw [Nat.testBit_or, p2_testBit, decide_eq_true rfl, Bool.or_true]), mo]
        have a2 : j % 2 ^ k ||| 2 ^ k = 2 ^ k + j % 2 ^ k := by rw [Nat.or_comm, ← tpo]
        have a3 : (j ||| 2 ^ k) / 2 ^ (k + 1) = j / 2 ^ (k + 1) := by
          rw [← Nat.shiftRight_eq_div_pow, ← Nat.shiftRight_eq_div_pow]
          apply Nat.eq_of_testBit_eq
          intro i
          rw [Nat.testBit_shiftRight, Nat.testBit_shiftRight, Nat.testBit_or, p2_testBit, decide_eq_false (show ¬ k = k + 1 + i by omega), Bool.or_false]
        have a4 := Nat.div_add_mod (j ||| 2 ^ k) (2 ^ (k + 1))
        have a5 := Nat.div_add_mod j (2 ^ (k + 1))
        rw [a1, a2, a3] at a4
        rw [mj] at a5
        omega
      have doj : (j ||| 2 ^ k) / 2 ^ k * 2 ^ k = j / 2 ^ k * 2 ^ k + 2 ^ k := by
        rw [oj, Nat.add_div_right _ hp, Nat.add_mul, Nat.one_mul]
      rw [mo, mj, doj, dj]
      congr 1
      refine sI_congr (2 ^ k) (fun t ht => ?_)
      have c : (j % 2 ^ k &&& (2 ^ k + t) = j % 2 ^ k) ↔ (j % 2 ^ k &&& t = j % 2 ^ k) := by
        rw [sub, sub]
        constructor
        · intro z i hi
          rw [← low t ht i (bit_lt10 mlt hi)]
          exact z i hi
        · intro z i hi
          rw [low t ht i (bit_lt10 mlt hi)]; exact z i hi
      show (if _ then _ else _) = (if _ then _ else _)
      rw [show j / 2 ^ k * 2 ^ k + (2 ^ k + t) = j / 2 ^ k * 2 ^ k + 2 ^ k + t by omega]
      by_cases y : j % 2 ^ k &&& t = j % 2 ^ k
      · rw [if_pos y, if_pos (c.mpr y)]
      · rw [if_neg y, if_neg (fun z => y (c.mp z))]
theorem sg_all {G : Nat → Nat} {j : Nat} (hj : j < 2 ^ e) : ((sgN G e j : Nat) : Int) = sumI (fun t => if j &&& t = j then ((G t : Nat) : Int) else 0) (2 ^ e) := by
  rw [sg_sum, Nat.mod_eq_of_lt hj, Nat.div_eq_of_lt hj, Nat.zero_mul]
  exact sI_congr _ (fun t _ => by rw [Nat.zero_add])
theorem im_sub (hp : PmI im e) {s t : Nat} (hs : s < 2 ^ e) : (imS im e s &&& imS im e t = imS im e s) ↔ (s &&& t = s) := by
  rw [← imS_and hp]
  constructor
  · intro z
    exact imS_inj hp (Nat.lt_of_le_of_lt Nat.and_le_left hs) hs z
  · intro z; rw [z]
/-- marks that go with the permutation have sums that go with it -/
theorem sg_im (he : e ≤ 10) (hp : PmI im e) {G H : Nat → Nat} (h : ∀ s, s < 2 ^ e → G s = H (imS im e s)) {j : Nat} (hj : j < 2 ^ e) : sgN G e j = sgN H e (imS im e j) := by
  have q : ((sgN G e j : Nat) : Int) = ((sgN H e (imS im e j) : Nat) : Int) := by
    rw [sg_all hj, sg_all (imS_lt hp), ← sum_im he hp (fun t => if imS im e j &&& t = imS im e j then ((H t : Nat) : Int) else 0)]
    refine sI_congr _ (fun t ht => ?_)
    rw [h t ht]
    by_cases y : j &&& t = j
    · rw [if_pos y, if_pos ((im_sub hp hj).mpr y)]
    · rw [if_neg y, if_neg (fun z => y ((im_sub hp hj).mp z))]
  omega
theorem sum_up {D : Nat → Int} (h : ∀ j, j < 2 ^ e → sumI (fun t => if j &&& t = j then D t else 0) (2 ^ e) = 0) : ∀ n j, j < 2 ^ e → 2 ^ e - j ≤ n → D j = 0 := by
  intro n
  induction n with
  | zero => intro j hj hn; omega
  | succ n ih =>
    intro j hj hn
    have q := h j hj
    rw [sumI_one (a := fun t => if j &&& t = j then D t else 0) hj (fun t ht hne => by
      show (if j &&& t = j then D t else 0) = 0
      by_cases y : j &&& t = j
      · rw [if_pos y]
        have : j ≤ t := sbs_le (sbs_and.mpr y)
        exact ih t ht (by omega)
      · rw [if_neg y])] at q
    have q2 : (if j &&& j = j then D j else 0) = 0 := q
    rw [if_pos (Nat.and_self j)] at q2
    exact q2
/-- and the other way round -/
theorem im_sg (he : e ≤ 10) (hp : PmI im e) {G H : Nat → Nat} (h : ∀ j, j < 2 ^ e → sgN G e j = sgN H e (imS im e j)) {s : Nat} (hs : s < 2 ^ e) : G s = H (imS im e s) := by
  have q := sum_up (e := e) (D := fun t => ((G t : Nat) : Int) - ((H (imS im e t) : Nat) : Int)) (fun j hj => by
    have a : ((sgN G e j : Nat) : Int) = ((sgN H e (imS im e j) : Nat) : Int) := by rw [h j hj]
    rw [sg_all hj, sg_all (imS_lt hp), ← sum_im he hp (fun t => if imS im e j &&& t = imS im e j then ((H t : Nat) : Int) else 0)] at a
    have e1 : sumI (fun t => if j &&& t = j then ((G t : Nat) : Int) - ((H (imS im e t) : Nat) : Int) else 0) (2 ^ e) = sumI (fun t => (if j &&& t = j then ((G t : Nat) : Int) else 0) + (-1) * (if imS im e j &&& imS im e t = imS im e j then ((H (imS im e t) : Nat) : Int) else 0)) (2 ^ e) := sI_congr _ (fun t _ => by
      by_cases y : j &&& t = j
      · rw [if_pos y, if_pos y, if_pos ((im_sub hp hj).mpr y)]; omega
      · rw [if_neg y, if_neg y, if_neg (fun z => y ((im_sub hp hj).mp z))]; rfl)
    rw [e1, sumI_add, sumI_mul, a]
    omega) (2 ^ e - s) s hs (Nat.le_refl _)
  have q2 : ((G s : Nat) : Int) - ((H (imS im e s) : Nat) : Int) = 0 := q
  omega
/-- the ranks are told by the bases -/
theorem rk_bases {r1 r2 : Nat → Nat} (h1 : Mtr e r1) (h2 : Mtr e r2) (hp : PmI im e) (h : ∀ s, s < 2 ^ e → (bsB r1 e s = true ↔ bsB r2 e (imS im e s) = true)) {s : Nat} (hs : s < 2 ^ e) : r1 s = r2 (imS im e s) := by
  have he := h1.1
  have h0 := p2_pos e
  have big : ∀ {r : Nat → Nat}, Mtr e r → ∀ {u : Nat}, u < 2 ^ e → ∃ B, B < 2 ^ e ∧ bsB r e B = true ∧ r u ≤ bc (B &&& u) := fun {r} hr {u} hu => by
    obtain ⟨t, t1, t2, t3, t4⟩ := hr.inner hu
    obtain ⟨B, b1, b2, -, b4, b5⟩ := hr.grow (s := 2 ^ e - 1) (by omega) (10 - bc t) t t1 (Nat.le_refl _) (sbs_all t1) t3
    refine ⟨B, b1, bsB_iff.mpr ⟨b4, by omega⟩, ?_⟩
    have := bc_sbs he (q := t) (s := B &&& u) (Nat.lt_of_le_of_lt Nat.and_le_left b1) (fun i hi => by rw [Nat.testBit_and, b2 i hi, t2 i hi]; rfl)
    omega
  have low : ∀ {r : Nat → Nat}, Mtr e r → ∀ {B u : Nat}, B < 2 ^ e → u < 2 ^ e → bsB r e B = true → bc (B &&& u) ≤ r u := fun {r} hr {B u} hB hu hb => by
    have q := hr.her hB (sbs_al B u) (bsB_iff.mp hb).1
    have m := hr.mono hu (sbs_ar B u)
    omega
  have l1 : r1 s ≤ r2 (imS im e s) := by
    obtain ⟨B, b1, b2, b3⟩ := big h1 hs
    have q := low h2 (imS_lt hp) (imS_lt hp) ((h B b1).mp b2) (u := imS im e s)
    rw [← imS_and hp, imS_bc he hp _ _ (Nat.le_refl _) (Nat.lt_of_le_of_lt Nat.and_le_left b1)] at q
    omega
  have l2 : r2 (imS im e s) ≤ r1 s := by
    obtain ⟨B, b1, b2, b3⟩ := big h2 (imS_lt hp (s := s))
    obtain ⟨B0, c1, c2⟩ := imS_sur he hp b1
    subst c2
    have q := low h1 c1 hs ((h B0 c1).mpr b2)
    rw [← imS_and hp, imS_bc he hp _ _ (Nat.le_refl _) (Nat.lt_of_le_of_lt Nat.and_le_left c1)] at b3
    omega
  omega
end Aw
