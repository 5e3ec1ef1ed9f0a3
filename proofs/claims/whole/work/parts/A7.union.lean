/-! The mathematics: the union of two matroids is one -/
section A7
variable {e : Nat} {rk r1 r2 r : Nat → Nat}
theorem cnt_mod (p q : Nat → Bool) : ∀ n, cnt (fun i => p i || q i) n + cnt (fun i => p i && q i) n = cnt p n + cnt q n := by
  intro n
  induction n with
  | zero => rfl
  | succ n ih =>
    show cnt (fun i => p i || q i) n + (if (p n || q n) = true then 1 else 0) + (cnt (fun i => p i && q i) n + (if (p n && q n) = true then 1 else 0)) = cnt p n + (if p n = true then 1 else 0) + (cnt q n + (if q n = true then 1 else 0))
    cases p n <;> cases q n <;> simp <;> omega
theorem cnt_dif (p q : Nat → Bool) : ∀ n, cnt (fun i => p i && !q i) n + cnt (fun i => p i && q i) n = cnt p n := by
  intro n
  induction n with
  | zero => rfl
  | succ n ih =>
    show cnt (fun i => p i && !q i) n + (if (p n && !q n) = true then 1 else 0) + (cnt (fun i => p i && q i) n + (if (p n && q n) = true then 1 else 0)) = cnt p n + (if p n = true then 1 else 0)
    cases p n <;> cases q n <;> simp <;> omega
theorem bc_mod (he : e ≤ 10) {a b : Nat} (ha : a < 2 ^ e) (hb : b < 2 ^ e) : bc (a ||| b) + bc (a &&& b) = bc a + bc b := by
  have q := cnt_mod (fun i => a.testBit i) (fun i => b.testBit i) e
  rw [← cnt_bc e (by omega) _ ha, ← cnt_bc e (by omega) _ hb, ← cnt_bc e (by omega) _ (or_lt ha hb), ← cnt_bc e (by omega) _ (Nat.lt_of_le_of_lt Nat.and_le_left ha : a &&& b < 2 ^ e)]
  rw [show (fun i => (a ||| b).testBit i) = (fun i => a.testBit i || b.testBit i) from funext fun i => Nat.testBit_or _ _ _, show (fun i => (a &&& b).testBit i) = (fun i => a.testBit i && b.testBit i) from funext fun i => Nat.testBit_and _ _ _]
  exact q
theorem bc_dif (he : e ≤ 10) {a b : Nat} (ha : a < 2 ^ e) : bc (sdf a b) + bc (a &&& b) = bc a := by
  have q := cnt_dif (fun i => a.testBit i) (fun i => b.testBit i) e
  rw [← cnt_bc e (by omega) _ ha, ← cnt_bc e (by omega) _ (sdf_lt ha : sdf a b < 2 ^ e), ← cnt_bc e (by omega) _ (Nat.lt_of_le_of_lt Nat.and_le_left ha : a &&& b < 2 ^ e)]
  rw [show (fun i => (sdf a b).testBit i) = (fun i => a.testBit i && !b.testBit i) from funext fun i => sdf_bit _ _ _, show (fun i => (a &&& b).testBit i) = (fun i => a.testBit i && b.testBit i) from funext fun i => Nat.testBit_and _ _ _]
  exact q
theorem bc_dif2 (he : e ≤ 10) {s t : Nat} (hs : s < 2 ^ e) (h : sbs t s) : bc (sdf s t) + bc t = bc s := by
  have q := bc_dif (b := t) he hs
  rw [Nat.and_comm, sbs_and.mp h] at q
  exact q
theorem or_dif {s t : Nat} (h : sbs t s) : t ||| sdf s t = s := by
  apply Nat.eq_of_testBit_eq
  intro i
  rw [Nat.testBit_or, sdf_bit]
  cases hb : t.testBit i
  · cases s.testBit i <;> rfl
  · rw [h i hb]; rfl
theorem Mtr.her (hM : Mtr e rk) {q s : Nat} (hs : s < 2 ^ e) (h : sbs q s) (hi : rk s = bc s) : rk q = bc q := by
  have hq : q < 2 ^ e := Nat.lt_of_le_of_lt (sbs_le h) hs
  have a := (hM.add hq (sdf_lt hs : sdf s q < 2 ^ e)).2
  rw [or_dif h] at a
  have b := bc_dif2 hM.1 hs h
  have c := hM.le_bc hq
  omega
theorem parM_iff {s : Nat} : parM r1 r2 s = true ↔ ∃ a, sbs a s ∧ r1 a = bc a ∧ r2 (sdf s a) = bc (sdf s a) := by
  constructor
  · intro h
    unfold parM frB at h
    obtain ⟨a, ha, q⟩ := anyB_iff.mp h
    rw [Bool.and_eq_true, Bool.and_eq_true, beq_iff_eq, beq_iff_eq, beq_iff_eq] at q
    exact ⟨a, sbs_and.mpr q.1, q.2.1, q.2.2⟩
  · rintro ⟨a, h1, h2, h3⟩
    refine parM_t (p := a) (sbs_and.mp h1) ?_
    unfold frB
    rw [Bool.and_eq_true, beq_iff_eq, beq_iff_eq]
    exact ⟨h2, h3⟩
theorem sbs_al (a t : Nat) : sbs (a &&& t) a := fun i hi => by rw [Nat.testBit_and, Bool.and_eq_true] at hi; exact hi.1
theorem sbs_ar (a t : Nat) : sbs (a &&& t) t := fun i hi => by rw [Nat.testBit_and, Bool.and_eq_true] at hi; exact hi.2
theorem uni_up (h1 : Mtr e r1) (h2 : Mtr e r2) {q s t : Nat} (hs : s < 2 ^ e) (ht : sbs t s) (hq : sbs q s) (hp : parM r1 r2 q = true) : bc q ≤ r1 t + r2 t + bc (sdf s t) := by
  have he := h1.1
  obtain ⟨a, a1, a2, a3⟩ := parM_iff.mp hp
  have hqe : q < 2 ^ e := Nat.lt_of_le_of_lt (sbs_le hq) hs
  have hae : a < 2 ^ e := Nat.lt_of_le_of_lt (sbs_le a1) hqe
  have hbe : sdf q a < 2 ^ e := sdf_lt hqe
  have hte : t < 2 ^ e := Nat.lt_of_le_of_lt (sbs_le ht) hs
  have b1 := bc_dif (b := t) he hqe
  have b2 : bc (sdf q t) ≤ bc (sdf s t) := bc_sbs he (sdf_lt hs) (fun i hi => by
    rw [sdf_bit, Bool.and_eq_true] at hi ⊢
    exact ⟨hq i hi.1, hi.2⟩)
  have b3 : bc (q &&& t) ≤ bc (a &&& t) + bc (sdf q a &&& t) := by
    have hx : a &&& t < 2 ^ e := Nat.lt_of_le_of_lt Nat.and_le_left hae
    have hy : sdf q a &&& t < 2 ^ e := Nat.lt_of_le_of_lt Nat.and_le_left hbe
    have m := bc_mod he hx hy
    have z : bc (q &&& t) ≤ bc ((a &&& t) ||| (sdf q a &&& t)) := bc_sbs he (or_lt hx hy) (fun i hi => by
      rw [Nat.testBit_and, Bool.and_eq_true] at hi
      rw [Nat.testBit_or, Nat.testBit_and, Nat.testBit_and, sdf_bit, hi.1, hi.2]
      cases a.testBit i <;> rfl)
    omega
  have c1 := h1.her hae (sbs_al a t) a2
  have c2 := h2.her hbe (sbs_al (sdf q a) t) a3
  have d1 := h1.mono hte (sbs_ar a t)
  have d2 := h2.mono hte (sbs_ar (sdf q a) t)
  omega
theorem and_or_in {q s x : Nat} (h : s.testBit x = true) : (q ||| 2 ^ x) &&& s = (q &&& s) ||| 2 ^ x := by
  apply Nat.eq_of_testBit_eq
  intro i
  rw [Nat.testBit_and, Nat.testBit_or, Nat.testBit_or, Nat.testBit_and, p2_testBit]
  by_cases g : x = i
  · subst g; rw [h, decide_eq_true rfl]; cases q.testBit x <;> rfl
  · rw [decide_eq_false g, Bool.or_false, Bool.or_false]
theorem and_or_out {q s x : Nat} (h : ¬ s.testBit x = true) : (q ||| 2 ^ x) &&& s = q &&& s := by
  rw [Bool.not_eq_true] at h
  apply Nat.eq_of_testBit_eq
  intro i
  rw [Nat.testBit_and, Nat.testBit_or, Nat.testBit_and, p2_testBit]
  by_cases g : x = i
  · subst g; rw [h, Bool.and_false, Bool.and_false]
  · rw [decide_eq_false g, Bool.or_false]
theorem Mtr.restr (hM : Mtr e rk) (s : Nat) : Mtr e (fun q => rk (q &&& s)) := by
  have hl : ∀ q, q < 2 ^ e → q &&& s < 2 ^ e := fun q hq => Nat.lt_of_le_of_lt Nat.and_le_left hq
  refine Mtr.mk1 hM.1 (by show rk (0 &&& s) = 0; rw [Nat.zero_and]; exact hM.2.1) (fun q x hq hx g => ?_) (fun q x y hq hx hy hxy g1 g2 => ?_)
  · show rk (q &&& s) ≤ rk ((q ||| 2 ^ x) &&& s) ∧ rk ((q ||| 2 ^ x) &&& s) ≤ rk (q &&& s) + 1
    by_cases h : s.testBit x = true
    · rw [and_or_in h]; exact hM.2.2.1 _ x (hl q hq) hx
    · rw [and_or_out h]; omega
  · show rk ((q ||| 2 ^ x ||| 2 ^ y) &&& s) + rk (q &&& s) ≤ rk ((q ||| 2 ^ x) &&& s) + rk ((q ||| 2 ^ y) &&& s)
    by_cases h : s.testBit x = true
    · by_cases h2 : s.testBit y = true
      · rw [and_or_in h2, and_or_in h, and_or_in h2]
        exact hM.dim (hl q hq) (bit_lt hx) (bit_lt hy)
      · rw [and_or_out h2, and_or_out h2]; omega
    · by_cases h2 : s.testBit y = true
      · rw [and_or_in h2, and_or_out h, and_or_in h2]; omega
      · rw [and_or_out h2, and_or_out h, and_or_out h2]; omega
theorem uni_at (h1 : Mtr e r1) (h2 : Mtr e r2) {s k : Nat} (hs : s < 2 ^ e) (hk : ∀ t, sbs t s → k ≤ r1 t + r2 t + bc (sdf s t)) : ∃ q, sbs q s ∧ parM r1 r2 q = true ∧ k ≤ bc q := by
  have he := h1.1
  have hp := p2_pos e
  have b0 : bc 0 = 0 := rfl
  have hD : Mtr e (dualR (fun q => r2 (q &&& s)) e) := (h2.restr s).dualM
  have hdv : ∀ q, sbs q s → dualR (fun q => r2 (q &&& s)) e q = bc q + r2 (sdf s q) - r2 s := fun q hq => by
    unfold dualR
    have e1 : sdf (2 ^ e - 1) q &&& s = sdf s q := by
      apply Nat.eq_of_testBit_eq
      intro i
      rw [Nat.testBit_and, sdf_bit, sdf_bit, all_bit]
      cases hb : s.testBit i
      · rw [Bool.and_false]; rfl
      · have hi : i < e := by
          apply Classical.byContradiction
          intro g
          rw [Nat.testBit_lt_two_pow (Nat.lt_of_lt_of_le hs (Nat.pow_le_pow_right (by decide) (by omega)))] at hb
          cases hb
        rw [decide_eq_true hi, Bool.and_true]
    have e2 : (2 ^ e - 1) &&& s = s := by rw [Nat.and_comm]; exact sbs_and.mp (sbs_all hs)
    show bc q + r2 (sdf (2 ^ e - 1) q &&& s) - r2 ((2 ^ e - 1) &&& s) = _
    rw [e1, e2]
  have hge : ∀ t, sbs t s → r2 s ≤ bc (sdf s t) + r2 t := fun t ht => by
    have hte : t < 2 ^ e := Nat.lt_of_le_of_lt (sbs_le ht) hs
    have a := (h2.add hte (sdf_lt hs : sdf s t < 2 ^ e)).2
    rw [or_dif ht] at a
    omega
  have sdd : ∀ t, sbs t s → sdf s (sdf s t) = t := fun t ht => by
    apply Nat.eq_of_testBit_eq
    intro i
    rw [sdf_bit, sdf_bit]
    cases hb : t.testBit i
    · cases s.testBit i <;> rfl
    · rw [ht i hb]; rfl
  have sds : ∀ t, sbs (sdf s t) s := fun t i hi => by rw [sdf_bit, Bool.and_eq_true] at hi; exact hi.1
  obtain ⟨a, a1, a2, a3, a4⟩ := inter_ind h1 hD (bc s) s 0 (k - r2 s) (Nat.le_refl _) hs hp (fun i _ => Nat.zero_testBit i) (by rw [h1.2.1]; rfl) (by rw [hD.2.1]; rfl) (fun t ht => by
    rw [Nat.or_zero, Nat.or_zero, hdv _ (sds t), sdd t ht]
    have x1 := hk t ht
    have x2 := hge t ht
    omega)
  rw [Nat.or_zero] at a3 a4
  rw [hdv a a1] at a4
  have hae : a < 2 ^ e := Nat.lt_of_le_of_lt (sbs_le a1) hs
  have x3 := h2.mono hs (sds a)
  have x4 := hge a a1
  have hse : sdf s a < 2 ^ e := sdf_lt hs
  have x5 : r2 (sdf s a) = r2 s := by
    have x6 := (h2.add (sdf_lt hs : sdf s a < 2 ^ e) hae).2
    rw [show sdf s a ||| a = s by rw [Nat.or_comm]; exact or_dif a1] at x6
    omega
  obtain ⟨b, b1, b2, b3, b4⟩ := h2.inner hse
  have hab : ∀ i, a.testBit i = true → b.testBit i = false := fun i hi => by
    cases hb : b.testBit i
    · rfl
    · have z := b2 i hb
      rw [sdf_bit, hi] at z
      cases hs9 : s.testBit i <;> rw [hs9] at z <;> cases z
  have e1 : sdf (a ||| b) a = b := by
    apply Nat.eq_of_testBit_eq
    intro i
    rw [sdf_bit, Nat.testBit_or]
    cases ha : a.testBit i
    · cases b.testBit i <;> rfl
    · rw [hab i ha]; rfl
  have e2 : a &&& b = 0 := by
    apply Nat.eq_of_testBit_eq
    intro i
    rw [Nat.testBit_and, Nat.zero_testBit]
    cases ha : a.testBit i
    · rfl
    · rw [hab i ha]; rfl
  have m := bc_mod he hae b1
  rw [e2] at m
  refine ⟨a ||| b, fun i hi => ?_, parM_iff.mpr ⟨a, fun i hi => by rw [Nat.testBit_or, hi]; rfl, by omega, by rw [e1]; exact b3⟩, by omega⟩
  rw [Nat.testBit_or, Bool.or_eq_true] at hi
  rcases hi with z | z
  · exact a1 i z
  · exact sds a i (b2 i z)
/-- the rank of a union, told by its covers -/
theorem uni_val (h1 : Mtr e r1) (h2 : Mtr e r2) (hL : Lrg (parM r1 r2) e r) {s : Nat} (hs : s < 2 ^ e) : (∀ t, sbs t s → r s ≤ r1 t + r2 t + bc (sdf s t)) ∧ ∃ t, sbs t s ∧ r s = r1 t + r2 t + bc (sdf s t) := by
  have b0 : bc 0 = 0 := rfl
  obtain ⟨⟨q, q1, q2, q3⟩, hm⟩ := hL s hs
  have up : ∀ t, sbs t s → r s ≤ r1 t + r2 t + bc (sdf s t) := fun t ht => by
    rcases q2 with z | z
    · rw [← q3]; exact uni_up h1 h2 hs ht q1 z
    · subst z; omega
  refine ⟨up, Classical.byContradiction fun hno => ?_⟩
  obtain ⟨q', z1, z2, z3⟩ := uni_at h1 h2 (k := r s + 1) hs (fun t ht => by
    have a := up t ht
    have b : r s ≠ r1 t + r2 t + bc (sdf s t) := fun z => hno ⟨t, ht, z⟩
    omega)
  have := hm q' z1 z2
  omega
theorem Mtr.union (h1 : Mtr e r1) (h2 : Mtr e r2) (hL : Lrg (parM r1 r2) e r) : Mtr e r := by
  have he := h1.1
  have b0 : bc 0 = 0 := rfl
  have sup : ∀ s x, sbs s (s ||| 2 ^ x) := fun s x i hi => by rw [Nat.testBit_or, hi]; rfl
  refine Mtr.mk1 he ?_ (fun s x hs hx g => ?_) (fun s x y hs hx hy hxy g1 g2 => ?_)
  · have a := (uni_val h1 h2 hL (p2_pos e)).1 0 (sbs_refl 0)
    rw [h1.2.1, h2.2.1, show sdf 0 0 = 0 from rfl] at a
    omega
  · have hsx : s ||| 2 ^ x < 2 ^ e := or_lt hs (bit_lt hx)
    obtain ⟨u1, t1, t2, t3⟩ := uni_val h1 h2 hL hs
    obtain ⟨v1, w1, w2, w3⟩ := uni_val h1 h2 hL hsx
    constructor
    · have hw : sbs (w1 &&& s) s := sbs_ar w1 s
      have a := u1 (w1 &&& s) hw
      have c1 := h1.mono (Nat.lt_of_le_of_lt (sbs_le w2) hsx) (sbs_al w1 s)
      have c2 := h2.mono (Nat.lt_of_le_of_lt (sbs_le w2) hsx) (sbs_al w1 s)
      have c3 : bc (sdf s (w1 &&& s)) ≤ bc (sdf (s ||| 2 ^ x) w1) := bc_sbs he (sdf_lt hsx) (fun i hi => by
        rw [sdf_bit, Nat.testBit_and] at hi
        rw [sdf_bit, Nat.testBit_or]
        revert hi
        cases s.testBit i <;> cases w1.testBit i <;> cases (2 ^ x).testBit i <;> decide)
      omega
    · have a := v1 t1 (sbs_tr t2 (sup s x))
      have c3 : bc (sdf (s ||| 2 ^ x) t1) ≤ bc (sdf s t1) + 1 := by
        have d1 := bc_dif2 he hsx (sbs_tr t2 (sup s x))
        have d2 := bc_dif2 he hs t2
        have d3 := bc_add he hs hx g
        omega
      omega
  · have hsx : s ||| 2 ^ x < 2 ^ e := or_lt hs (bit_lt hx)
    have hsy : s ||| 2 ^ y < 2 ^ e := or_lt hs (bit_lt hy)
    have hsxy : s ||| 2 ^ x ||| 2 ^ y < 2 ^ e := or_lt hsx (bit_lt hy)
    obtain ⟨-, t1, t2, t3⟩ := uni_val h1 h2 hL hsx
    obtain ⟨-, w1, w2, w3⟩ := uni_val h1 h2 hL hsy
    have hte : t1 < 2 ^ e := Nat.lt_of_le_of_lt (sbs_le t2) hsx
    have hwe : w1 < 2 ^ e := Nat.lt_of_le_of_lt (sbs_le w2) hsy
    have i1 : sbs (t1 ||| w1) (s ||| 2 ^ x ||| 2 ^ y) := fun i hi => by
      rw [Nat.testBit_or, Bool.or_eq_true] at hi
      rcases hi with z | z
      · exact sup _ y i (t2 i z)
      · have q := w2 i z
        rw [Nat.testBit_or] at q
        rw [Nat.testBit_or, Nat.testBit_or]
        revert q
        cases s.testBit i <;> cases (2 ^ x).testBit i <;> cases (2 ^ y).testBit i <;> decide
    have i2 : sbs (t1 &&& w1) s := fun i hi => by
      rw [Nat.testBit_and, Bool.and_eq_true] at hi
      have q1 := t2 i hi.1
      have q2 := w2 i hi.2
      rw [Nat.testBit_or, p2_testBit] at q1 q2
      by_cases g : x = i
      · subst g
        rw [decide_eq_false (Ne.symm hxy), Bool.or_false] at q2
        exact q2
      · rw [decide_eq_false g, Bool.or_false] at q1
        exact q1
    have a1 := (uni_val h1 h2 hL hsxy).1 _ i1
    have a2 := (uni_val h1 h2 hL hs).1 _ i2
    have s1 := h1.sub hte hwe
    have s2 := h2.sub hte hwe
    have d1 := bc_dif2 he hsxy i1
    have d2 := bc_dif2 he hs i2
    have d3 := bc_dif2 he hsx t2
    have d4 := bc_dif2 he hsy w2
    have d5 := bc_mod he hte hwe
    have k1 := bc_add he hs hx g1
    have k2 := bc_add he hs hy g2
    have k3 := bc_add he hsx hy (or_tb g2 hxy)
    omega
end A7
