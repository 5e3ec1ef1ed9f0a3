/-! The mathematics: the sorts of sets are the same; relaxed, extended -/
section A2
variable {e : Nat} {rk : Nat → Nat}
theorem xor_in {s k : Nat} (h : s.testBit k = true) : s ^^^ 2 ^ k = sdf s (2 ^ k) := by
  apply Nat.eq_of_testBit_eq
  intro i
  rw [Nat.testBit_xor, sdf_bit, p2_testBit]
  by_cases g : k = i
  · subst g; rw [h, decide_eq_true rfl]; rfl
  · rw [decide_eq_false g]; cases s.testBit i <;> rfl
theorem xor_out {s k : Nat} (h : ¬ s.testBit k = true) : s ^^^ 2 ^ k = s ||| 2 ^ k := by
  rw [Bool.not_eq_true] at h
  apply Nat.eq_of_testBit_eq
  intro i
  rw [Nat.testBit_xor, Nat.testBit_or, p2_testBit]
  by_cases g : k = i
  · subst g; rw [h, decide_eq_true rfl]; rfl
  · rw [decide_eq_false g]; cases s.testBit i <;> rfl
theorem rem_or {s k : Nat} (h : s.testBit k = true) : sdf s (2 ^ k) ||| 2 ^ k = s := by
  apply Nat.eq_of_testBit_eq
  intro i
  rw [Nat.testBit_or, sdf_bit, p2_testBit]
  by_cases g : k = i
  · subst g; rw [h, decide_eq_true rfl]; rfl
  · rw [decide_eq_false g]; cases s.testBit i <;> rfl
theorem rem_nt {s k : Nat} : ¬ (sdf s (2 ^ k)).testBit k = true := by
  rw [sdf_bit, p2_testBit, decide_eq_true rfl]
  cases s.testBit k <;> decide
theorem bc_rem (he : e ≤ 10) {s k : Nat} (hs : s < 2 ^ e) (hk : k < e) (h : s.testBit k = true) : bc s = bc (sdf s (2 ^ k)) + 1 := by
  have q := bc_add he (sdf_lt hs : sdf s (2 ^ k) < 2 ^ e) hk rem_nt
  rw [rem_or h] at q
  exact q
theorem Mtr.rem (hM : Mtr e rk) {s k : Nat} (hs : s < 2 ^ e) (hk : k < e) (h : s.testBit k = true) : rk (sdf s (2 ^ k)) ≤ rk s ∧ rk s ≤ rk (sdf s (2 ^ k)) + 1 := by
  have q := hM.2.2.1 (sdf s (2 ^ k)) k (sdf_lt hs) hk
  rw [rem_or h] at q
  exact q
theorem some_bit {s : Nat} (hs : s < 2 ^ e) (h0 : s ≠ 0) : ∃ k, k < e ∧ s.testBit k = true := by
  apply Classical.byContradiction
  intro q
  apply h0
  apply Nat.eq_of_testBit_eq
  intro i
  rw [Nat.zero_testBit]
  by_cases g : i < e
  · cases hb : s.testBit i
    · rfl
    · exact absurd ⟨i, g, hb⟩ q
  · exact Nat.testBit_lt_two_pow (Nat.lt_of_lt_of_le hs (Nat.pow_le_pow_right (by decide) (by omega)))
theorem cirM_iff {s : Nat} : ∀ n, cirM rk s n = true ↔ rk s ≠ bc s ∧ ∀ k, k < n → s.testBit k = true → rk (sdf s (2 ^ k)) = bc (sdf s (2 ^ k)) := by
  intro n
  induction n with
  | zero =>
    show (!frB rk s) = true ↔ _
    unfold frB
    rw [Bool.not_eq_true', beq_eq_false_iff_ne]
    exact ⟨fun h => ⟨h, fun k hk => absurd hk (Nat.not_lt_zero k)⟩, fun h => h.1⟩
  | succ n ih =>
    show (cirM rk s n && (!s.testBit n || frB rk (sdf s (2 ^ n)))) = true ↔ _
    unfold frB
    rw [Bool.and_eq_true, ih, Bool.or_eq_true, Bool.not_eq_true', beq_iff_eq]
    constructor
    · rintro ⟨⟨h1, h2⟩, h3⟩
      refine ⟨h1, fun k hk hb => ?_⟩
      by_cases g : k = n
      · subst g
        rcases h3 with h3 | h3
        · rw [hb] at h3; cases h3
        · exact h3
      · exact h2 k (by omega) hb
    · rintro ⟨h1, h2⟩
      refine ⟨⟨h1, fun k hk hb => h2 k (by omega) hb⟩, ?_⟩
      cases hb : s.testBit n
      · exact Or.inl rfl
      · exact Or.inr (h2 n (by omega) hb)
theorem Mtr.circ (hM : Mtr e rk) {s : Nat} (hs : s < 2 ^ e) : circN rk e s = cirM rk s e := by
  rw [Bool.eq_iff_iff, cirM_iff]
  unfold circN
  rw [Bool.and_eq_true, decide_eq_true_eq, allB_iff]
  have hb := hM.le_bc hs
  constructor
  · rintro ⟨h1, h2⟩
    refine ⟨by omega, fun k hk hbk => ?_⟩
    have q := h2 k hk
    rw [hbk, Bool.not_true, Bool.false_or, decide_eq_true_eq, xor_in hbk] at q
    have b := bc_rem hM.1 hs hk hbk
    omega
  · rintro ⟨h1, h2⟩
    have h0 : s ≠ 0 := fun z => by
      subst z
      exact h1 hM.2.1
    obtain ⟨k0, hk0, hb0⟩ := some_bit hs h0
    have q0 := h2 k0 hk0 hb0
    have b0 := bc_rem hM.1 hs hk0 hb0
    have r0 := hM.rem hs hk0 hb0
    refine ⟨by omega, fun k hk => ?_⟩
    cases hbk : s.testBit k
    · rfl
    · rw [Bool.not_true, Bool.false_or, decide_eq_true_eq, xor_in hbk]
      have q := h2 k hk hbk
      have b := bc_rem hM.1 hs hk hbk
      omega
def exF (rk : Nat → Nat) (sp u : Nat) : Nat := if rk (u ||| sp) = rk u then 0 else 1
theorem Mtr.mono1 (hM : Mtr e rk) {u v : Nat} (hu : u < 2 ^ e) (hv : v < 2 ^ e) : rk u ≤ rk (u ||| v) := (hM.add hu hv).1
theorem Mtr.exF_dn (hM : Mtr e rk) {sp u x : Nat} (hsp : sp < 2 ^ e) (hu : u < 2 ^ e) (hx : x < e) : exF rk sp (u ||| 2 ^ x) ≤ exF rk sp u := by
  unfold exF
  by_cases g : rk (u ||| sp) = rk u
  · have d := hM.dim hu (bit_lt hx) hsp
    have m1 := hM.mono1 (or_lt hu (bit_lt hx)) hsp
    rw [if_pos g, if_pos (by omega)]
    exact Nat.le_refl _
  · rw [if_neg g]
    split <;> omega
theorem Mtr.exF_same (hM : Mtr e rk) {sp u x : Nat} (hsp : sp < 2 ^ e) (hu : u < 2 ^ e) (hx : x < e) (h : rk (u ||| 2 ^ x) = rk u) : exF rk sp u ≤ exF rk sp (u ||| 2 ^ x) := by
  unfold exF
  by_cases g : rk (u ||| sp) = rk u
  · rw [if_pos g]; exact Nat.zero_le _
  · rw [if_neg g, if_neg]
    · exact Nat.le_refl _
    · have m1 := hM.mono1 hu hsp
      have m2 := hM.mono1 (or_lt hu hsp) (bit_lt hx)
      rw [or_swap] at m2
      omega
theorem Mtr.exF_two (hM : Mtr e rk) {sp u x y : Nat} (hsp : sp < 2 ^ e) (hu : u < 2 ^ e) (hx : x < e) (hy : y < e) (h : exF rk sp u = 1) (h1 : exF rk sp (u ||| 2 ^ x) = 0) (h2 : exF rk sp (u ||| 2 ^ y) = 0) : rk (u ||| 2 ^ x ||| 2 ^ y) ≤ rk u + 1 := by
  unfold exF at h h1 h2
  have g : rk (u ||| sp) ≠ rk u := fun q => by rw [if_pos q] at h; cases h
  have g1 : rk (u ||| 2 ^ x ||| sp) = rk (u ||| 2 ^ x) := Classical.byContradiction fun q => by rw [if_neg q] at h1; cases h1
  have g2 : rk (u ||| 2 ^ y ||| sp) = rk (u ||| 2 ^ y) := Classical.byContradiction fun q => by rw [if_neg q] at h2; cases h2
  have m := hM.mono1 hu hsp
  have a1 := hM.2.2.1 u x hu hx
  have a2 := hM.2.2.1 u y hu hy
  have d := hM.dim (or_lt hu hsp) (bit_lt hx) (bit_lt hy)
  rw [or_swap u sp, or_swap u sp, g1, g2] at d
  have m2 := hM.mono1 (or_lt (or_lt hu (bit_lt hx)) (bit_lt hy)) hsp
  rw [or_swap (u ||| 2 ^ x) (2 ^ y) sp] at m2
  omega
theorem low_or {s x : Nat} (hx : x < e) : (s ||| 2 ^ x) % 2 ^ e = s % 2 ^ e ||| 2 ^ x := by
  apply Nat.eq_of_testBit_eq
  intro i
  rw [Nat.testBit_mod_two_pow, Nat.testBit_or, Nat.testBit_or, Nat.testBit_mod_two_pow, p2_testBit]
  by_cases h : x = i
  · rw [decide_eq_true h, decide_eq_true (show i < e by omega)]; cases s.testBit i <;> rfl
  · rw [decide_eq_false h, Bool.or_false, Bool.or_false]
theorem low_new {s : Nat} : (s ||| 2 ^ e) % 2 ^ e = s % 2 ^ e := by
  apply Nat.eq_of_testBit_eq
  intro i
  rw [Nat.testBit_mod_two_pow, Nat.testBit_or, Nat.testBit_mod_two_pow, p2_testBit]
  by_cases h : i < e
  · rw [decide_eq_false (show ¬ e = i by omega), Bool.or_false]
  · rw [decide_eq_false h]; rfl
theorem low_ne {s : Nat} (hs : s < 2 ^ (e + 1)) : s ≠ s % 2 ^ e ↔ s.testBit e = true := by
  constructor
  · intro h
    cases hb : s.testBit e
    · exfalso
      apply h
      apply Nat.eq_of_testBit_eq
      intro i
      rw [Nat.testBit_mod_two_pow]
      by_cases g : i < e
      · rw [decide_eq_true g]; rfl
      · rw [decide_eq_false g]
        by_cases g2 : i = e
        · subst g2; rw [hb]; rfl
        · rw [Nat.testBit_lt_two_pow (Nat.lt_of_lt_of_le hs (Nat.pow_le_pow_right (by decide) (by omega)))]; rfl
    · rfl
  · intro h q
    rw [q, Nat.testBit_mod_two_pow, decide_eq_false (Nat.lt_irrefl e)] at h
    cases h
theorem ext_eq {sp s : Nat} (hs : s < 2 ^ (e + 1)) : extR rk e sp s = rk (s % 2 ^ e) + (if s.testBit e = true then exF rk sp (s % 2 ^ e) else 0) := by
  unfold extR exF
  rw [Nat.and_two_pow_sub_one_eq_mod]
  by_cases g : s.testBit e = true
  · rw [if_pos g]
    have q := (low_ne hs).mpr g
    by_cases g2 : rk (s % 2 ^ e ||| sp) = rk (s % 2 ^ e)
    · rw [if_neg (fun z => z.2 g2), if_pos g2]
    · rw [if_pos ⟨q, g2⟩, if_neg g2]
  · rw [if_neg g, if_neg (fun z => g ((low_ne hs).mp z.1))]
theorem Mtr.ext (hM : Mtr e rk) (he : e + 1 ≤ 10) {sp : Nat} (hsp : sp < 2 ^ e) : Mtr (e + 1) (extR rk e sp) := by
  have hl : ∀ s, s % 2 ^ e < 2 ^ e := fun s => Nat.mod_lt _ (p2_pos e)
  have tb : ∀ s x, x < e → (s ||| 2 ^ x).testBit e = s.testBit e := fun s x hx => by
    rw [Nat.testBit_or, p2_testBit, decide_eq_false (show ¬ x = e by omega), Bool.or_false]
  have tn : ∀ s, (s ||| 2 ^ e).testBit e = true := fun s => by
    rw [Nat.testBit_or, p2_testBit, decide_eq_true rfl, Bool.or_true]
  have f1 : ∀ u, exF rk sp u ≤ 1 := fun u => by unfold exF; split <;> omega
  refine Mtr.mk1 he ?_ (fun s x hs hx g => ?_) (fun s x y hs hx hy hxy g1 g2 => ?_)
  · rw [ext_eq (p2_pos _), Nat.zero_testBit, Nat.zero_mod, hM.2.1]
    rfl
  · have hs2 : s ||| 2 ^ x < 2 ^ (e + 1) := or_lt hs (bit_lt hx)
    rw [ext_eq hs, ext_eq hs2]
    have q := f1 (s % 2 ^ e)
    by_cases hxe : x < e
    · rw [low_or hxe, tb s x hxe]
      have a := hM.2.2.1 _ x (hl s) hxe
      have b := hM.exF_dn hsp (hl s) hxe
      by_cases gs : s.testBit e = true
      · rw [if_pos gs, if_pos gs]
        by_cases gr : rk (s % 2 ^ e ||| 2 ^ x) = rk (s % 2 ^ e)
        · have c := hM.exF_same hsp (hl s) hxe gr
          omega
        · omega
      · rw [if_neg gs, if_neg gs]; omega
    · have hxe2 : x = e := by omega
      subst hxe2
      rw [low_new, if_pos (tn s), if_neg g]
      omega
  · have hsx : s ||| 2 ^ x < 2 ^ (e + 1) := or_lt hs (bit_lt hx)
    have hsy : s ||| 2 ^ y < 2 ^ (e + 1) := or_lt hs (bit_lt hy)
    have hsxy : s ||| 2 ^ x ||| 2 ^ y < 2 ^ (e + 1) := or_lt hsx (bit_lt hy)
    rw [ext_eq hs, ext_eq hsx, ext_eq hsy, ext_eq hsxy]
    have key : ∀ z, z < e → ¬ s.testBit e = true → rk ((s ||| 2 ^ z) % 2 ^ e) + exF rk sp ((s ||| 2 ^ z) % 2 ^ e) + rk (s % 2 ^ e) ≤ rk (s % 2 ^ e) + exF rk sp (s % 2 ^ e) + rk ((s ||| 2 ^ z) % 2 ^ e) := fun z hz _ => by
      rw [low_or hz]
      have b := hM.exF_dn hsp (hl s) hz
      omega
    by_cases hxe : x < e
    · by_cases hye : y < e
      · rw [low_or hye, low_or hxe, low_or hye, tb _ y hye, tb _ x hxe, tb _ y hye]
        have d := hM.dim (hl s) (bit_lt hxe) (bit_lt hye)
        have a1 := hM.2.2.1 _ x (hl s) hxe
        have a2 := hM.2.2.1 _ y (hl s) hye
        have a3 := hM.2.2.1 _ y (or_lt (hl s) (bit_lt hxe)) hye
        have a4 := hM.2.2.1 _ x (or_lt (hl s) (bit_lt hye)) hxe
        rw [or_swap] at a4
        have b1 := hM.exF_dn hsp (hl s) hxe
        have b2 := hM.exF_dn hsp (hl s) hye
        have b3 := hM.exF_dn hsp (or_lt (hl s) (bit_lt hxe)) hye
        have b4 := hM.exF_dn hsp (or_lt (hl s) (bit_lt hye)) hxe
        rw [or_swap] at b4
        have c1 := f1 (s % 2 ^ e)
        by_cases gs : s.testBit e = true
        · rw [if_pos gs, if_pos gs, if_pos gs, if_pos gs]
          by_cases p0 : exF rk sp (s % 2 ^ e) = 1
          · by_cases p1 : exF rk sp (s % 2 ^ e ||| 2 ^ x) = 0
            · have s1 : rk (s % 2 ^ e ||| 2 ^ x) ≠ rk (s % 2 ^ e) := fun z => by have := hM.exF_same hsp (hl s) hxe z; omega
              by_cases p2 : exF rk sp (s % 2 ^ e ||| 2 ^ y) = 0
              · have s2 : rk (s % 2 ^ e ||| 2 ^ y) ≠ rk (s % 2 ^ e) := fun z => by have := hM.exF_same hsp (hl s) hye z; omega
                have t := hM.exF_two hsp (hl s) hxe hye p0 p1 p2
                omega
              · omega
            · by_cases p2 : exF rk sp (s % 2 ^ e ||| 2 ^ y) = 0
              · have s2 : rk (s % 2 ^ e ||| 2 ^ y) ≠ rk (s % 2 ^ e) := fun z => by have := hM.exF_same hsp (hl s) hye z; omega
                omega
              · omega
          · omega
        · rw [if_neg gs, if_neg gs, if_neg gs, if_neg gs]; omega
      · have hye2 : y = e := by omega
        subst hye2
        rw [low_new, low_new, if_pos (tn _), if_pos (tn _), if_neg g2, tb s x hxe, if_neg g2]
        have := key x hxe g2
        omega
    · have hxe2 : x = e := by omega
      subst hxe2
      have hye : y < x := by omega
      rw [or_swap s (2 ^ x) (2 ^ y), low_new, low_new, if_pos (tn _), if_pos (tn _), if_neg g1, tb s y hye, if_neg g1]
      have := key y hye g1
      omega
theorem Mtr.relax (hM : Mtr e rk) {t : Nat} (ht : t < 2 ^ e) (c1 : rk t + 1 = rk (2 ^ e - 1)) (c2 : ∀ x, x < e → ¬ t.testBit x = true → rk (t ||| 2 ^ x) = rk (2 ^ e - 1)) (c3 : ∀ x, x < e → t.testBit x = true → rk (sdf t (2 ^ x)) = bc (sdf t (2 ^ x))) (c4 : rk t + 1 = bc t) : Mtr e (fun s => if s = t then rk (2 ^ e - 1) else rk s) := by
  have he := hM.1
  have ne1 : ∀ u x, ¬ u.testBit x = true → u ||| 2 ^ x ≠ u := fun u x g q => g (by rw [← q, Nat.testBit_or, p2_testBit, decide_eq_true rfl, Bool.or_true])
  have nm : ∀ u x, u ||| 2 ^ x = t → t.testBit x = true := fun u x q => by rw [← q, Nat.testBit_or, p2_testBit, decide_eq_true rfl, Bool.or_true]
  have rm : ∀ u x, ¬ u.testBit x = true → u ||| 2 ^ x = t → u = sdf t (2 ^ x) := fun u x g q => by
    rw [← q]
    apply Nat.eq_of_testBit_eq
    intro i
    rw [sdf_bit, Nat.testBit_or, p2_testBit]
    by_cases h : x = i
    · subst h
      rw [decide_eq_true rfl]
      rw [Bool.not_eq_true] at g
      rw [g]
      rfl
    · rw [decide_eq_false h]; cases u.testBit i <;> rfl
  have rk1 : ∀ u x, x < e → ¬ u.testBit x = true → u ||| 2 ^ x = t → rk u = rk t := fun u x hx g q => by
    have a := c3 x hx (nm u x q)
    have b := bc_rem he ht hx (nm u x q)
    rw [← rm u x g q] at a b
    omega
  refine Mtr.mk1 he ?_ (fun s x hs hx g => ?_) (fun s x y hs hx hy hxy g1 g2 => ?_)
  · show (if 0 = t then rk (2 ^ e - 1) else rk 0) = 0
    rw [if_neg, hM.2.1]
    intro q
    subst q
    have : bc 0 = 0 := rfl
    omega
  · show (if s = t then rk (2 ^ e - 1) else rk s) ≤ (if s ||| 2 ^ x = t then rk (2 ^ e - 1) else rk (s ||| 2 ^ x)) ∧ (if s ||| 2 ^ x = t then rk (2 ^ e - 1) else rk (s ||| 2 ^ x)) ≤ (if s = t then rk (2 ^ e - 1) else rk s) + 1
    have a := hM.2.2.1 s x hs hx
    by_cases h1 : s = t
    · subst h1
      rw [if_pos rfl, if_neg (ne1 s x g), c2 x hx g]
      omega
    · rw [if_neg h1]
      by_cases h2 : s ||| 2 ^ x = t
      · have b := rk1 s x hx g h2
        rw [if_pos h2]
        omega
      · rw [if_neg h2]; exact a
  · show (if s ||| 2 ^ x ||| 2 ^ y = t then rk (2 ^ e - 1) else rk (s ||| 2 ^ x ||| 2 ^ y)) + (if s = t then rk (2 ^ e - 1) else rk s) ≤ (if s ||| 2 ^ x = t then rk (2 ^ e - 1) else rk (s ||| 2 ^ x)) + (if s ||| 2 ^ y = t then rk (2 ^ e - 1) else rk (s ||| 2 ^ y))
    have d := hM.dim hs (bit_lt hx) (bit_lt hy)
    have g3 := or_tb g2 hxy
    have g4 := or_tb g1 (Ne.symm hxy)
    have hsx : s ||| 2 ^ x < 2 ^ e := or_lt hs (bit_lt hx)
    have hsy : s ||| 2 ^ y < 2 ^ e := or_lt hs (bit_lt hy)
    have a1 := hM.2.2.1 s x hs hx
    have a2 := hM.2.2.1 s y hs hy
    have a3 := hM.2.2.1 _ y hsx hy
    have a4 := hM.2.2.1 _ x hsy hx
    have le1 := hM.le_all (or_lt hsx (bit_lt hy))
    have le2 := hM.le_all hsx
    have le3 := hM.le_all hsy
    by_cases h1 : s = t
    · subst h1
      rw [if_pos rfl, if_neg (ne1 s x g1), if_neg (ne1 s y g2), if_neg (fun q => g2 (nm _ y q)), c2 x hx g1, c2 y hy g2]
      omega
    · rw [if_neg h1]
      by_cases h2 : s ||| 2 ^ x = t
      · have b := rk1 s x hx g1 h2
        rw [if_pos h2, if_neg (fun q => ne1 _ y g3 (q.trans h2.symm)), if_neg (fun q : s ||| 2 ^ y = t => g4 (by rw [q]; exact nm s x h2))]
        omega
      · rw [if_neg h2]
        by_cases h3 : s ||| 2 ^ y = t
        · have b := rk1 s y hy g2 h3
          rw [if_pos h3, if_neg (fun q => ne1 _ x g4 (by rw [or_swap]; exact q.trans h3.symm))]
          omega
        · rw [if_neg h3]
          by_cases h4 : s ||| 2 ^ x ||| 2 ^ y = t
          · have b1 := rk1 _ y hy g3 h4
            have h5 : s ||| 2 ^ y ||| 2 ^ x = t := by rw [or_swap]; exact h4
            have b2 := rk1 _ x hx g4 h5
            have k1 := bc_add he hs hx g1
            have k2 := bc_add he hsx hy g3
            rw [h4] at k2
            have lb := hM.le_bc hs
            rw [if_pos h4]
            omega
          · rw [if_neg h4]; exact d
end A2
