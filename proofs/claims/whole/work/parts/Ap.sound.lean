/-! The mathematics: every matroid is sound; what breaks the rule of bases is the same; the set at an index is the same -/
section Ap
variable {e : Nat} {rk : Nat → Nat}
theorem Mtr.swapB (hM : Mtr e rk) {a b x : Nat} (ha : a < 2 ^ e) (hb : b < 2 ^ e) (a1 : rk a = bc a) (a2 : rk (2 ^ e - 1) = bc a) (b2 : rk b = rk (2 ^ e - 1)) (h1 : a.testBit x = true) (h2 : ¬ b.testBit x = true) : ∃ y, y < e ∧ b.testBit y = true ∧ ¬ a.testBit y = true ∧ rk (sdf a (2 ^ x) ||| 2 ^ y) = bc (sdf a (2 ^ x) ||| 2 ^ y) ∧ rk (2 ^ e - 1) = bc (sdf a (2 ^ x) ||| 2 ^ y) := by
  have he := hM.1
  have hx : x < e := bit_lt10 ha h1
  have c1 := bc_rem he ha hx h1
  have c2 : rk (sdf a (2 ^ x)) = bc (sdf a (2 ^ x)) := hM.her ha (sbs_rem a x) a1
  have hl : sdf a (2 ^ x) < 2 ^ e := sdf_lt ha
  apply Classical.byContradiction
  intro hn
  have q : rk (sdf a (2 ^ x) ||| b) = rk (sdf a (2 ^ x)) := hM.spanAll hl hb (fun y hy hby => Classical.byContradiction fun z => hn (by
    have hyn : ¬ (sdf a (2 ^ x)).testBit y = true := fun w => z (by rw [or_bit_same w])
    have s1 := hM.2.2.1 _ y hl hy
    have s2 := bc_add he hl hy hyn
    have hay : ¬ a.testBit y = true := fun w => hyn (by
      rw [sdf_bit, w, p2_testBit, decide_eq_false (fun v => h2 (by rw [v]; exact hby))]; rfl)
    exact ⟨y, hy, hby, hay, by omega, by omega⟩))
  have m := hM.mono1 hb hl
  rw [Nat.or_comm] at m
  omega
theorem Mtr.snd (hM : Mtr e rk) : sndP rk e := by
  have he := hM.1
  have hp := p2_pos e
  have hge : ∀ s, s < 2 ^ e → rk (2 ^ e - 1) ≤ bc s + rk (sdf (2 ^ e - 1) s) := fun s hs => by
    have q := (hM.add (s := sdf (2 ^ e - 1) s) (t := s) co_lt hs).2
    rw [co_full hs] at q
    omega
  have c0 : sdf (2 ^ e - 1) (2 ^ e - 1) = 0 := by unfold sdf; rw [Nat.and_self, Nat.xor_self]
  have co2 : ∀ s, s < 2 ^ e → sdf (2 ^ e - 1) (sdf (2 ^ e - 1) s) = s := fun s hs => by
    apply Nat.eq_of_testBit_eq
    intro i
    rw [sdf_bit, sdf_bit, all_bit]
    by_cases g : i < e
    · rw [decide_eq_true g]; cases s.testBit i <;> rfl
    · rw [decide_eq_false g, Nat.testBit_lt_two_pow (Nat.lt_of_lt_of_le hs (Nat.pow_le_pow_right (by decide) (by omega)))]; rfl
  have hbas : ∀ s, bsM rk e (2 ^ e) s = true ↔ s < 2 ^ e ∧ rk s = bc s ∧ rk (2 ^ e - 1) = bc s := fun s => by
    unfold bsM
    rw [Bool.and_eq_true, decide_eq_true_eq, srt_bas]
  refine ⟨hM.dualM, fun s hs => ?_, ⟨val_11 hM, val_22 hM, val_21 hM⟩, ⟨?_, fun s t hs ht h1 h2 => ?_⟩, fun f g el hf hMf hg hel => ?_⟩
  · have a1 := hge (sdf (2 ^ e - 1) s) co_lt
    rw [co2 s hs] at a1
    have a2 := hge (2 ^ e - 1) (by omega)
    rw [c0, hM.2.1] at a2
    have a3 : bc s + bc (sdf (2 ^ e - 1) s) = bc (2 ^ e - 1) := by
      have := bc_dif2 he (s := 2 ^ e - 1) (by omega) (sbs_all hs)
      omega
    show bc s + dualR rk e (sdf (2 ^ e - 1) s) - dualR rk e (2 ^ e - 1) = rk s
    unfold dualR
    rw [co2 s hs, c0, hM.2.1]
    omega
  · obtain ⟨-, b2, b3, b4, -⟩ := hM.bas
    exact ⟨bsN rk e, b2, (hbas _).mpr ⟨b2, by omega, by omega⟩⟩
  · have q1 := (hbas s).mp h1
    have q2 := (hbas t).mp h2
    omega
  · unfold brk
    cases hMg : bsM rk e (2 ^ e) g
    · rfl
    · cases hb1 : f.testBit el
      · rfl
      · cases hb2 : g.testBit el
        · rw [beq_eq_false_iff_ne.mpr]
          · rfl
          · obtain ⟨-, f1, f2⟩ := (hbas f).mp hMf
            obtain ⟨-, g1, g2⟩ := (hbas g).mp hMg
            obtain ⟨y, y1, y2, y3, y4, y5⟩ := hM.swapB hf hg f1 f2 (by omega) hb1 (by rw [hb2]; exact Bool.false_ne_true)
            intro z
            have z2 : (swpN (bsM rk e (2 ^ e)) e f el &&& g).testBit y = false := by rw [z, Nat.zero_testBit]
            have hyn : (sdf f (2 ^ el)).testBit y = false := by
              rw [Bool.not_eq_true] at y3
              rw [sdf_bit, y3]; rfl
            have hbn : bsM rk e (2 ^ e) (sdf f (2 ^ el) ||| 2 ^ y) = true := (hbas _).mpr ⟨or_lt (sdf_lt hf) (bit_lt y1), y4, y5⟩
            rw [Nat.testBit_and, y2, swp_bit hb1, decide_eq_true y1, hyn, hbn] at z2
            cases z2
        · rfl
theorem breaks_same {w : Nat → Nat} {c f g el s t u : Nat} (he : e ≤ 10) (hw : ∀ j, j < c → w j < 2 ^ e) (hf : f < 2 ^ e) (f1 : mkB w c f = true) (f2 : brkMin (mkB w c) e f g el) (f3 : ∀ f' g' el', f' < f → mkB w c f' = true → g' < 2 ^ e → el' < 10 → brk (mkB w c) e f' g' el' = false) (h : BrkP (basB w c) s t u) : s = f ∧ t = g ∧ u = el := by
  rw [basB_is] at h
  obtain ⟨h1, h2, h3, h4, h5, h6, h7, h8⟩ := h
  obtain ⟨g1, g2, g3, g4, g5⟩ := f2
  have lt : ∀ a, mkB w c a = true → a < 2 ^ e := fun a ha => by
    obtain ⟨j, j1, j2⟩ := mkB_iff.mp ha
    rw [← j2]; exact hw j j1
  have hs := lt s h3
  have ht := lt t h4
  have gM : mkB w c g = true := by
    unfold brk at g3
    rw [Bool.and_eq_true, Bool.and_eq_true, Bool.and_eq_true] at g3
    exact g3.1.1.1
  have k1 := p2_le he
  have b1 : brk (mkB w c) e s t u = true := by rw [brk_xch he ht h4, h6]; rfl
  have b2 : xchB (mkB w c) f g el = false := by
    have q := g3
    rw [brk_xch he g1 gM] at q
    cases hx : xchB (mkB w c) f g el
    · rfl
    · rw [hx] at q; cases q
  have e1 : s = f := by
    rcases Nat.lt_trichotomy s f with z | z | z
    · have := f3 s t u z h3 ht h5
      rw [b1] at this; cases this
    · exact z
    · have := h8 f g (by omega) (by omega) f1 gM (Or.inl z) el g2
      rw [b2] at this; cases this
  subst e1
  have e2 : t = g := by
    rcases Nat.lt_trichotomy t g with z | z | z
    · have := g4 t u z h5
      rw [b1] at this; cases this
    · exact z
    · have := h8 s g h1 (by omega) h3 gM (Or.inr ⟨rfl, z⟩) el g2
      rw [b2] at this; cases this
  subst e2
  refine ⟨rfl, rfl, ?_⟩
  rcases Nat.lt_trichotomy u el with z | z | z
  · have := g5 u z
    rw [b1] at this; cases this
  · exact z
  · have := h7 el z
    rw [b2] at this; cases this
theorem noBrk_iff {w : Nat → Nat} {c : Nat} (he : e ≤ 10) (hw : ∀ j, j < c → w j < 2 ^ e) : noBrk w c e ↔ xchO (basB w c) := by
  rw [basB_is]
  have lt : ∀ a, mkB w c a = true → a < 2 ^ e := fun a ha => by
    obtain ⟨j, j1, j2⟩ := mkB_iff.mp ha
    rw [← j2]; exact hw j j1
  have k1 := p2_le he
  constructor
  · intro h a b _ _ ha hb y hy
    have q := h a b y (lt a ha) ha (lt b hb) hy
    rw [brk_xch he (lt b hb) hb] at q
    cases hx : xchB (mkB w c) a b y
    · rw [hx] at q; cases q
    · rfl
  · intro h f g el hf hM hg hel
    cases hMg : mkB w c g
    · unfold brk; rw [hMg]; rfl
    · rw [brk_xch he hg hMg, h f g (by omega) (by omega) hM hMg el hel]; rfl
theorem bas_basB {w : Nat → Nat} {c s t u : Nat} (h : BrkP (basB w c) s t u) : ¬ xchO (basB w c) := fun z => by
  obtain ⟨h1, h2, h3, h4, h5, h6, -⟩ := h
  rw [z s t h1 h2 h3 h4 u h5] at h6
  cases h6
theorem cnt_inj {p : Nat → Bool} {a b : Nat} (ha : p a = true) (hb : p b = true) (h : cnt p a = cnt p b) : a = b := by
  rcases Nat.lt_trichotomy a b with z | z | z
  · have q := cnt_mono (p := p) (show a + 1 ≤ b from z)
    rw [cnt_y ha] at q
    omega
  · exact z
  · have q := cnt_mono (p := p) (show b + 1 ≤ a from z)
    rw [cnt_y hb] at q
    omega
theorem nth_is {p : Nat → Bool} {n : Nat} {k : Int} : (∃ z, z < n ∧ p z = true ∧ ((cnt p z : Nat) : Int) = k ∧ nth p n k = ((z : Nat) : Int)) ∨ (nth p n k = -1 ∧ ∀ z, z < n → p z = true → ((cnt p z : Nat) : Int) ≠ k) := by
  unfold nth
  rcases fst_spec (p := fun s => p s && decide (((cnt p s : Nat) : Int) = k)) (n := n) with ⟨h1, h2⟩ | ⟨i, h1, h2, h3, h4⟩
  · rw [h1]
    refine Or.inr ⟨rfl, fun z hz hp hc => ?_⟩
    have q := h2 z hz
    rw [hp, decide_eq_true hc] at q
    cases q
  · rw [h2]
    rw [Bool.and_eq_true, decide_eq_true_eq] at h3
    exact Or.inl ⟨i, h1, h3.1, h3.2, rfl⟩
theorem srt_letter {ch : Int} : (∃ t, sortOf ch = some t ∧ srtC ch ∧ ((ch = 105 ∧ t = 1) ∨ (ch = 98 ∧ t = 2) ∨ (ch = 99 ∧ t = 4) ∨ (ch = 102 ∧ t = 8) ∨ (ch = 104 ∧ t = 16))) ∨ (sortOf ch = none ∧ ¬ srtC ch) := by
  unfold sortOf srtC
  by_cases h1 : ch = 105
  · exact Or.inl ⟨1, if_pos h1, Or.inl h1, Or.inl ⟨h1, rfl⟩⟩
  · rw [if_neg h1]
    by_cases h2 : ch = 98
    · exact Or.inl ⟨2, if_pos h2, Or.inr (Or.inl h2), Or.inr (Or.inl ⟨h2, rfl⟩)⟩
    · rw [if_neg h2]
      by_cases h3 : ch = 99
      · exact Or.inl ⟨4, if_pos h3, Or.inr (Or.inr (Or.inl h3)), Or.inr (Or.inr (Or.inl ⟨h3, rfl⟩))⟩
      · rw [if_neg h3]
        by_cases h4 : ch = 102
        · exact Or.inl ⟨8, if_pos h4, Or.inr (Or.inr (Or.inr (Or.inl h4))), Or.inr (Or.inr (Or.inr (Or.inl ⟨h4, rfl⟩)))⟩
        · rw [if_neg h4]
          by_cases h5 : ch = 104
          · exact Or.inl ⟨16, if_pos h5, Or.inr (Or.inr (Or.inr (Or.inr h5))), Or.inr (Or.inr (Or.inr (Or.inr ⟨h5, rfl⟩)))⟩
          · rw [if_neg h5]
            exact Or.inr ⟨rfl, by omega⟩
theorem count_same (hM : Mtr e rk) {ch : Int} {t : Nat} (h : sortOf ch = some t) : cnt (fun s => sortN rk e s &&& t != 0) (2 ^ e) = cnt (isB rk e ch) (2 ^ e) := by
  rcases srt_letter (ch := ch) with ⟨t', q1, -, q3⟩ | ⟨q1, -⟩
  · rw [h] at q1
    cases q1
    exact cnt_same _ (fun s hs => hM.letter hs q3)
  · rw [h] at q1; cases q1
theorem setAt_same (hM : Mtr e rk) {ch k : Int} {t z : Nat} (h : sortOf ch = some t) (hz : z < 2 ^ e) (h1 : isB rk e ch z = true) (h2 : ((cnt (isB rk e ch) z : Nat) : Int) = k) : nth (fun s => sortN rk e s &&& t != 0) (2 ^ e) k = ((z : Nat) : Int) := by
  rcases srt_letter (ch := ch) with ⟨t', q1, -, q3⟩ | ⟨q1, -⟩
  · rw [h] at q1
    cases q1
    have hb : (sortN rk e z &&& t != 0) = true := (hM.letter hz q3).trans h1
    have hc : ∀ z', z' < 2 ^ e → cnt (fun s => sortN rk e s &&& t != 0) z' = cnt (isB rk e ch) z' := fun z' hz' => cnt_same _ (fun s hs => hM.letter (by omega) q3)
    rcases nth_is (p := fun s => sortN rk e s &&& t != 0) (n := 2 ^ e) (k := k) with ⟨y, y1, y2, y3, y4⟩ | ⟨y1, y2⟩
    · rw [y4, cnt_inj (p := fun s => sortN rk e s &&& t != 0) y2 hb (by
        have := hc z hz
        omega)]
    · exact absurd (by rw [hc z hz]; exact h2) (y2 z hz hb)
  · rw [h] at q1; cases q1
theorem setAt_none (hM : Mtr e rk) {ch k : Int} {t : Nat} (h : sortOf ch = some t) (h1 : 0 ≤ k → ∀ z : Nat, z < 2 ^ e → isB rk e ch z = true → ((cnt (isB rk e ch) z : Nat) : Int) = k → False) : nth (fun s => sortN rk e s &&& t != 0) (2 ^ e) k < 0 := by
  rcases srt_letter (ch := ch) with ⟨t', q1, -, q3⟩ | ⟨q1, -⟩
  · rw [h] at q1
    cases q1
    rcases nth_is (p := fun s => sortN rk e s &&& t != 0) (n := 2 ^ e) (k := k) with ⟨y, y1, y2, y3, y4⟩ | ⟨y1, y2⟩
    · exfalso
      have y2' : (sortN rk e y &&& t != 0) = true := y2
      rw [hM.letter y1 q3] at y2'
      refine h1 (by omega) y y1 y2' ?_
      rw [← y3, cnt_same (p := isB rk e ch) (q := fun s => sortN rk e s &&& t != 0) y (fun s hs => (hM.letter (by omega) q3).symm)]
    · omega
  · rw [h] at q1; cases q1
end Ap
