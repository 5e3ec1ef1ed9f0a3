/-! The mathematics: matrices whose columns have the ranks: what the reference looks for; over the field of 2 there is one at most *-/
section Ar
variable {e f bs rows : Nat} {rk : Nat → Nat}
theorem rkE_on {C C' : Nat → Nat → Nat} (he : e ≤ 10) (hf : f = 2 ∨ f = 3 ∨ f = 5) (hC : ∀ c r, r < rows → C c r < f) (hC' : ∀ c r, r < rows → C' c r < f) {s : Nat} (hs : s < 2 ^ e) (h : ∀ c, c < e → s.testBit c = true → ∀ r, r < rows → C c r = C' c r) : rkE f rows C s = rkE f rows C' s := by
  have R := rkE_spr (e := e) he hf hC
  have R' := rkE_spr (e := e) he hf hC'
  have sb : ∀ k, sbs (s % 2 ^ k) s := fun k i hi => by
    rw [Nat.testBit_mod_two_pow, Bool.and_eq_true] at hi
    exact hi.2
  have cg : ∀ i, i < e → s.testBit i = true → ∀ r, r < rows → (f : Int) ∣ cz C i r - cz C' i r := fun i hi hb r hr => by
    show (f : Int) ∣ ((C i r : Nat) : Int) - ((C' i r : Nat) : Int)
    rw [h i hi hb r hr, Int.sub_self]; exact Int.dvd_zero _
  have cg' : ∀ i, i < e → s.testBit i = true → ∀ r, r < rows → (f : Int) ∣ cz C' i r - cz C i r := fun i hi hb r hr => by
    show (f : Int) ∣ ((C' i r : Nat) : Int) - ((C i r : Nat) : Int)
    rw [h i hi hb r hr, Int.sub_self]; exact Int.dvd_zero _
  have s1 : ∀ k v, Sp f rows e C (s % 2 ^ k) v → Sp f rows e C' (s % 2 ^ k) v := fun k v q => q.sub (fun i hi hb => (Sp.gen hi hb).congr (cg i hi (sb k i hb)))
  have s2 : ∀ k v, Sp f rows e C' (s % 2 ^ k) v → Sp f rows e C (s % 2 ^ k) v := fun k v q => q.sub (fun i hi hb => (Sp.gen hi hb).congr (cg' i hi (sb k i hb)))
  have key : ∀ k, k ≤ e → rkE f rows C (s % 2 ^ k) = rkE f rows C' (s % 2 ^ k) := by
    intro k
    induction k with
    | zero => intro _; rw [Nat.pow_zero, Nat.mod_one, R.1, R'.1]
    | succ k ih =>
      intro hk
      have i := ih (by omega)
      by_cases g : s.testBit k = true
      · have hl : s % 2 ^ k < 2 ^ e := mod_lt2 (by omega)
        have hn : ¬ (s % 2 ^ k).testBit k = true := by rw [Nat.testBit_lt_two_pow (Nat.mod_lt _ (p2_pos k))]; exact Bool.false_ne_true
        obtain ⟨a1, a2⟩ := R.2 _ k hl (by omega) hn
        obtain ⟨b1, b2⟩ := R'.2 _ k hl (by omega) hn
        rw [pre_y g]
        by_cases q : Sp f rows e C (s % 2 ^ k) (cz C k)
        · rw [a1 q, b1 ((s1 k _ q).congr (cg' k (by omega) g)), i]
        · rw [a2 q, b2 (fun z => q ((s2 k _ z).congr (cg k (by omega) g))), i]
      · rw [pre_n g]; exact ih (by omega)
  have q := key e (Nat.le_refl e)
  rw [Nat.mod_eq_of_lt hs] at q
  exact q
theorem rep_of {r2 : Nat → Nat} (hM : Mtr e rk) (hR : Mtr e r2) (h : ∀ k, k < e → ∀ s, 2 ^ k ≤ s → s < 2 ^ (k + 1) → frB rk (sdf s (2 ^ k)) = true → r2 s = rk s) {s : Nat} (hs : s < 2 ^ e) : r2 s = rk s := by
  have key : ∀ k, k ≤ e → ∀ s, s < 2 ^ k → r2 s = rk s := by
    intro k
    induction k with
    | zero =>
      intro _ s hs
      rw [Nat.pow_zero] at hs
      rw [show s = 0 by omega, hM.2.1, hR.2.1]
    | succ k ih =>
      intro hk s hs
      by_cases g : s.testBit k = true
      · have hpk : 2 ^ (k + 1) ≤ 2 ^ e := Nat.pow_le_pow_right (by decide) hk
        have hpk0 : 2 ^ k ≤ 2 ^ e := Nat.pow_le_pow_right (by decide) (by omega)
        have l1 : sdf s (2 ^ k) < 2 ^ k := by rw [mod_top g hs]; exact Nat.mod_lt _ (p2_pos k)
        obtain ⟨t, t1, t2, t3, t4⟩ := hM.inner (s := sdf s (2 ^ k)) (by omega)
        have tl : t < 2 ^ k := Nat.lt_of_le_of_lt (sbs_le t2) l1
        have i1 := ih (by omega) t tl
        have i2 := ih (by omega) _ l1
        have tn : ¬ t.testBit k = true := by rw [Nat.testBit_lt_two_pow tl]; exact Bool.false_ne_true
        have e1 : sdf (t ||| 2 ^ k) (2 ^ k) = t := by
          rw [mod_top (by rw [Nat.testBit_or, p2_testBit, decide_eq_true rfl, Bool.or_true]) (or_lt (Nat.lt_trans tl (bit_lt (Nat.lt_succ_self k))) (bit_lt (Nat.lt_succ_self k)))]
          apply Nat.eq_of_testBit_eq
          intro i
          rw [Nat.testBit_mod_two_pow, Nat.testBit_or, p2_testBit]
          by_cases gi : i < k
          · rw [decide_eq_true gi, decide_eq_false (show ¬ k = i by omega), Bool.or_false]; rfl
          · rw [decide_eq_false gi, Nat.testBit_lt_two_pow (Nat.lt_of_lt_of_le tl (Nat.pow_le_pow_right (by decide) (by omega)))]; rfl
        have i3 := h k (by omega) (t ||| 2 ^ k) Nat.right_le_or (or_lt (Nat.lt_trans tl (bit_lt (Nat.lt_succ_self k))) (bit_lt (Nat.lt_succ_self k))) (by rw [e1]; exact beq_iff_eq.mpr t3)
        have es : sdf s (2 ^ k) ||| 2 ^ k = s := rem_or g
        have hse : sdf s (2 ^ k) < 2 ^ e := by omega
        have tor : t ||| sdf s (2 ^ k) = sdf s (2 ^ k) := sbs_or t2
        have sp : ∀ r : Nat → Nat, Mtr e r → r t = r (sdf s (2 ^ k)) → (r (t ||| 2 ^ k) = r t → r s = r (sdf s (2 ^ k))) ∧ (r (t ||| 2 ^ k) = r t + 1 → r s = r (sdf s (2 ^ k)) + 1) := fun r hr hrt => by
          have b1 := hr.2.2.1 _ k hse (by omega)
          rw [es] at b1
          refine ⟨fun q => ?_, fun q => ?_⟩
          · have c := hr.cloT t1 hse (show k < e by omega) q
            rw [tor, es] at c
            exact c
          · have m := hr.mono (s := t ||| 2 ^ k) (t := s) (by omega) (fun i hi => by
              rw [Nat.testBit_or, p2_testBit, Bool.or_eq_true, decide_eq_true_eq] at hi
              rcases hi with z | z
              · exact sbs_rem s k i (t2 i z)
              · rw [← z]; exact g)
            omega
        have b2 := hM.2.2.1 t k t1 (by omega)
        obtain ⟨u1, u2⟩ := sp rk hM t4
        obtain ⟨v1, v2⟩ := sp r2 hR (by rw [i1, i2, t4])
        by_cases z : rk (t ||| 2 ^ k) = rk t
        · rw [u1 z, v1 (by rw [i3, z, i1]), i2]
        · rw [u2 (by omega), v2 (by rw [i3, i1]; omega), i2]
      · exact ih (by omega) s ((lt_bit hs).mpr g)
  exact key e (Nat.le_refl e) s hs
theorem ext_rep (hM : Mtr e rk) (hf : f = 2 ∨ f = 3) (hbs : bs < 2 ^ e) {wy : Nat → Nat} : ExtW rk e f bs 0 wy ↔ (∀ k, k < e → wy k < wayN f (rk (2 ^ e - 1)) bs k) ∧ ∀ s, s < 2 ^ e → rkE f (rk (2 ^ e - 1)) (mW f (rk (2 ^ e - 1)) bs wy e) s = rk s := by
  have he := hM.1
  have hf3 : f = 2 ∨ f = 3 ∨ f = 5 := by omega
  have lt : ∀ n c r, r < rk (2 ^ e - 1) → mW f (rk (2 ^ e - 1)) bs wy n c r < f := fun n c r _ => by
    unfold mW
    split
    · unfold cV
      split
      · split <;> omega
      · exact Nat.mod_lt _ (by omega)
    · omega
  have same : ∀ k, k < e → ∀ s, s < 2 ^ (k + 1) → rkM f (rk (2 ^ e - 1)) e s (mW f (rk (2 ^ e - 1)) bs wy (k + 1)) = rkE f (rk (2 ^ e - 1)) (mW f (rk (2 ^ e - 1)) bs wy e) s := fun k hk s hs => by
    have hpk : 2 ^ (k + 1) ≤ 2 ^ e := Nat.pow_le_pow_right (by decide) hk
    rw [rkM_is he hf3 (lt (k + 1)) (by omega)]
    refine rkE_on he hf3 (lt (k + 1)) (lt e) (by omega) (fun c hc hb r hr => ?_)
    have := bit_lt10 hs hb
    unfold mW
    rw [if_pos this, if_pos hc]
  constructor
  · intro h
    refine ⟨fun k hk => (h k (Nat.zero_le k) hk).1, fun s hs => ?_⟩
    refine rep_of hM (SpR.mtr he (rkE_spr he hf3 (lt e))) (fun k hk s h1 h2 h3 => ?_) hs
    rw [← same k hk s h2]
    exact (h k (Nat.zero_le k) hk).2 s h1 h2 h3
  · rintro ⟨h1, h2⟩ k _ hk
    refine ⟨h1 k hk, fun s _ s2 _ => ?_⟩
    have hpk : 2 ^ (k + 1) ≤ 2 ^ e := Nat.pow_le_pow_right (by decide) hk
    rw [same k hk s s2]
    exact h2 s (by omega)
/-- bs is a basis of the ranks -/
def BsP (rk : Nat → Nat) (e bs : Nat) : Prop := bs < 2 ^ e ∧ rk bs = bc bs ∧ rk (2 ^ e - 1) = bc bs
theorem BsP.ix (hB : BsP rk e bs) (he : e ≤ 10) : ixB bs e = rk (2 ^ e - 1) := by
  rw [hB.2.2]
  exact cnt_bc e (by omega) bs hB.1
theorem BsP.ixl (hB : BsP rk e bs) (he : e ≤ 10) {b : Nat} (hb : b < e) (hbb : bs.testBit b = true) : ixB bs b < rk (2 ^ e - 1) := by
  rw [← hB.ix he]
  exact ix_lt hb hbb
theorem UM.sp {G : Nat → Nat → Nat} (hG : UM f (rk (2 ^ e - 1)) e bs G) (hB : BsP rk e bs) (he : e ≤ 10) {T : Nat} (hT : sbs T bs) {v : Nat → Int} : Sp f (rk (2 ^ e - 1)) e G T v ↔ ∀ b, b < e → bs.testBit b = true → ¬ T.testBit b = true → (f : Int) ∣ v (ixB bs b) := by
  constructor
  · rintro ⟨c, c1, c2⟩ b hb hbb hn
    have q := c2 (ixB bs b) (hB.ixl he hb hbb)
    rw [sumI_zero e (fun i hi => by
      by_cases gi : T.testBit i = true
      · rw [hG.2 i hi (hT i gi) _ (hB.ixl he hb hbb), if_neg (fun z => hn (by rw [ix_inj hbb (hT i gi) z]; exact gi))]
        exact Int.mul_zero _
      · rw [c1 i hi gi]; exact Int.zero_mul _), Int.sub_zero] at q
    exact q
  · intro h
    refine ⟨fun i => if T.testBit i = true then v (ixB bs i) else 0, fun i _ hn => if_neg hn, fun r hr => ?_⟩
    obtain ⟨b, b1, b2, b3⟩ := ix_sur (bs := bs) e (by rw [hB.ix he]; exact hr)
    subst b3
    show (f : Int) ∣ v (ixB bs b) - sumI (fun i => (if T.testBit i = true then v (ixB bs i) else 0) * ((G i (ixB bs b) : Nat) : Int)) e
    rw [sumI_one (a := fun i => (if T.testBit i = true then v (ixB bs i) else 0) * ((G i (ixB bs b) : Nat) : Int)) b1 (fun i hi hne => by
      show (if T.testBit i = true then v (ixB bs i) else 0) * ((G i (ixB bs b) : Nat) : Int) = 0
      by_cases gi : T.testBit i = true
      · rw [hG.2 i hi (hT i gi) _ hr, if_neg (fun z => hne (ix_inj b2 (hT i gi) z).symm)]
        exact Int.mul_zero _
      · rw [if_neg gi]; exact Int.zero_mul _)]
    show (f : Int) ∣ v (ixB bs b) - (if T.testBit b = true then v (ixB bs b) else 0) * ((G b (ixB bs b) : Nat) : Int)
    rw [hG.2 b b1 b2 _ hr, if_pos rfl]
    by_cases g : T.testBit b = true
    · rw [if_pos g, show ((1 : Nat) : Int) = 1 from rfl, Int.mul_one, Int.sub_self]; exact Int.dvd_zero _
    · rw [if_neg g, Int.zero_mul, Int.sub_zero]; exact h b b1 b2 g
theorem bsB_iff {s : Nat} : bsB rk e s = true ↔ rk s = bc s ∧ rk (2 ^ e - 1) = bc s := by
  unfold bsB frB
  rw [Bool.and_eq_true, beq_iff_eq, beq_iff_eq]
  omega
theorem swap_bc (he : e ≤ 10) (hbs : bs < 2 ^ e) {b c : Nat} (hb : b < e) (hbb : bs.testBit b = true) (hc : c < e) (hcn : ¬ bs.testBit c = true) : bc (sdf bs (2 ^ b) ||| 2 ^ c) = bc bs := by
  have n1 : ¬ (sdf bs (2 ^ b)).testBit c = true := fun z => by
    rw [sdf_bit, Bool.and_eq_true] at z
    exact hcn z.1
  rw [bc_add he (sdf_lt hbs) hc n1, bc_rem he hbs hb hbb]
/-- which entries are not 0 -/
theorem UM.sup {G : Nat → Nat → Nat} (hM : Mtr e rk) (hf : f = 2 ∨ f = 3) (hG : UM f (rk (2 ^ e - 1)) e bs G) (hB : BsP rk e bs) (hR : ∀ s, s < 2 ^ e → rkE f (rk (2 ^ e - 1)) G s = rk s) {b c : Nat} (hb : b < e) (hbb : bs.testBit b = true) (hc : c < e) (hcn : ¬ bs.testBit c = true) : G c (ixB bs b) ≠ 0 ↔ bsB rk e (sdf bs (2 ^ b) ||| 2 ^ c) = true := by
  have he := hM.1
  have hf3 : f = 2 ∨ f = 3 ∨ f = 5 := by omega
  have S := rkE_spr (e := e) he hf3 hG.1
  have hl : sdf bs (2 ^ b) < 2 ^ e := sdf_lt hB.1
  have n1 : ¬ (sdf bs (2 ^ b)).testBit c = true := fun z => by
    rw [sdf_bit, Bool.and_eq_true] at z
    exact hcn z.1
  obtain ⟨a1, a2⟩ := S.2 _ c hl hc n1
  rw [hR _ hl, hR _ (or_lt hl (bit_lt hc))] at a1 a2
  have r1 : rk (sdf bs (2 ^ b)) = bc (sdf bs (2 ^ b)) := hM.her hB.1 (sbs_rem bs b) hB.2.1
  have c1 := bc_rem he hB.1 hb hbb
  have c2 := swap_bc he hB.1 hb hbb hc hcn
  have sp := hG.sp hB he (sbs_rem bs b) (v := cz G c)
  have q := hB.2.2
  have hz : Sp f (rk (2 ^ e - 1)) e G (sdf bs (2 ^ b)) (cz G c) ↔ G c (ixB bs b) = 0 := by
    refine sp.trans ⟨fun h => ?_, fun h b' h1 h2 h3 => ?_⟩
    · exact lt_dv (hG.1 c _ (hB.ixl he hb hbb)) (h b hb hbb rem_nt)
    · have e1 : b' = b := Classical.byContradiction fun z => h3 (by rw [sdf_bit, h2, p2_testBit, decide_eq_false (fun y => z y.symm)]; rfl)
      rw [e1]
      show (f : Int) ∣ ((G c (ixB bs b) : Nat) : Int)
      rw [h]; exact Int.dvd_zero _
  rw [bsB_iff, c2]
  constructor
  · intro h
    have := a2 (fun z => h (hz.mp z))
    omega
  · intro h z
    have := a1 (hz.mpr z)
    omega
theorem isE_iff {b c : Nat} (hc : c < e) : isE (drJ (sortN rk e) e bs) bs c b = true ↔ ¬ bs.testBit c = true ∧ b < e ∧ bs.testBit b = true ∧ bsB rk e (sdf bs (2 ^ b) ||| 2 ^ c) = true := by
  unfold isE
  by_cases g : bs.testBit c = true
  · rw [g, Bool.not_true, Bool.false_and]
    exact ⟨fun z => absurd z Bool.false_ne_true, fun z => absurd rfl z.1⟩
  · rw [drJ_bit hc g, sortB9]
    rw [Bool.not_eq_true] at g
    rw [g, Bool.not_false, Bool.true_and, Bool.and_eq_true, Bool.and_eq_true, decide_eq_true_eq]
    exact ⟨fun z => ⟨Bool.false_ne_true, z⟩, fun z => z.2⟩
theorem drG_UM (hM : Mtr e rk) (hf : f = 2 ∨ f = 3) (hB : BsP rk e bs) : UM f (rk (2 ^ e - 1)) e bs (drG (sortN rk e) e bs f) := by
  refine ⟨fun c r _ => drG_lt hf c r, fun b hb hbb r hr => ?_⟩
  obtain ⟨b', b1, b2, b3⟩ := ix_sur (bs := bs) e (by rw [hB.ix hM.1]; exact hr)
  subst b3
  rw [drG_at b1 b2 hb]
  by_cases g : b = b'
  · subst g; rw [if_pos rfl, if_pos rfl]
  · rw [if_neg g, if_neg (fun z => g (ix_inj b2 hbb z).symm), if_neg (fun z => ((isE_iff hb).mp z).1 hbb)]
theorem draw_same (hM : Mtr e rk) (hf : f = 2 ∨ f = 3) (key : ∀ wy, ExtW rk e f (bsN rk e) 0 wy → (∀ wy2 : Nat → Nat, ExtW rk e f (bsN rk e) 0 wy2 → LexLe e wy wy2) → ∀ c, c < e → ∀ r, r < rk (2 ^ e - 1) → mW f (rk (2 ^ e - 1)) (bsN rk e) wy e c r = drG (sortN rk e) e (bsN rk e) f c r) {tr : Int} (h1 : draP rk e f tr) {o : Option (Nat → Nat)} (h2 : DRp rk e f o) : (o = none ∧ tr = 0) ∨ ∃ g, o = some g ∧ tr = 1 ∧ ∀ c, c < e → ∀ r, r < rk (2 ^ e - 1) → g (rk (2 ^ e - 1) * c + r) = drG (sortN rk e) e (bsN rk e) f c r := by
  have he := hM.1
  have hf3 : f = 2 ∨ f = 3 ∨ f = 5 := by omega
  obtain ⟨-, b2, b3, b4, b5⟩ := hM.bas
  have hB : BsP rk e (bsN rk e) := ⟨b2, by omega, by omega⟩
  have hD := drG_UM hM hf hB
  obtain ⟨b, ⟨q1, q2, q3⟩, q⟩ := h2
  have eb : b = bsN rk e := by
    rcases Nat.lt_trichotomy b (bsN rk e) with z | z | z
    · exact absurd (bsB_iff.mp q2) (b5 b z)
    · exact z
    · have := q3 _ z
      rw [bsB_iff.mpr ⟨hB.2.1, hB.2.2⟩] at this
      cases this
  subst eb
  have ext : ∀ wy, ExtW rk e f (bsN rk e) 0 wy ↔ _ := fun wy => ext_rep hM hf b2
  rcases q with ⟨z1, z2⟩ | ⟨g, wy, z1, z2, z3, z4⟩
  · refine Or.inl ⟨z1, ?_⟩
    rcases h1.1 with y | y
    · exact y
    · exfalso
      refine z2 (wyG f (rk (2 ^ e - 1)) (bsN rk e) (drG (sortN rk e) e (bsN rk e) f)) ((ext _).mpr ⟨fun k hk => wyG_lt (by omega) hD k, fun s hs => ?_⟩)
      rw [← (h1.2.mp y) s hs]
      exact rkE_congr he hf3 (mW_UM he b2 (by omega)).1 hD.1 (fun c hc r hr => mW_wyG he b2 (by omega) hD hc hr) hs
  · have k := key wy z2 z3
    refine Or.inr ⟨g, z1, ?_, fun c hc r hr => by rw [z4 c hc r hr]; exact k c hc r hr⟩
    refine h1.2.mpr (fun s hs => ?_)
    rw [← ((ext wy).mp z2).2 s hs]
    exact (rkE_congr he hf3 (mW_UM he b2 (by omega)).1 hD.1 k hs).symm
theorem draw2 (hM : Mtr e rk) : ∀ wy, ExtW rk e 2 (bsN rk e) 0 wy → (∀ wy2 : Nat → Nat, ExtW rk e 2 (bsN rk e) 0 wy2 → LexLe e wy wy2) → ∀ c, c < e → ∀ r, r < rk (2 ^ e - 1) → mW 2 (rk (2 ^ e - 1)) (bsN rk e) wy e c r = drG (sortN rk e) e (bsN rk e) 2 c r := by
  intro wy h1 _ c hc r hr
  have he := hM.1
  obtain ⟨-, b2, b3, b4, b5⟩ := hM.bas
  have hB : BsP rk e (bsN rk e) := ⟨b2, by omega, by omega⟩
  have hG : UM 2 (rk (2 ^ e - 1)) e (bsN rk e) (mW 2 (rk (2 ^ e - 1)) (bsN rk e) wy e) := mW_UM he b2 (by omega)
  have hR := ((ext_rep hM (Or.inl rfl) b2).mp h1).2
  obtain ⟨b, b1, bb, bx⟩ := ix_sur (bs := bsN rk e) e (by rw [hB.ix he]; exact hr)
  subst bx
  rw [drG_at b1 bb hc]
  by_cases g : c = b
  · subst g
    rw [if_pos rfl, hG.2 c hc bb _ hr, if_pos rfl]
  · rw [if_neg g]
    by_cases gc : (bsN rk e).testBit c = true
    · rw [if_neg (fun z => ((isE_iff hc).mp z).1 gc), hG.2 c hc gc _ hr, if_neg (fun z => g (ix_inj bb gc z).symm)]
    · have q := hG.sup hM (Or.inl rfl) hB hR b1 bb hc gc
      have l := hG.1 c _ hr
      by_cases z : isE (drJ (sortN rk e) e (bsN rk e)) (bsN rk e) c b = true
      · rw [if_pos z]
        have z2 : (drN (sortN rk e) e (bsN rk e) 2 c).testBit b = false := by
          unfold drN
          rw [if_neg (by decide), Nat.zero_testBit]
        rw [if_neg (by rw [z2]; exact Bool.false_ne_true)]
        have := q.mpr ((isE_iff hc).mp z).2.2.2
        omega
      · rw [if_neg z]
        apply Classical.byContradiction
        intro y
        exact z ((isE_iff hc).mpr ⟨gc, b1, bb, q.mp y⟩)
end Ar
