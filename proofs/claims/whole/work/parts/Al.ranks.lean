/-! The mathematics: the reference's ranks of columns, and of graphs, are the class's -/
section Al
variable {e f rows : Nat} {C : Nat → Nat → Nat}
theorem SpR.ops {C' : Nat → Nat → Nat} {r r2 : Nat → Nat} (h : SpR f rows e C r) (h2 : SpR f rows e C' r2) {s p : Nat} (hs : s < 2 ^ e) (hp : p < e) (hb : s.testBit p = true) (h0 : ∀ k, k < rows → C' p k = C p k) (ht : ∀ c, c < e → s.testBit c = true → ∃ t : Int, ∀ k, k < rows → (f : Int) ∣ ((C' c k : Nat) : Int) - ((C c k : Nat) : Int) - t * ((C p k : Nat) : Int)) : r s = r2 s := by
  have hT : ∀ k, sbs (2 ^ p ||| s % 2 ^ k) s := fun k i hi => by
    rw [Nat.testBit_or, Bool.or_eq_true, p2_testBit, decide_eq_true_eq, Nat.testBit_mod_two_pow, Bool.and_eq_true] at hi
    rcases hi with z | ⟨-, z⟩
    · rw [← z]; exact hb
    · exact z
  have hTp : ∀ k, (2 ^ p ||| s % 2 ^ k).testBit p = true := fun k => by rw [Nat.testBit_or, p2_testBit, decide_eq_true rfl]; rfl
  have cc : ∀ k c, c < e → s.testBit c = true → (Sp f rows e C (2 ^ p ||| s % 2 ^ k) (cz C c) ↔ Sp f rows e C (2 ^ p ||| s % 2 ^ k) (cz C' c)) := fun k c hc hcb => by
    obtain ⟨t, q⟩ := ht c hc hcb
    have gp : Sp f rows e C (2 ^ p ||| s % 2 ^ k) (cz C p) := Sp.gen hp (hTp k)
    constructor
    · intro z
      exact (z.comb t gp).congr (fun r hr => by
        show (f : Int) ∣ ((C' c r : Nat) : Int) - (((C c r : Nat) : Int) + t * ((C p r : Nat) : Int))
        have := q r hr
        rw [Int.sub_sub] at this
        exact this)
    · intro z
      exact (z.comb (-t) gp).congr (fun r hr => by
        show (f : Int) ∣ ((C c r : Nat) : Int) - (((C' c r : Nat) : Int) + (-t) * ((C p r : Nat) : Int))
        have q2 := Int.dvd_neg.mpr (q r hr)
        have e1 : -(((C' c r : Nat) : Int) - ((C c r : Nat) : Int) - t * ((C p r : Nat) : Int)) = ((C c r : Nat) : Int) - (((C' c r : Nat) : Int) + (-t) * ((C p r : Nat) : Int)) := by rw [Int.neg_mul]; omega
        rw [e1] at q2
        exact q2)
  have sp1 : ∀ k v, Sp f rows e C (2 ^ p ||| s % 2 ^ k) v ↔ Sp f rows e C' (2 ^ p ||| s % 2 ^ k) v := fun k v => by
    have gp' : Sp f rows e C' (2 ^ p ||| s % 2 ^ k) (cz C p) := (Sp.gen hp (hTp k)).congr (fun r hr => by
      show (f : Int) ∣ ((C p r : Nat) : Int) - ((C' p r : Nat) : Int)
      rw [h0 r hr, Int.sub_self]; exact Int.dvd_zero _)
    constructor
    · intro z
      refine z.sub (fun i hi hib => ?_)
      obtain ⟨t, q⟩ := ht i hi (hT k i hib)
      exact ((Sp.gen hi hib).comb (-t) gp').congr (fun r hr => by
        show (f : Int) ∣ ((C i r : Nat) : Int) - (((C' i r : Nat) : Int) + (-t) * ((C p r : Nat) : Int))
        have q2 := Int.dvd_neg.mpr (q r hr)
        have e1 : -(((C' i r : Nat) : Int) - ((C i r : Nat) : Int) - t * ((C p r : Nat) : Int)) = ((C i r : Nat) : Int) - (((C' i r : Nat) : Int) + (-t) * ((C p r : Nat) : Int)) := by rw [Int.neg_mul]; omega
        rw [e1] at q2
        exact q2)
    · intro z
      exact z.sub (fun i hi hib => (cc k i hi (hT k i hib)).mp (Sp.gen hi hib))
  have base : r (2 ^ p) = r2 (2 ^ p) := by
    have n0 : ¬ (0 : Nat).testBit p = true := by rw [Nat.zero_testBit]; exact Bool.false_ne_true
    obtain ⟨a1, a2⟩ := h.2 0 p (p2_pos e) hp n0
    obtain ⟨b1, b2⟩ := h2.2 0 p (p2_pos e) hp n0
    rw [Nat.zero_or] at a1 a2 b1 b2
    have e0 : Sp f rows e C 0 (cz C p) ↔ Sp f rows e C' 0 (cz C' p) := by
      constructor
      · intro z
        exact (z.sub (fun i _ hb => by rw [Nat.zero_testBit] at hb; cases hb)).congr (fun r hr => by
          show (f : Int) ∣ ((C' p r : Nat) : Int) - ((C p r : Nat) : Int)
          rw [h0 r hr, Int.sub_self]; exact Int.dvd_zero _)
      · intro z
        exact (z.sub (fun i _ hb => by rw [Nat.zero_testBit] at hb; cases hb)).congr (fun r hr => by
          show (f : Int) ∣ ((C p r : Nat) : Int) - ((C' p r : Nat) : Int)
          rw [h0 r hr, Int.sub_self]; exact Int.dvd_zero _)
    by_cases z : Sp f rows e C 0 (cz C p)
    · rw [a1 z, b1 (e0.mp z), h.1, h2.1]
    · rw [a2 z, b2 (fun y => z (e0.mpr y)), h.1, h2.1]
  have key : ∀ k, k ≤ e → r (2 ^ p ||| s % 2 ^ k) = r2 (2 ^ p ||| s % 2 ^ k) := by
    intro k
    induction k with
    | zero => intro _; rw [Nat.pow_zero, Nat.mod_one, Nat.or_zero]; exact base
    | succ k ih =>
      intro hk
      have i := ih (by omega)
      by_cases g : s.testBit k = true
      · rw [pre_y g, ← Nat.or_assoc]
        by_cases gp : (2 ^ p ||| s % 2 ^ k).testBit k = true
        · rw [or_bit_same gp]; exact i
        · have hl : 2 ^ p ||| s % 2 ^ k < 2 ^ e := or_lt (bit_lt hp) (mod_lt2 (by omega))
          obtain ⟨a1, a2⟩ := h.2 _ k hl (by omega) gp
          obtain ⟨b1, b2⟩ := h2.2 _ k hl (by omega) gp
          have e1 := (cc k k (by omega) g).trans (sp1 k (cz C' k))
          by_cases z : Sp f rows e C (2 ^ p ||| s % 2 ^ k) (cz C k)
          · rw [a1 z, b1 (e1.mp z), i]
          · rw [a2 z, b2 (fun y => z (e1.mpr y)), i]
      · rw [pre_n g]; exact i
  have q := key e (Nat.le_refl e)
  rw [Nat.mod_eq_of_lt hs, Nat.or_comm, or_bit_same hb] at q
  exact q
theorem pvM_rng {W : Nat → Nat → Nat} {U : Nat → Bool} {set j : Nat} : ∀ c, (pvM W U set j c = -1 ∧ ∀ i, i < c → set.testBit i = true → U i = false → W i j = 0) ∨ ∃ p : Nat, p < c ∧ pvM W U set j c = ((p : Nat) : Int) ∧ set.testBit p = true ∧ U p = false ∧ W p j ≠ 0 := by
  intro c
  induction c with
  | zero => exact Or.inl ⟨rfl, fun i hi => absurd hi (Nat.not_lt_zero i)⟩
  | succ c ih =>
    unfold pvM
    split
    · rename_i g
      exact Or.inr ⟨c, by omega, rfl, g.2.1, g.2.2.1, g.2.2.2⟩
    · rename_i g
      rcases ih with ⟨h1, h2⟩ | ⟨p, h1, h2, h3⟩
      · refine Or.inl ⟨h1, fun i hi hb hu => ?_⟩
        by_cases gi : i = c
        · subst gi
          exact Classical.byContradiction fun z => g ⟨h1, hb, hu, z⟩
        · exact h2 i (by omega) hb hu
      · exact Or.inr ⟨p, by omega, h2, h3⟩
theorem toN_dv (f : Nat) (hf : 0 < f) (a : Int) : (f : Int) ∣ (((a % (f : Int)).toNat : Nat) : Int) - a ∧ (a % (f : Int)).toNat < f := by
  have h1 := Int.emod_nonneg a (show (f : Int) ≠ 0 by omega)
  have h2 := Int.emod_lt_of_pos a (show (0 : Int) < (f : Int) by omega)
  refine ⟨?_, by omega⟩
  rw [Int.toNat_of_nonneg h1]
  have h3 := Int.emod_add_mul_ediv a (f : Int)
  exact ⟨-(a / (f : Int)), by rw [Int.mul_neg]; omega⟩
theorem cnt_up {U : Nat → Bool} {p : Nat} (hu : U p = false) : ∀ n, cnt (up U p true) n = cnt U n + (if p < n then 1 else 0) := by
  intro n
  induction n with
  | zero => rfl
  | succ n ih =>
    show cnt (up U p true) n + (if up U p true n then 1 else 0) = cnt U n + (if U n then 1 else 0) + (if p < n + 1 then 1 else 0)
    rw [ih]
    by_cases g : n = p
    · subst g
      rw [up_s, hu, if_neg (Nat.lt_irrefl n), if_pos (Nat.lt_succ_self n)]; rfl
    · rw [up_n g]
      by_cases g2 : p < n
      · rw [if_pos g2, if_pos (show p < n + 1 by omega)]; omega
      · rw [if_neg g2, if_neg (show ¬ p < n + 1 by omega)]; omega
/-- what the reference's elimination keeps, row by row -/
def ElI (f rows e s : Nat) (C : Nat → Nat → Nat) (j : Nat) (x : (Nat → Nat → Nat) × (Nat → Bool) × Nat) : Prop := (∀ c r, r < rows → x.1 c r < f) ∧ rkE f rows x.1 s = rkE f rows C s ∧ (∀ c, x.2.1 c = true → c < e ∧ s.testBit c = true) ∧ (∀ c, c < e → s.testBit c = true → x.2.1 c = false → ∀ r, r < j → x.1 c r = 0) ∧ (∀ c, x.2.1 c = true → ∃ r, r < j ∧ x.1 c r ≠ 0 ∧ ∀ c', c' < e → s.testBit c' = true → c' ≠ c → x.1 c' r = 0) ∧ x.2.2 = cnt x.2.1 e
theorem el_ok (he : e ≤ 10) (hf : f = 2 ∨ f = 3 ∨ f = 5) (hC : ∀ c r, r < rows → C c r < f) {s : Nat} (hs : s < 2 ^ e) : ∀ j, j ≤ rows → ElI f rows e s C j (elM f e s C j) := by
  have hf0 : 0 < f := by omega
  intro j
  induction j with
  | zero =>
    intro _
    refine ⟨hC, rfl, fun c h => ?_, fun c _ _ _ r hr => absurd hr (Nat.not_lt_zero r), fun c h => ?_, ?_⟩
    · exact absurd h Bool.false_ne_true
    · exact absurd h Bool.false_ne_true
    · exact (cnt_none (p := fun _ => false) (n := e) (fun _ _ => rfl)).symm
  | succ j ih =>
    intro hj
    obtain ⟨i1, i2, i3, i4, i5, i6⟩ := ih (by omega)
    unfold elM
    generalize hx : elM f e s C j = x at i1 i2 i3 i4 i5 i6 ⊢
    rcases pvM_rng (W := x.1) (U := x.2.1) (set := s) (j := j) e with ⟨g1, g2⟩ | ⟨p, p1, p2, p3, p4, p5⟩
    · rw [if_pos g1]
      refine ⟨i1, i2, i3, fun c hc hb hu r hr => ?_, fun c h => ?_, i6⟩
      · by_cases g : r = j
        · subst g; exact g2 c hc hb hu
        · exact i4 c hc hb hu r (by omega)
      · obtain ⟨r, r1, r2⟩ := i5 c h
        exact ⟨r, by omega, r2⟩
    · rw [if_neg (by omega), p2, Int.toNat_natCast]
      have hz : ∀ r, r < j → x.1 p r = 0 := i4 p p1 p3 p4
      obtain ⟨⟨v1, v2, v3⟩, -⟩ := inv_ex f hf (x.1 p j) (i1 p j (by omega)) (by omega)
      have cl : ∀ c, c ≠ p → ∀ k, (f : Int) ∣ ((clM f x.1 j p c k : Nat) : Int) - (((x.1 c k : Nat) : Int) - ((tmM f x.1 j p c : Nat) : Int) * ((x.1 p k : Nat) : Int)) ∧ clM f x.1 j p c k < f := fun c hc k => by
        unfold clM
        rw [if_neg hc]
        exact toN_dv f hf0 _
      have clp : ∀ k, clM f x.1 j p p k = x.1 p k := fun k => by unfold clM; rw [if_pos rfl]
      have cll : ∀ c r, r < rows → clM f x.1 j p c r < f := fun c r hr => clM_lt hf0 (i1 c r hr)
      have keep : ∀ c r, r < rows → x.1 p r = 0 → clM f x.1 j p c r = x.1 c r := fun c r hr z => by
        by_cases g : c = p
        · subst g; exact clp r
        · unfold clM
          rw [if_neg g, z, show ((0 : Nat) : Int) = 0 from rfl, Int.mul_zero, Int.sub_zero, ← Int.natCast_emod, Int.toNat_natCast, Nat.mod_eq_of_lt (i1 c r hr)]
      have kill : ∀ c, c ≠ p → clM f x.1 j p c j = 0 := fun c hc => by
        obtain ⟨c1, c2⟩ := cl c hc j
        refine lt_dv c2 ?_
        have m1 := mod_dv f (x.1 c j * invN f (x.1 p j))
        have m2 := mod_dv f (x.1 p j * invN f (x.1 p j))
        rw [v3, Int.natCast_mul] at m2
        rw [Int.natCast_mul] at m1
        have m3 : (f : Int) ∣ ((x.1 c j : Nat) : Int) - ((tmM f x.1 j p c : Nat) : Int) * ((x.1 p j : Nat) : Int) := by
          unfold tmM
          have e1 : ((x.1 c j : Nat) : Int) - ((x.1 c j * invN f (x.1 p j) % f : Nat) : Int) * ((x.1 p j : Nat) : Int) = ((x.1 c j : Nat) : Int) * (((1 : Nat) : Int) - ((x.1 p j : Nat) : Int) * ((invN f (x.1 p j) : Nat) : Int)) + (-((x.1 p j : Nat) : Int)) * (((x.1 c j * invN f (x.1 p j) % f : Nat) : Int) - ((x.1 c j : Nat) : Int) * ((invN f (x.1 p j) : Nat) : Int)) := by
            rw [show ((1 : Nat) : Int) = 1 from rfl]; grind
          rw [e1]
          exact dv_lin _ (Int.dvd_mul_of_dvd_right m2) m1
        have m4 := Int.dvd_add c1 m3
        rw [Int.sub_add_cancel] at m4
        exact m4
      refine ⟨cll, ?_, fun c hc => ?_, fun c hc hb hu r hr => ?_, fun c hc => ?_, ?_⟩
      · show rkE f rows (clM f x.1 j p) s = rkE f rows C s
        rw [← i2]
        refine (SpR.ops (rkE_spr he hf i1) (rkE_spr he hf cll) hs p1 p3 (fun k _ => clp k) (fun c hc hb => ?_)).symm
        by_cases g : c = p
        · subst g
          exact ⟨0, fun k _ => by rw [clp k, Int.zero_mul, Int.sub_self, Int.sub_zero]; exact Int.dvd_zero _⟩
        · refine ⟨-((tmM f x.1 j p c : Nat) : Int), fun k _ => ?_⟩
          have q := (cl c g k).1
          have e1 : ((clM f x.1 j p c k : Nat) : Int) - ((x.1 c k : Nat) : Int) - -((tmM f x.1 j p c : Nat) : Int) * ((x.1 p k : Nat) : Int) = ((clM f x.1 j p c k : Nat) : Int) - (((x.1 c k : Nat) : Int) - ((tmM f x.1 j p c : Nat) : Int) * ((x.1 p k : Nat) : Int)) := by rw [Int.neg_mul]; omega
          rw [e1]
          exact q
      · have hc2 : up x.2.1 p true c = true := hc
        by_cases g : c = p
        · subst g; exact ⟨p1, p3⟩
        · rw [up_n g] at hc2; exact i3 c hc2
      · show clM f x.1 j p c r = 0
        have hu2 : up x.2.1 p true c = false := hu
        have g : c ≠ p := fun z => by rw [z, up_s] at hu2; cases hu2
        rw [up_n g] at hu2
        by_cases gr : r = j
        · subst gr; exact kill c g
        · rw [keep c r (by omega) (hz r (by omega))]
          exact i4 c hc hb hu2 r (by omega)
      · have hc2 : up x.2.1 p true c = true := hc
        show ∃ r, r < j + 1 ∧ clM f x.1 j p c r ≠ 0 ∧ ∀ c', c' < e → s.testBit c' = true → c' ≠ c → clM f x.1 j p c' r = 0
        by_cases g : c = p
        · subst g
          exact ⟨j, by omega, by rw [clp]; exact p5, fun c' _ _ h => kill c' h⟩
        · rw [up_n g] at hc2
          obtain ⟨r, r1, r2, r3⟩ := i5 c hc2
          refine ⟨r, by omega, by rw [keep c r (by omega) (hz r r1)]; exact r2, fun c' h1 h2 h3 => ?_⟩
          rw [keep c' r (by omega) (hz r r1)]
          exact r3 c' h1 h2 h3
      · show x.2.2 + 1 = cnt (up x.2.1 p true) e
        rw [cnt_up p4 e, if_pos p1, i6]
theorem el_cnt (he : e ≤ 10) (hf : f = 2 ∨ f = 3 ∨ f = 5) {s : Nat} (hs : s < 2 ^ e) {x : (Nat → Nat → Nat) × (Nat → Bool) × Nat} (h : ElI f rows e s C rows x) : rkE f rows x.1 s = x.2.2 := by
  obtain ⟨i1, -, i3, i4, i5, i6⟩ := h
  have R := rkE_spr he hf i1
  have key : ∀ k, k ≤ e → rkE f rows x.1 (s % 2 ^ k) = cnt x.2.1 k := by
    intro k
    induction k with
    | zero => intro _; rw [Nat.pow_zero, Nat.mod_one, R.1]; rfl
    | succ k ih =>
      intro hk
      have i := ih (by omega)
      by_cases g : s.testBit k = true
      · have hl : s % 2 ^ k < 2 ^ e := mod_lt2 (by omega)
        have hn : ¬ (s % 2 ^ k).testBit k = true := by rw [Nat.testBit_lt_two_pow (Nat.mod_lt _ (p2_pos k))]; exact Bool.false_ne_true
        obtain ⟨a1, a2⟩ := R.2 _ k hl (by omega) hn
        rw [pre_y g]
        cases hu : x.2.1 k
        · have z : Sp f rows e x.1 (s % 2 ^ k) (cz x.1 k) := Sp.zero (fun r hr => by
            show (f : Int) ∣ ((x.1 k r : Nat) : Int)
            rw [i4 k (by omega) g hu r hr]
            exact Int.dvd_zero _)
          rw [a1 z, i, cnt_n (by rw [hu]; exact Bool.false_ne_true)]
        · have z : ¬ Sp f rows e x.1 (s % 2 ^ k) (cz x.1 k) := fun z => by
            obtain ⟨r, r1, r2, r3⟩ := i5 k hu
            obtain ⟨c, c1, c2⟩ := z
            have q := c2 r r1
            rw [sumI_zero e (fun i hi => by
              by_cases gi : (s % 2 ^ k).testBit i = true
              · have gi2 := gi
                rw [Nat.testBit_mod_two_pow, Bool.and_eq_true, decide_eq_true_eq] at gi2
                rw [r3 i hi gi2.2 (by omega)]
                exact Int.mul_zero _
              · rw [c1 i hi gi]; exact Int.zero_mul _), Int.sub_zero] at q
            exact r2 (lt_dv (i1 k r r1) q)
          rw [a2 z, i, cnt_y hu]
      · have hu : ¬ x.2.1 k = true := fun z => g (i3 k z).2
        rw [pre_n g, cnt_n hu]
        exact ih (by omega)
  have q := key e (Nat.le_refl e)
  rw [Nat.mod_eq_of_lt hs] at q
  rw [q, i6]
theorem rkM_is (he : e ≤ 10) (hf : f = 2 ∨ f = 3 ∨ f = 5) (hC : ∀ c r, r < rows → C c r < f) {s : Nat} (hs : s < 2 ^ e) : rkM f rows e s C = rkE f rows C s := by
  have h := el_ok he hf hC hs rows (Nat.le_refl _)
  have h2 := el_cnt he hf hs h
  rw [h.2.1] at h2
  exact h2.symm
theorem rkE_congr (he : e ≤ 10) (hf : f = 2 ∨ f = 3 ∨ f = 5) {C' : Nat → Nat → Nat} (hC : ∀ c r, r < rows → C c r < f) (hC' : ∀ c r, r < rows → C' c r < f) (h : ∀ c, c < e → ∀ r, r < rows → C c r = C' c r) {s : Nat} (hs : s < 2 ^ e) : rkE f rows C s = rkE f rows C' s := by
  have sp : ∀ s v, Sp f rows e C s v → Sp f rows e C' s v := fun s v q => q.sub (fun i hi hb => (Sp.gen hi hb).congr (fun r hr => by
    show (f : Int) ∣ ((C i r : Nat) : Int) - ((C' i r : Nat) : Int)
    rw [h i hi r hr, Int.sub_self]; exact Int.dvd_zero _))
  have sp2 : ∀ s v, Sp f rows e C' s v → Sp f rows e C s v := fun s v q => q.sub (fun i hi hb => (Sp.gen hi hb).congr (fun r hr => by
    show (f : Int) ∣ ((C' i r : Nat) : Int) - ((C i r : Nat) : Int)
    rw [h i hi r hr, Int.sub_self]; exact Int.dvd_zero _))
  refine (rkE_spr he hf hC).same (r2 := rkE f rows C') ?_ hs
  have R := rkE_spr (e := e) he hf hC'
  refine ⟨R.1, fun s x hs hx hn => ?_⟩
  obtain ⟨a1, a2⟩ := R.2 s x hs hx hn
  have cg : ∀ s, Sp f rows e C s (cz C x) ↔ Sp f rows e C' s (cz C' x) := fun s =>
    ⟨fun z => (sp s _ z).congr (fun r hr => by
      show (f : Int) ∣ ((C' x r : Nat) : Int) - ((C x r : Nat) : Int)
      rw [h x hx r hr, Int.sub_self]; exact Int.dvd_zero _), fun z => (sp2 s _ z).congr (fun r hr => by
      show (f : Int) ∣ ((C x r : Nat) : Int) - ((C' x r : Nat) : Int)
      rw [h x hx r hr, Int.sub_self]; exact Int.dvd_zero _)⟩
  exact ⟨fun z => a1 ((cg s).mp z), fun z => a2 (fun y => z ((cg s).mpr y))⟩
theorem columns_same {w : Nat → Nat} (he : e ≤ 10) (hf : f = 2 ∨ f = 3 ∨ f = 5) (hw : ∀ i, i < e * rows → w i < f) {s : Nat} (hs : s < 2 ^ e) : rkE f rows (colC w rows e) s = colM w f rows e s := by
  have hC : ∀ c r, r < rows → colC w rows e c r < f := fun c r hr => by
    unfold colC
    split
    · rename_i g
      refine hw _ ?_
      have : (c + 1) * rows ≤ e * rows := Nat.mul_le_mul_right rows g
      rw [Nat.add_mul, Nat.one_mul] at this
      omega
    · omega
  unfold colM
  rw [← rkM_is he hf hC hs]
  unfold rkM
  have key : ∀ W W' : Nat → Nat → Nat, (∀ c, c < e → ∀ r, r < rows → W c r = W' c r) → ∀ j, j ≤ rows → (∀ c, c < e → ∀ r, r < rows → (elM f e s W j).1 c r = (elM f e s W' j).1 c r) ∧ (elM f e s W j).2 = (elM f e s W' j).2 := by
    intro W W' hW j
    induction j with
    | zero => intro _; exact ⟨hW, rfl⟩
    | succ j ih =>
      intro hj
      obtain ⟨h1, h2⟩ := ih (by omega)
      have pe : ∀ n, n ≤ e → pvM (elM f e s W j).1 (elM f e s W j).2.1 s j n = pvM (elM f e s W' j).1 (elM f e s W' j).2.1 s j n := by
        intro n
        induction n with
        | zero => intro _; rfl
        | succ n ihn =>
          intro hn
          unfold pvM
          rw [ihn (by omega), h2, h1 n (by omega) j (by omega)]
      unfold elM
      rw [← pe e (Nat.le_refl e), ← h2]
      rcases pvM_rng (W := (elM f e s W j).1) (U := (elM f e s W j).2.1) (set := s) (j := j) e with ⟨g1, -⟩ | ⟨p, p1, p2, -⟩
      · rw [if_pos g1, if_pos g1]
        exact ⟨h1, h2⟩
      · rw [if_neg (by omega), if_neg (by omega), p2, Int.toNat_natCast]
        refine ⟨fun c hc r hr => ?_, rfl⟩
        show clM f _ j p c r = clM f _ j p c r
        unfold clM tmM
        rw [h1 c hc r hr, h1 c hc j (by omega), h1 p p1 r hr, h1 p p1 j (by omega)]
  have q := (key (colC w rows e) (fun i k => w (rows * i + k)) (fun c hc r hr => by
    unfold colC
    rw [if_pos hc, Nat.mul_comm]) rows (Nat.le_refl _)).2
  rw [q]
theorem columns_mtr {w : Nat → Nat} (he : e ≤ 10) (hf : f = 2 ∨ f = 3 ∨ f = 5) (hw : ∀ i, i < e * rows → w i < f) : Mtr e (rkE f rows (colC w rows e)) := by
  refine SpR.mtr he (rkE_spr he hf (fun c r hr => ?_))
  unfold colC
  split
  · rename_i g
    refine hw _ ?_
    have : (c + 1) * rows ≤ e * rows := Nat.mul_le_mul_right rows g
    rw [Nat.add_mul, Nat.one_mul] at this
    omega
  · omega
end Al
