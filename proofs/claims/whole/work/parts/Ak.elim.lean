/-! The mathematics: the class's elimination counts the columns that are not spanned by others -/
section Ak
variable {e f rows n : Nat} {C R : Nat → Nat → Nat} {P : Nat → Int}
theorem mod_dv (f a : Nat) : (f : Int) ∣ ((a % f : Nat) : Int) - (a : Int) := by
  have h : ((f * (a / f) + a % f : Nat) : Int) = (a : Int) := by rw [Nat.div_add_mod]
  rw [Int.natCast_add, Int.natCast_mul] at h
  exact ⟨-((a / f : Nat) : Int), by rw [Int.mul_neg]; omega⟩
theorem lt_dv {f a : Nat} (h : a < f) (hd : (f : Int) ∣ (a : Int)) : a = 0 := by
  have h2 : f ∣ a := Int.natCast_dvd_natCast.mp hd
  exact Nat.eq_zero_of_dvd_of_lt h2 h
/-- reduced columns with their pivots -/
def Tri (f rows : Nat) (R : Nat → Nat → Nat) (P : Nat → Int) (n : Nat) : Prop := ∀ j, j < n → (∀ r, r < rows → R j r < f) ∧ ((P j = -1 ∧ ∀ r, r < rows → R j r = 0) ∨ ∃ p, p < rows ∧ P j = ((p : Nat) : Int) ∧ R j p = 1 ∧ ∀ k, j < k → k < n → R k p = 0)
theorem fstE_no {g : Nat → Nat} {n : Nat} (h : fstE g n = -1) : ∀ r, r < n → g r = 0 := by
  intro r hr
  unfold fstE at h
  rcases fst_spec (p := fun r => g r != 0) (n := n) with ⟨h1, h2⟩ | ⟨i, h1, h2, h3, h4⟩
  · have q := h2 r hr
    rw [bne_eq_false_iff_eq] at q
    exact q
  · rw [h2] at h
    have h' : ((i : Nat) : Int) = -1 := h
    omega
theorem fstE_yes {g : Nat → Nat} {n : Nat} (h : ¬ fstE g n = -1) : ∃ p, p < n ∧ fstE g n = ((p : Nat) : Int) ∧ g p ≠ 0 := by
  unfold fstE at h ⊢
  rcases fst_spec (p := fun r => g r != 0) (n := n) with ⟨h1, h2⟩ | ⟨i, h1, h2, h3, h4⟩
  · rw [h1] at h
    exact absurd rfl h
  · rw [h2]
    exact ⟨i, h1, rfl, by rw [bne_iff_ne] at h3; exact h3⟩
theorem all1 {n i : Nat} (h : i < n) : (2 ^ n - 1).testBit i = true := by rw [Nat.testBit_two_pow_sub_one, decide_eq_true h]
theorem Tri.zero {w : Nat → Int} (h : Tri f rows R P n) (hw : Sp f rows n R (2 ^ n - 1) w) (h0 : ∀ j, j < n → ∀ p, p < rows → P j = ((p : Nat) : Int) → (f : Int) ∣ w p) : ∀ r, r < rows → (f : Int) ∣ w r := by
  obtain ⟨d, -, h2⟩ := hw
  have key : ∀ m, m ≤ n → ∀ r, r < rows → (f : Int) ∣ sumI (fun j => d j * ((R j r : Nat) : Int)) m := by
    intro m
    induction m with
    | zero => intro _ r _; exact Int.dvd_zero _
    | succ m ih =>
      intro hm r hr
      have i := ih (by omega)
      show (f : Int) ∣ sumI _ m + d m * ((R m r : Nat) : Int)
      rcases (h m (by omega)).2 with ⟨-, z⟩ | ⟨p, p1, p2, p3, p4⟩
      · rw [z r hr]
        exact Int.dvd_add (i r hr) (by rw [show ((0 : Nat) : Int) = 0 from rfl, Int.mul_zero]; exact Int.dvd_zero _)
      · have a1 := h2 p p1
        have a2 := h0 m (by omega) p p1 p2
        rw [sumI_cut (m := m + 1) n (by omega) (fun k k1 k2 => by rw [p4 k (by omega) k2]; exact Int.mul_zero _)] at a1
        have a3 : sumI (fun j => d j * ((R j p : Nat) : Int)) (m + 1) = sumI (fun j => d j * ((R j p : Nat) : Int)) m + d m * ((R m p : Nat) : Int) := rfl
        rw [a3, p3] at a1
        have a4 := i p p1
        have a5 := Int.dvd_sub (Int.dvd_sub a2 a1) a4
        have e1 : w p - (w p - (sumI (fun j => d j * ((R j p : Nat) : Int)) m + d m * ((1 : Nat) : Int))) - sumI (fun j => d j * ((R j p : Nat) : Int)) m = d m := by
          rw [show ((1 : Nat) : Int) = 1 from rfl, Int.mul_one]; omega
        rw [e1] at a5
        exact Int.dvd_add (i r hr) (Int.dvd_mul_of_dvd_left a5)
  intro r hr
  have a1 := Int.dvd_add (h2 r hr) (key n (Nat.le_refl n) r hr)
  rw [Int.sub_add_cancel] at a1
  exact a1
theorem redS_sp {v : Nat → Nat} {s : Nat} (hR : ∀ j, j < n → Sp f rows e C s (cz R j)) : ∀ k, k ≤ n → Sp f rows e C s (fun r => ((redS f rows R P v k r : Nat) : Int) - ((v r : Nat) : Int)) := by
  intro k
  induction k with
  | zero => intro _; exact Sp.zero (fun r _ => by show (f : Int) ∣ ((v r : Nat) : Int) - ((v r : Nat) : Int); rw [Int.sub_self]; exact Int.dvd_zero _)
  | succ k ih =>
    intro hk
    have i := ih (by omega)
    unfold redS
    split
    · refine (i.comb ((f - redS f rows R P v k (P k).toNat : Nat) : Int) (hR k (by omega))).congr (fun r _ => ?_)
      unfold addV
      have q := mod_dv f (redS f rows R P v k r + (f - redS f rows R P v k (P k).toNat) * R k r)
      rw [Int.natCast_add, Int.natCast_mul] at q
      have e1 : ((((redS f rows R P v k r + (f - redS f rows R P v k (P k).toNat) * R k r) % f : Nat) : Int) - ((v r : Nat) : Int)) - (((redS f rows R P v k r : Nat) : Int) - ((v r : Nat) : Int) + ((f - redS f rows R P v k (P k).toNat : Nat) : Int) * cz R k r) = (((redS f rows R P v k r + (f - redS f rows R P v k (P k).toNat) * R k r) % f : Nat) : Int) - (((redS f rows R P v k r : Nat) : Int) + ((f - redS f rows R P v k (P k).toNat : Nat) : Int) * ((R k r : Nat) : Int)) := by
        show _ - (_ + _ * ((R k r : Nat) : Int)) = _
        omega
      rw [e1]
      exact q
    · exact i
theorem redS_piv {v : Nat → Nat} (hf : 0 < f) (hv : ∀ r, r < rows → v r < f) (h : Tri f rows R P n) : ∀ k, k ≤ n → ∀ j, j < k → ∀ p, p < rows → P j = ((p : Nat) : Int) → redS f rows R P v k p = 0 := by
  intro k
  induction k with
  | zero => intro _ j hj; omega
  | succ k ih =>
    intro hk j hj p hp hP
    have i := ih (by omega)
    have hlt := redS_lt (R := R) (P := P) hf hv k p hp
    rcases (h j (by omega)).2 with ⟨z, -⟩ | ⟨q, q1, q2, q3, q4⟩
    · rw [z] at hP; omega
    · have hqp : q = p := by rw [q2] at hP; omega
      subst hqp
      unfold redS
      by_cases g : j = k
      · subst g
        rw [hP, Int.toNat_natCast]
        by_cases gz : redS f rows R P v j q = 0
        · rw [if_neg (fun z => z.2.2 gz)]; exact gz
        · rw [if_pos ⟨by omega, by omega, gz⟩]
          unfold addV
          rw [q3, Nat.mul_one, show redS f rows R P v j q + (f - redS f rows R P v j q) = f by omega, Nat.mod_self]
      · have z := i j (by omega) q hp hP
        split
        · unfold addV
          rw [z, q4 k (by omega) (by omega), Nat.mul_zero, Nat.zero_mod]
        · exact z
theorem fin_is {v : Nat → Nat} (hf : f = 2 ∨ f = 3 ∨ f = 5) (hv : ∀ r, r < rows → v r < f) : (fstE v rows = -1 ∧ finV f rows v = v) ∨ ∃ p, p < rows ∧ fstE v rows = ((p : Nat) : Int) ∧ v p ≠ 0 ∧ finV f rows v p = 1 ∧ ∀ r, (f : Int) ∣ ((finV f rows v r : Nat) : Int) - ((invN f (v p) : Nat) : Int) * ((v r : Nat) : Int) := by
  by_cases g : fstE v rows = -1
  · exact Or.inl ⟨g, by unfold finV; rw [g, if_neg (by omega)]⟩
  · obtain ⟨p, h1, h2, h3⟩ := fstE_yes g
    obtain ⟨⟨i1, i2, i3⟩, -⟩ := inv_ex f hf (v p) (hv p h1) (by omega)
    have e0 : finV f rows v = addV f v v (invN f (v p) - 1) := by
      unfold finV
      rw [h2, if_pos (by omega), Int.toNat_natCast]
    have e1 : ∀ r, v r + (invN f (v p) - 1) * v r = invN f (v p) * v r := fun r => by
      have : invN f (v p) = (invN f (v p) - 1) + 1 := by omega
      rw [this, Nat.add_sub_cancel, Nat.add_mul, Nat.one_mul]; omega
    refine Or.inr ⟨p, h1, h2, h3, ?_, fun r => ?_⟩
    · rw [e0]
      unfold addV
      rw [e1, Nat.mul_comm]
      exact i3
    · rw [e0]
      unfold addV
      rw [e1]
      have q := mod_dv f (invN f (v p) * v r)
      rw [Int.natCast_mul] at q
      exact q
/-- what the chain of a set is -/
def ChI (f rows e : Nat) (C : Nat → Nat → Nat) (s : Nat) (c : List Vp) : Prop := Tri f rows (fun j => (c.getD j vp0).1) (fun j => (c.getD j vp0).2) c.length ∧ (∀ j, j < c.length → Sp f rows e C s (cz (fun j => (c.getD j vp0).1) j)) ∧ ∀ i, i < e → s.testBit i = true → Sp f rows c.length (fun j => (c.getD j vp0).1) (2 ^ c.length - 1) (cz C i)
theorem low_is : ∀ s, s < 1024 → s = 0 ∨ (ntz s < 10 ∧ s.testBit (ntz s) = true ∧ s &&& (s - 1) = sdf s (2 ^ ntz s)) := by decide +kernel
theorem getD_l {c : List Vp} {x : Vp} {j : Nat} (h : j < c.length) : (c ++ [x]).getD j vp0 = c.getD j vp0 := by
  rw [List.getD_eq_getElem?_getD, List.getD_eq_getElem?_getD, List.getElem?_append_left h]
theorem getD_n {c : List Vp} {x : Vp} : (c ++ [x]).getD c.length vp0 = x := by
  rw [List.getD_eq_getElem?_getD, List.getElem?_append_right (Nat.le_refl _), Nat.sub_self]; rfl
theorem ch_step {s l : Nat} {c : List Vp} {x : Vp} (hf : f = 2 ∨ f = 3 ∨ f = 5) (hC : ∀ j, ∀ r, r < rows → C j r < f) (hl : l < e) (hsl : s.testBit l = true) (h : ChI f rows e C (sdf s (2 ^ l)) c) (hx : x = (finV f rows (redS f rows (fun j => (c.getD j vp0).1) (fun j => (c.getD j vp0).2) (C l) c.length), fstE (redS f rows (fun j => (c.getD j vp0).1) (fun j => (c.getD j vp0).2) (C l) c.length) rows)) : ChI f rows e C s (c ++ [x]) ∧ (0 ≤ x.2 ↔ ¬ Sp f rows e C (sdf s (2 ^ l)) (cz C l)) := by
  have hf0 : 0 < f := by omega
  obtain ⟨h1, h2, h3⟩ := h
  have hself : ∀ j, j < c.length → Sp f rows c.length (fun j => (c.getD j vp0).1) (2 ^ c.length - 1) (cz (fun j => (c.getD j vp0).1) j) := fun j hj => Sp.gen hj (all1 hj)
  have w1 := redS_sp (P := fun j => (c.getD j vp0).2) (v := C l) h2 c.length (Nat.le_refl _)
  have w2 := redS_sp (P := fun j => (c.getD j vp0).2) (v := C l) hself c.length (Nat.le_refl _)
  have w3 := redS_piv (v := C l) hf0 (hC l) h1 c.length (Nat.le_refl _)
  have w4 := redS_lt (R := fun j => (c.getD j vp0).1) (P := fun j => (c.getD j vp0).2) (v := C l) hf0 (hC l) c.length
  generalize hw : redS f rows (fun j => (c.getD j vp0).1) (fun j => (c.getD j vp0).2) (C l) c.length = w at w1 w2 w3 w4 hx
  have sub1 : ∀ v, Sp f rows e C (sdf s (2 ^ l)) v → Sp f rows e C s v := fun v q => q.mono (sbs_rem s l)
  have hl9 : Sp f rows e C s (cz C l) := Sp.gen hl hsl
  have ws : Sp f rows e C s (fun r => ((w r : Nat) : Int)) := by
    refine (hl9.comb 1 (sub1 _ w1)).congr (fun r _ => ?_)
    show (f : Int) ∣ ((w r : Nat) : Int) - (((C l r : Nat) : Int) + 1 * (((w r : Nat) : Int) - ((C l r : Nat) : Int)))
    rw [show ((w r : Nat) : Int) - (((C l r : Nat) : Int) + 1 * (((w r : Nat) : Int) - ((C l r : Nat) : Int))) = 0 by omega]
    exact Int.dvd_zero _
  have hfin := fin_is (v := w) hf w4
  have x1 : x.1 = finV f rows w := by rw [hx]
  have x2 : x.2 = fstE w rows := by rw [hx]
  have xs : Sp f rows e C s (fun r => ((x.1 r : Nat) : Int)) := by
    rcases hfin with ⟨-, q⟩ | ⟨p, -, -, -, -, q⟩
    · rw [x1, q]; exact ws
    · refine ((Sp.zero (v := fun _ => 0) (fun _ _ => Int.dvd_zero _)).comb ((invN f (w p) : Nat) : Int) ws).congr (fun r _ => ?_)
      show (f : Int) ∣ ((x.1 r : Nat) : Int) - (0 + ((invN f (w p) : Nat) : Int) * ((w r : Nat) : Int))
      rw [Int.zero_add, x1]
      exact q r
  have len : (c ++ [x]).length = c.length + 1 := by rw [List.length_append]; rfl
  have gl : ∀ j, j < c.length → (c ++ [x]).getD j vp0 = c.getD j vp0 := fun j hj => getD_l hj
  have gn : (c ++ [x]).getD c.length vp0 = x := getD_n
  refine ⟨⟨?_, ?_, ?_⟩, ?_⟩
  · rw [len]
    intro j hj
    show (∀ r, r < rows → ((c ++ [x]).getD j vp0).1 r < f) ∧ ((((c ++ [x]).getD j vp0).2 = -1 ∧ ∀ r, r < rows → ((c ++ [x]).getD j vp0).1 r = 0) ∨ ∃ p, p < rows ∧ ((c ++ [x]).getD j vp0).2 = ((p : Nat) : Int) ∧ ((c ++ [x]).getD j vp0).1 p = 1 ∧ ∀ k, j < k → k < c.length + 1 → ((c ++ [x]).getD k vp0).1 p = 0)
    by_cases g : j = c.length
    · rw [g, gn]
      refine ⟨fun r hr => by rw [x1]; exact finV_lt hf0 w4 r hr, ?_⟩
      rcases hfin with ⟨q1, q2⟩ | ⟨p, q1, q2, q3, q4, -⟩
      · exact Or.inl ⟨by rw [x2]; exact q1, fun r hr => by rw [x1, q2]; exact fstE_no q1 r hr⟩
      · exact Or.inr ⟨p, q1, by rw [x2]; exact q2, by rw [x1]; exact q4, fun k k1 k2 => by omega⟩
    · have hj2 : j < c.length := by omega
      rw [gl j hj2]
      obtain ⟨a1, a2⟩ := h1 j hj2
      refine ⟨a1, ?_⟩
      rcases a2 with a2 | ⟨p, p1, p2, p3, p4⟩
      · exact Or.inl a2
      · refine Or.inr ⟨p, p1, p2, p3, fun k k1 k2 => ?_⟩
        by_cases gk : k = c.length
        · rw [gk, gn]
          have z := w3 j hj2 p p1 p2
          rcases hfin with ⟨-, q⟩ | ⟨p', -, -, -, -, q⟩
          · rw [x1, q]; exact z
          · have q2 := q p
            rw [z, show ((0 : Nat) : Int) = 0 from rfl, Int.mul_zero, Int.sub_zero] at q2
            rw [x1]
            exact lt_dv (finV_lt hf0 w4 p p1) q2
        · rw [gl k (by omega)]; exact p4 k k1 (by omega)
  · rw [len]
    intro j hj
    show Sp f rows e C s (fun r => ((((c ++ [x]).getD j vp0).1 r : Nat) : Int))
    by_cases g : j = c.length
    · rw [g, gn]; exact xs
    · rw [gl j (by omega)]
      exact sub1 _ (h2 j (by omega))
  · rw [len]
    have up1 : ∀ v, Sp f rows c.length (fun j => (c.getD j vp0).1) (2 ^ c.length - 1) v → Sp f rows (c.length + 1) (fun j => ((c ++ [x]).getD j vp0).1) (2 ^ (c.length + 1) - 1) v := fun v q => q.sub (fun i hi _ => by
      have z := Sp.gen (f := f) (rows := rows) (C := fun j => ((c ++ [x]).getD j vp0).1) (show i < c.length + 1 by omega) (all1 (show i < c.length + 1 by omega))
      have e1 : cz (fun j => ((c ++ [x]).getD j vp0).1) i = cz (fun j => (c.getD j vp0).1) i := by
        funext r
        show ((((c ++ [x]).getD i vp0).1 r : Nat) : Int) = _
        rw [gl i hi]
      rw [e1] at z
      exact z)
    intro i hi hb
    by_cases g : i = l
    · subst g
      have xn : Sp f rows (c.length + 1) (fun j => ((c ++ [x]).getD j vp0).1) (2 ^ (c.length + 1) - 1) (fun r => ((x.1 r : Nat) : Int)) := by
        have z := Sp.gen (f := f) (rows := rows) (C := fun j => ((c ++ [x]).getD j vp0).1) (show c.length < c.length + 1 by omega) (all1 (show c.length < c.length + 1 by omega))
        have e1 : cz (fun j => ((c ++ [x]).getD j vp0).1) c.length = fun r => ((x.1 r : Nat) : Int) := by
          funext r
          show ((((c ++ [x]).getD c.length vp0).1 r : Nat) : Int) = _
          rw [gn]
        rw [e1] at z
        exact z
      have wn : Sp f rows (c.length + 1) (fun j => ((c ++ [x]).getD j vp0).1) (2 ^ (c.length + 1) - 1) (fun r => ((w r : Nat) : Int)) := by
        rcases hfin with ⟨-, q⟩ | ⟨p, p1, -, p3, -, q⟩
        · rw [x1, q] at xn; exact xn
        · refine ((Sp.zero (v := fun _ => 0) (fun _ _ => Int.dvd_zero _)).comb ((w p : Nat) : Int) xn).congr (fun r _ => ?_)
          obtain ⟨⟨-, -, i3⟩, -⟩ := inv_ex f hf (w p) (w4 p p1) (by omega)
          have m := mod_dv f (w p * invN f (w p))
          rw [i3, Int.natCast_mul] at m
          have q2 := q r
          rw [← x1] at q2
          have e1 : ((w r : Nat) : Int) - (0 + ((w p : Nat) : Int) * ((x.1 r : Nat) : Int)) = ((w r : Nat) : Int) * (((1 : Nat) : Int) - ((w p : Nat) : Int) * ((invN f (w p) : Nat) : Int)) + (-((w p : Nat) : Int)) * (((x.1 r : Nat) : Int) - ((invN f (w p) : Nat) : Int) * ((w r : Nat) : Int)) := by
            rw [show ((1 : Nat) : Int) = 1 from rfl]; grind
          show (f : Int) ∣ ((w r : Nat) : Int) - (0 + ((w p : Nat) : Int) * ((x.1 r : Nat) : Int))
          rw [e1]
          exact dv_lin _ (Int.dvd_mul_of_dvd_right m) q2
      refine (wn.comb (-1) (up1 _ w2)).congr (fun r _ => ?_)
      show (f : Int) ∣ ((C i r : Nat) : Int) - (((w r : Nat) : Int) + (-1) * (((w r : Nat) : Int) - ((C i r : Nat) : Int)))
      rw [show ((C i r : Nat) : Int) - (((w r : Nat) : Int) + (-1) * (((w r : Nat) : Int) - ((C i r : Nat) : Int))) = 0 by omega]
      exact Int.dvd_zero _
    · exact up1 _ (h3 i hi (by rw [sdf_bit, hb, p2_testBit, decide_eq_false (fun z => g z.symm)]; rfl))
  · rw [x2]
    constructor
    · intro q z
      have z2 : Sp f rows c.length (fun j => (c.getD j vp0).1) (2 ^ c.length - 1) (cz C l) := z.sub h3
      have z3 : Sp f rows c.length (fun j => (c.getD j vp0).1) (2 ^ c.length - 1) (fun r => ((w r : Nat) : Int)) := by
        refine (z2.comb 1 w2).congr (fun r _ => ?_)
        show (f : Int) ∣ ((w r : Nat) : Int) - (((C l r : Nat) : Int) + 1 * (((w r : Nat) : Int) - ((C l r : Nat) : Int)))
        rw [show ((w r : Nat) : Int) - (((C l r : Nat) : Int) + 1 * (((w r : Nat) : Int) - ((C l r : Nat) : Int))) = 0 by omega]
        exact Int.dvd_zero _
      have z4 := h1.zero z3 (fun j hj p hp hP => by rw [w3 j hj p hp hP]; exact Int.dvd_zero _)
      obtain ⟨p, p1, -, p3⟩ := fstE_yes (g := w) (n := rows) (by omega)
      exact p3 (lt_dv (w4 p p1) (z4 p p1))
    · intro q
      apply Classical.byContradiction
      intro z
      have hr := (fstE_rng w rows).1
      have z1 := fstE_no (show fstE w rows = -1 by omega)
      apply q
      refine ((Sp.zero (v := fun _ => 0) (fun _ _ => Int.dvd_zero _)).comb (-1) w1).congr (fun r hr => ?_)
      show (f : Int) ∣ ((C l r : Nat) : Int) - (0 + (-1) * (((w r : Nat) : Int) - ((C l r : Nat) : Int)))
      rw [z1 r hr, show ((C l r : Nat) : Int) - (0 + (-1) * (((0 : Nat) : Int) - ((C l r : Nat) : Int))) = 0 by omega]
      exact Int.dvd_zero _
theorem ch_ok (he : e ≤ 10) (hf : f = 2 ∨ f = 3 ∨ f = 5) (hC : ∀ j, ∀ r, r < rows → C j r < f) : ∀ s, s < 2 ^ e → ChI f rows e C s (chE f rows C s) := by
  intro s
  induction s using Nat.strongRecOn with
  | _ s ih =>
    intro hs
    rcases low_is s (Nat.lt_of_lt_of_le hs (p2_le he)) with z | ⟨a1, a2, a3⟩
    · subst z
      rw [chE_zero]
      exact ⟨fun j hj => absurd hj (Nat.not_lt_zero j), fun j hj => absurd hj (Nat.not_lt_zero j), fun i _ hb => by rw [Nat.zero_testBit] at hb; cases hb⟩
    · have h0 : 0 < s := by
        apply Nat.pos_of_ne_zero
        intro z
        subst z
        rw [Nat.zero_testBit] at a2
        cases a2
      have hl : ntz s < e := Classical.byContradiction fun z => by
        rw [Nat.testBit_lt_two_pow (Nat.lt_of_lt_of_le hs (Nat.pow_le_pow_right (by decide) (by omega)))] at a2
        cases a2
      have i := ih (sdf s (2 ^ ntz s)) (rem_lt a2) (sdf_lt hs)
      rw [chE_pos h0, a3]
      exact (ch_step hf hC hl a2 i rfl).1
theorem rkE_spr (he : e ≤ 10) (hf : f = 2 ∨ f = 3 ∨ f = 5) (hC : ∀ j, ∀ r, r < rows → C j r < f) : SpR f rows e C (rkE f rows C) := by
  refine SpR.pick hf (by unfold rkE; rw [chE_zero]; rfl) (fun T hT h0 => ?_)
  rcases low_is T (Nat.lt_of_lt_of_le hT (p2_le he)) with z | ⟨a1, a2, a3⟩
  · exact absurd z h0
  · have hl : ntz T < e := Classical.byContradiction fun z => by
      rw [Nat.testBit_lt_two_pow (Nat.lt_of_lt_of_le hT (Nat.pow_le_pow_right (by decide) (by omega)))] at a2
      cases a2
    have q := (ch_step hf hC hl a2 (ch_ok he hf hC _ (sdf_lt hT)) rfl).2
    refine ⟨ntz T, hl, a2, fun z => ?_, fun z => ?_⟩
    · rw [rkE_pos (by omega), a3]
      have g : ¬ 0 ≤ (stepE f rows C (chE f rows C (sdf T (2 ^ ntz T))) T).2 := fun y => q.mp y z
      rw [if_neg g]; rfl
    · rw [rkE_pos (by omega), a3]
      have g : 0 ≤ (stepE f rows C (chE f rows C (sdf T (2 ^ ntz T))) T).2 := q.mpr z
      rw [if_pos g]
end Ak
