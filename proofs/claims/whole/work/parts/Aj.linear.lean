/-! The mathematics: columns over a field of a prime number, what they span, their ranks -/
section Aj
variable {e f rows : Nat}
theorem sumI_add (a b : Nat → Int) : ∀ n, sumI (fun i => a i + b i) n = sumI a n + sumI b n := by
  intro n
  induction n with
  | zero => rfl
  | succ n ih =>
    show sumI (fun i => a i + b i) n + (a n + b n) = (sumI a n + a n) + (sumI b n + b n)
    omega
theorem sumI_mul (t : Int) (a : Nat → Int) : ∀ n, sumI (fun i => t * a i) n = t * sumI a n := by
  intro n
  induction n with
  | zero => exact (Int.mul_zero t).symm
  | succ n ih =>
    show sumI (fun i => t * a i) n + t * a n = t * (sumI a n + a n)
    rw [ih, Int.mul_add]
theorem sI_congr {a b : Nat → Int} : ∀ n, (∀ i, i < n → a i = b i) → sumI a n = sumI b n := by
  intro n
  induction n with
  | zero => intro _; rfl
  | succ n ih =>
    intro h
    show sumI a n + a n = sumI b n + b n
    rw [ih (fun i hi => h i (by omega)), h n (by omega)]
theorem sumI_zero {a : Nat → Int} : ∀ n, (∀ i, i < n → a i = 0) → sumI a n = 0 := by
  intro n
  induction n with
  | zero => intro _; rfl
  | succ n ih =>
    intro h
    show sumI a n + a n = 0
    rw [ih (fun i hi => h i (by omega)), h n (by omega)]; rfl
theorem sumI_put {a : Nat → Int} {k : Nat} (x : Int) : ∀ n, sumI (fun i => if i = k then x else a i) n = if k < n then sumI a n - a k + x else sumI a n := by
  intro n
  induction n with
  | zero => rfl
  | succ n ih =>
    show sumI (fun i => if i = k then x else a i) n + (if n = k then x else a n) = if k < n + 1 then (sumI a n + a n) - a k + x else sumI a n + a n
    rw [ih]
    by_cases h : n = k
    · subst h
      rw [if_neg (Nat.lt_irrefl n), if_pos rfl, if_pos (Nat.lt_succ_self n)]; omega
    · rw [if_neg h]
      by_cases g : k < n
      · rw [if_pos g, if_pos (by omega)]; omega
      · rw [if_neg g, if_neg (by omega)]
theorem sumI_one {a : Nat → Int} {k n : Nat} (hk : k < n) (h : ∀ i, i < n → i ≠ k → a i = 0) : sumI a n = a k := by
  have q := sumI_put (a := a) (k := k) 0 n
  rw [if_pos hk, sumI_zero n (fun i hi => by
    by_cases g : i = k
    · rw [if_pos g]
    · rw [if_neg g]; exact h i hi g)] at q
  omega
theorem sumI_dvd {a : Nat → Int} {m : Int} : ∀ n, (∀ i, i < n → m ∣ a i) → m ∣ sumI a n := by
  intro n
  induction n with
  | zero => intro _; exact Int.dvd_zero _
  | succ n ih =>
    intro h
    exact Int.dvd_add (ih (fun i hi => h i (by omega))) (h n (by omega))
theorem sumI_cut {a : Nat → Int} {m : Nat} : ∀ n, m ≤ n → (∀ i, m ≤ i → i < n → a i = 0) → sumI a n = sumI a m := by
  intro n
  induction n with
  | zero => intro h _; rw [Nat.le_zero.mp h]
  | succ n ih =>
    intro h h2
    by_cases g : m = n + 1
    · rw [g]
    · show sumI a n + a n = _
      rw [ih (by omega) (fun i h3 h4 => h2 i h3 (by omega)), h2 n (by omega) (by omega)]; omega
theorem dv_lin {m a b : Int} (t : Int) (ha : m ∣ a) (hb : m ∣ b) : m ∣ a + t * b := Int.dvd_add ha (Int.dvd_mul_of_dvd_right hb)
/-- v is a sum of multiples of the columns of s, but for multiples of f -/
def Sp (f rows e : Nat) (C : Nat → Nat → Nat) (s : Nat) (v : Nat → Int) : Prop := ∃ c : Nat → Int, (∀ i, i < e → ¬ s.testBit i = true → c i = 0) ∧ ∀ r, r < rows → (f : Int) ∣ v r - sumI (fun i => c i * ((C i r : Nat) : Int)) e
abbrev cz (C : Nat → Nat → Nat) (i : Nat) : Nat → Int := fun r => ((C i r : Nat) : Int)
variable {C : Nat → Nat → Nat}
theorem Sp.congr {s : Nat} {v w : Nat → Int} (h : Sp f rows e C s v) (hv : ∀ r, r < rows → (f : Int) ∣ w r - v r) : Sp f rows e C s w := by
  obtain ⟨c, h1, h2⟩ := h
  refine ⟨c, h1, fun r hr => ?_⟩
  have q := Int.dvd_add (h2 r hr) (hv r hr)
  have e1 : v r - sumI (fun i => c i * ((C i r : Nat) : Int)) e + (w r - v r) = w r - sumI (fun i => c i * ((C i r : Nat) : Int)) e := by omega
  rw [e1] at q
  exact q
theorem Sp.zero {s : Nat} {v : Nat → Int} (h : ∀ r, r < rows → (f : Int) ∣ v r) : Sp f rows e C s v := by
  refine ⟨fun _ => 0, fun _ _ _ => rfl, fun r hr => ?_⟩
  rw [sumI_zero e (fun i _ => Int.zero_mul _), Int.sub_zero]
  exact h r hr
theorem Sp.comb {s : Nat} {v w : Nat → Int} (t : Int) (h : Sp f rows e C s v) (h2 : Sp f rows e C s w) : Sp f rows e C s (fun r => v r + t * w r) := by
  obtain ⟨c, c1, c2⟩ := h
  obtain ⟨d, d1, d2⟩ := h2
  refine ⟨fun i => c i + t * d i, fun i hi hs => by show c i + t * d i = 0; rw [c1 i hi hs, d1 i hi hs]; omega, fun r hr => ?_⟩
  have q := dv_lin t (c2 r hr) (d2 r hr)
  have e1 : sumI (fun i => (c i + t * d i) * ((C i r : Nat) : Int)) e = sumI (fun i => c i * ((C i r : Nat) : Int)) e + t * sumI (fun i => d i * ((C i r : Nat) : Int)) e := by
    rw [← sumI_mul, ← sumI_add]
    exact sI_congr e (fun i _ => by rw [Int.add_mul, Int.mul_assoc])
  rw [e1]
  have e2 : v r + t * w r - (sumI (fun i => c i * ((C i r : Nat) : Int)) e + t * sumI (fun i => d i * ((C i r : Nat) : Int)) e) = v r - sumI (fun i => c i * ((C i r : Nat) : Int)) e + t * (w r - sumI (fun i => d i * ((C i r : Nat) : Int)) e) := by
    rw [Int.mul_sub]; omega
  rw [e2]
  exact q
theorem Sp.gen {s i : Nat} (hi : i < e) (hs : s.testBit i = true) : Sp f rows e C s (cz C i) := by
  refine ⟨fun j => if j = i then 1 else 0, fun j _ h => if_neg (fun z => h (by rw [z]; exact hs)), fun r _ => ?_⟩
  rw [sumI_one hi (fun j _ h => by show (if j = i then (1 : Int) else 0) * _ = 0; rw [if_neg h]; omega)]
  show (f : Int) ∣ ((C i r : Nat) : Int) - (if i = i then (1 : Int) else 0) * _
  rw [if_pos rfl, Int.one_mul, Int.sub_self]
  exact Int.dvd_zero _
theorem Sp.sub {e' : Nat} {C' : Nat → Nat → Nat} {s s' : Nat} {v : Nat → Int} (h : Sp f rows e C s v) (hg : ∀ i, i < e → s.testBit i = true → Sp f rows e' C' s' (cz C i)) : Sp f rows e' C' s' v := by
  obtain ⟨c, c1, c2⟩ := h
  have key : ∀ n, n ≤ e → Sp f rows e' C' s' (fun r => sumI (fun i => c i * ((C i r : Nat) : Int)) n) := by
    intro n
    induction n with
    | zero => intro _; exact Sp.zero (fun r _ => Int.dvd_zero _)
    | succ n ih =>
      intro hn
      by_cases g : s.testBit n = true
      · exact (ih (by omega)).comb (c n) (hg n (by omega) g)
      · refine (ih (by omega)).congr (fun r _ => ?_)
        show (f : Int) ∣ sumI _ n + c n * _ - sumI _ n
        rw [c1 n (by omega) g, Int.zero_mul, Int.add_zero, Int.sub_self]
        exact Int.dvd_zero _
  exact (key e (Nat.le_refl e)).congr c2
theorem Sp.mono {s s' : Nat} {v : Nat → Int} (h : Sp f rows e C s v) (hs : sbs s s') : Sp f rows e C s' v := h.sub (fun i hi hb => Sp.gen hi (hs i hb))
theorem Sp.split {s x : Nat} {v : Nat → Int} (hx : x < e) (h : Sp f rows e C (s ||| 2 ^ x) v) : ∃ t : Int, Sp f rows e C s (fun r => v r - t * ((C x r : Nat) : Int)) := by
  obtain ⟨c, c1, c2⟩ := h
  refine ⟨c x, fun i => if i = x then 0 else c i, fun i hi hs => ?_, fun r hr => ?_⟩
  · show (if i = x then (0 : Int) else c i) = 0
    by_cases g : i = x
    · rw [if_pos g]
    · rw [if_neg g]
      refine c1 i hi (fun z => hs ?_)
      rw [Nat.testBit_or, p2_testBit, decide_eq_false (fun q => g q.symm), Bool.or_false] at z
      exact z
  · have e1 : sumI (fun i => (if i = x then (0 : Int) else c i) * ((C i r : Nat) : Int)) e = sumI (fun i => c i * ((C i r : Nat) : Int)) e - c x * ((C x r : Nat) : Int) := by
      have q := sumI_put (a := fun i => c i * ((C i r : Nat) : Int)) (k := x) 0 e
      rw [if_pos hx] at q
      rw [sI_congr (b := fun i => if i = x then (0 : Int) else c i * ((C i r : Nat) : Int)) e (fun i _ => by
        show (if i = x then (0 : Int) else c i) * _ = (if i = x then (0 : Int) else c i * _)
        by_cases g : i = x
        · rw [if_pos g, if_pos g, Int.zero_mul]
        · rw [if_neg g, if_neg g]), q]
      omega
    rw [e1]
    have e2 : v r - c x * ((C x r : Nat) : Int) - (sumI (fun i => c i * ((C i r : Nat) : Int)) e - c x * ((C x r : Nat) : Int)) = v r - sumI (fun i => c i * ((C i r : Nat) : Int)) e := by omega
    rw [e2]
    exact c2 r hr
theorem Sp.trans {s x : Nat} {v : Nat → Int} (hx : x < e) (h : Sp f rows e C s (cz C x)) (h2 : Sp f rows e C (s ||| 2 ^ x) v) : Sp f rows e C s v := by
  obtain ⟨t, ht⟩ := h2.split hx
  refine (ht.comb t h).congr (fun r _ => ?_)
  show (f : Int) ∣ v r - (v r - t * ((C x r : Nat) : Int) + t * ((C x r : Nat) : Int))
  rw [show v r - (v r - t * ((C x r : Nat) : Int) + t * ((C x r : Nat) : Int)) = 0 by omega]
  exact Int.dvd_zero _
theorem inv_mod (hf : f = 2 ∨ f = 3 ∨ f = 5) {t : Int} (h : ¬ (f : Int) ∣ t) : ∃ u : Int, (f : Int) ∣ u * t - 1 := by
  rcases hf with rfl | rfl | rfl
  · exact ⟨1, by omega⟩
  · by_cases g : t % 3 = 1
    · exact ⟨1, by omega⟩
    · exact ⟨2, by omega⟩
  · by_cases g : t % 5 = 1
    · exact ⟨1, by omega⟩
    · by_cases g2 : t % 5 = 2
      · exact ⟨3, by omega⟩
      · by_cases g3 : t % 5 = 3
        · exact ⟨2, by omega⟩
        · exact ⟨4, by omega⟩
theorem Sp.swap (hf : f = 2 ∨ f = 3 ∨ f = 5) {s x y : Nat} (hx : x < e) (hy : y < e) (h : Sp f rows e C (s ||| 2 ^ x) (cz C y)) (h2 : ¬ Sp f rows e C s (cz C y)) : Sp f rows e C (s ||| 2 ^ y) (cz C x) := by
  obtain ⟨t, ht⟩ := h.split hx
  have h3 : ¬ (f : Int) ∣ t := fun z => h2 (ht.congr (fun r _ => by
    show (f : Int) ∣ ((C y r : Nat) : Int) - (((C y r : Nat) : Int) - t * ((C x r : Nat) : Int))
    rw [show ((C y r : Nat) : Int) - (((C y r : Nat) : Int) - t * ((C x r : Nat) : Int)) = t * ((C x r : Nat) : Int) by omega]
    exact Int.dvd_mul_of_dvd_left z))
  obtain ⟨u, hu⟩ := inv_mod hf h3
  have a1 : Sp f rows e C (s ||| 2 ^ y) (fun r => ((C y r : Nat) : Int) - t * ((C x r : Nat) : Int)) := ht.mono (fun i hi => by rw [Nat.testBit_or, hi]; rfl)
  have a2 : Sp f rows e C (s ||| 2 ^ y) (cz C y) := Sp.gen hy (by rw [Nat.testBit_or, p2_testBit, decide_eq_true rfl, Bool.or_true])
  have a3 := (Sp.zero (s := s ||| 2 ^ y) (v := fun _ => 0) (fun r _ => Int.dvd_zero _)).comb u (a2.comb (-1) a1)
  refine a3.congr (fun r _ => ?_)
  show (f : Int) ∣ ((C x r : Nat) : Int) - (0 + u * (((C y r : Nat) : Int) + (-1) * (((C y r : Nat) : Int) - t * ((C x r : Nat) : Int))))
  have e1 : ((C x r : Nat) : Int) - (0 + u * (((C y r : Nat) : Int) + (-1) * (((C y r : Nat) : Int) - t * ((C x r : Nat) : Int)))) = (-((C x r : Nat) : Int)) * (u * t - 1) := by grind
  rw [e1]
  exact Int.dvd_mul_of_dvd_right hu
/-- r counts how many columns are not spanned by those before -/
def SpR (f rows e : Nat) (C : Nat → Nat → Nat) (r : Nat → Nat) : Prop := r 0 = 0 ∧ ∀ s x, s < 2 ^ e → x < e → ¬ s.testBit x = true → (Sp f rows e C s (cz C x) → r (s ||| 2 ^ x) = r s) ∧ (¬ Sp f rows e C s (cz C x) → r (s ||| 2 ^ x) = r s + 1)
theorem SpR.same {r r2 : Nat → Nat} (h : SpR f rows e C r) (h2 : SpR f rows e C r2) {s : Nat} (hs : s < 2 ^ e) : r s = r2 s := by
  have key : ∀ k, k ≤ e → r (s % 2 ^ k) = r2 (s % 2 ^ k) := by
    intro k
    induction k with
    | zero => intro _; rw [Nat.pow_zero, Nat.mod_one, h.1, h2.1]
    | succ k ih =>
      intro hk
      by_cases g : s.testBit k = true
      · have hl : s % 2 ^ k < 2 ^ e := mod_lt2 (by omega)
        have hn : ¬ (s % 2 ^ k).testBit k = true := by rw [Nat.testBit_lt_two_pow (Nat.mod_lt _ (p2_pos k))]; exact Bool.false_ne_true
        obtain ⟨a1, a2⟩ := h.2 _ k hl (by omega) hn
        obtain ⟨b1, b2⟩ := h2.2 _ k hl (by omega) hn
        have i := ih (by omega)
        rw [pre_y g]
        by_cases q : Sp f rows e C (s % 2 ^ k) (cz C k)
        · rw [a1 q, b1 q, i]
        · rw [a2 q, b2 q, i]
      · rw [pre_n g]; exact ih (by omega)
  have q := key e (Nat.le_refl e)
  rw [Nat.mod_eq_of_lt hs] at q
  exact q
theorem SpR.mtr {r : Nat → Nat} (he : e ≤ 10) (h : SpR f rows e C r) : Mtr e r := by
  have sp : ∀ s x, s < 2 ^ e → x < e → (r (s ||| 2 ^ x) = r s ↔ Sp f rows e C s (cz C x)) := fun s x hs hx => by
    by_cases g : s.testBit x = true
    · rw [or_bit_same g]
      exact ⟨fun _ => Sp.gen hx g, fun _ => rfl⟩
    · obtain ⟨a1, a2⟩ := h.2 s x hs hx g
      exact ⟨fun z => Classical.byContradiction fun q => by have := a2 q; omega, a1⟩
  refine ⟨he, h.1, fun s x hs hx => ?_, fun s x y hs hx hy h1 h2 => ?_⟩
  · by_cases g : s.testBit x = true
    · rw [or_bit_same g]; omega
    · obtain ⟨a1, a2⟩ := h.2 s x hs hx g
      by_cases q : Sp f rows e C s (cz C x)
      · rw [a1 q]; omega
      · rw [a2 q]; omega
  · have q := ((sp s y hs hy).mp h2).mono (s' := s ||| 2 ^ x) (fun i hi => by rw [Nat.testBit_or, hi]; rfl)
    rw [(sp _ y (or_lt hs (bit_lt hx)) hy).mpr q, h1]
theorem SpR.pick (hf : f = 2 ∨ f = 3 ∨ f = 5) {r : Nat → Nat} (h0 : r 0 = 0) (h : ∀ T, T < 2 ^ e → T ≠ 0 → ∃ l, l < e ∧ T.testBit l = true ∧ (Sp f rows e C (sdf T (2 ^ l)) (cz C l) → r T = r (sdf T (2 ^ l))) ∧ (¬ Sp f rows e C (sdf T (2 ^ l)) (cz C l) → r T = r (sdf T (2 ^ l)) + 1)) : SpR f rows e C r := by
  have key : ∀ T, T < 2 ^ e → ∀ x, x < e → T.testBit x = true → (Sp f rows e C (sdf T (2 ^ x)) (cz C x) → r T = r (sdf T (2 ^ x))) ∧ (¬ Sp f rows e C (sdf T (2 ^ x)) (cz C x) → r T = r (sdf T (2 ^ x)) + 1) := by
    intro T
    induction T using Nat.strongRecOn with
    | _ T ih =>
      intro hT x hx hb
      obtain ⟨l, hl, hlb, l1, l2⟩ := h T hT (fun z => by rw [z, Nat.zero_testBit] at hb; cases hb)
      by_cases g : x = l
      · subst g; exact ⟨l1, l2⟩
      · have bl : (sdf T (2 ^ x)).testBit l = true := by rw [sdf_bit, hlb, p2_testBit, decide_eq_false g]; rfl
        have bx : (sdf T (2 ^ l)).testBit x = true := by rw [sdf_bit, hb, p2_testBit, decide_eq_false (fun z => g z.symm)]; rfl
        have hc : sdf (sdf T (2 ^ l)) (2 ^ x) = sdf (sdf T (2 ^ x)) (2 ^ l) := by
          apply Nat.eq_of_testBit_eq
          intro i
          rw [sdf_bit, sdf_bit, sdf_bit, sdf_bit]
          cases T.testBit i <;> cases (2 ^ l).testBit i <;> cases (2 ^ x).testBit i <;> rfl
        obtain ⟨a1, a2⟩ := ih _ (rem_lt hlb) (sdf_lt hT) x hx bx
        obtain ⟨b1, b2⟩ := ih _ (rem_lt hb) (sdf_lt hT) l hl bl
        have o1 : sdf (sdf T (2 ^ x)) (2 ^ l) ||| 2 ^ l = sdf T (2 ^ x) := rem_or bl
        have o2 : sdf (sdf T (2 ^ x)) (2 ^ l) ||| 2 ^ x = sdf T (2 ^ l) := by rw [← hc]; exact rem_or bx
        rw [hc] at a1 a2
        have m1 : ∀ v, Sp f rows e C (sdf (sdf T (2 ^ x)) (2 ^ l)) v → Sp f rows e C (sdf T (2 ^ x)) v := fun v q => q.mono (sbs_rem _ _)
        have m2 : ∀ v, Sp f rows e C (sdf (sdf T (2 ^ x)) (2 ^ l)) v → Sp f rows e C (sdf T (2 ^ l)) v := fun v q => q.mono (by rw [← hc]; exact sbs_rem _ _)
        by_cases px : Sp f rows e C (sdf (sdf T (2 ^ x)) (2 ^ l)) (cz C x)
        · have px2 := m1 _ px
          refine ⟨fun _ => ?_, fun q => absurd px2 q⟩
          by_cases pl : Sp f rows e C (sdf (sdf T (2 ^ x)) (2 ^ l)) (cz C l)
          · have := l1 (m2 _ pl); have := a1 px; have := b1 pl; omega
          · have pl2 : ¬ Sp f rows e C (sdf T (2 ^ l)) (cz C l) := fun z => pl (by rw [← o2] at z; exact px.trans hx z)
            have := l2 pl2; have := a1 px; have := b2 pl; omega
        · by_cases pl : Sp f rows e C (sdf (sdf T (2 ^ x)) (2 ^ l)) (cz C l)
          · have px2 : ¬ Sp f rows e C (sdf T (2 ^ x)) (cz C x) := fun z => px (by rw [← o1] at z; exact pl.trans hl z)
            refine ⟨fun q => absurd q px2, fun _ => ?_⟩
            have := l1 (m2 _ pl); have := a2 px; have := b1 pl; omega
          · have := a2 px
            have := b2 pl
            constructor
            · intro q
              rw [← o1] at q
              have q2 := q.swap hf hl hx px
              rw [o2] at q2
              have := l1 q2
              omega
            · intro q
              have q2 : ¬ Sp f rows e C (sdf T (2 ^ l)) (cz C l) := fun z => q (by
                rw [← o2] at z
                have z2 := z.swap hf hx hl pl
                rw [o1] at z2
                exact z2)
              have := l2 q2
              omega
  refine ⟨h0, fun s x hs hx hn => ?_⟩
  have q := key (s ||| 2 ^ x) (or_lt hs (bit_lt hx)) x hx (by rw [Nat.testBit_or, p2_testBit, decide_eq_true rfl, Bool.or_true])
  have e1 : sdf (s ||| 2 ^ x) (2 ^ x) = s := by
    apply Nat.eq_of_testBit_eq
    intro i
    rw [sdf_bit, Nat.testBit_or, p2_testBit]
    by_cases g : x = i
    · subst g; rw [Bool.not_eq_true] at hn; rw [hn, decide_eq_true rfl]; rfl
    · rw [decide_eq_false g]; cases s.testBit i <;> rfl
  rw [e1] at q
  exact q
end Aj
