/-! The mathematics: a graph's ranks: forests, and columns over the field of 2 -/
section Am
variable {e f rows : Nat} {C : Nat → Nat → Nat}
theorem top_bit {T : Nat} : ∀ n, T < 2 ^ n → T ≠ 0 → ∃ l, l < n ∧ T.testBit l = true ∧ T < 2 ^ (l + 1) := by
  intro n
  induction n with
  | zero => intro h h0; rw [Nat.pow_zero] at h; omega
  | succ n ih =>
    intro h h0
    by_cases g : T.testBit n = true
    · exact ⟨n, by omega, g, h⟩
    · obtain ⟨l, h1, h2⟩ := ih ((lt_bit h).mpr g) h0
      exact ⟨l, by omega, h2⟩
theorem mod_top {T l : Nat} (h : T.testBit l = true) (h2 : T < 2 ^ (l + 1)) : sdf T (2 ^ l) = T % 2 ^ l := by
  apply Nat.eq_of_testBit_eq
  intro i
  rw [sdf_bit, p2_testBit, Nat.testBit_mod_two_pow]
  by_cases g : l = i
  · subst g; rw [decide_eq_true rfl, decide_eq_false (Nat.lt_irrefl l)]; cases T.testBit l <;> rfl
  · rw [decide_eq_false g]
    by_cases g2 : i < l
    · rw [decide_eq_true g2]; cases T.testBit i <;> rfl
    · rw [decide_eq_false g2, Nat.testBit_lt_two_pow (Nat.lt_of_lt_of_le h2 (Nat.pow_le_pow_right (by decide) (by omega)))]; rfl
theorem mod_mod2 {s k n : Nat} (h : k ≤ n) : s % 2 ^ n % 2 ^ k = s % 2 ^ k := by
  apply Nat.eq_of_testBit_eq
  intro i
  rw [Nat.testBit_mod_two_pow, Nat.testBit_mod_two_pow, Nat.testBit_mod_two_pow]
  by_cases g : i < k
  · rw [decide_eq_true g, decide_eq_true (show i < n by omega)]; rfl
  · rw [decide_eq_false g]; rfl
theorem SpR.top (hf : f = 2 ∨ f = 3 ∨ f = 5) {g : Nat → Nat → Nat} (h0 : ∀ s, g s 0 = 0) (h1 : ∀ s k, k < e → ((s.testBit k = true ∧ ¬ Sp f rows e C (s % 2 ^ k) (cz C k)) → g s (k + 1) = g s k + 1) ∧ (¬ (s.testBit k = true ∧ ¬ Sp f rows e C (s % 2 ^ k) (cz C k)) → g s (k + 1) = g s k)) : SpR f rows e C (fun s => g s e) := by
  have c1 : ∀ s n, n ≤ e → ∀ k, k ≤ n → g (s % 2 ^ n) k = g s k := by
    intro s n hn k
    induction k with
    | zero => intro _; rw [h0, h0]
    | succ k ih =>
      intro hk
      have i := ih (by omega)
      obtain ⟨a1, a2⟩ := h1 s k (by omega)
      obtain ⟨b1, b2⟩ := h1 (s % 2 ^ n) k (by omega)
      rw [mod_mod2 (by omega), Nat.testBit_mod_two_pow, decide_eq_true (show k < n by omega), Bool.true_and] at b1 b2
      by_cases z : s.testBit k = true ∧ ¬ Sp f rows e C (s % 2 ^ k) (cz C k)
      · rw [a1 z, b1 z, i]
      · rw [a2 z, b2 z, i]
  have c2 : ∀ s n, n ≤ e → ∀ d, n + d ≤ e → g (s % 2 ^ n) (n + d) = g s n := by
    intro s n hn d
    induction d with
    | zero => intro _; exact c1 s n hn n (Nat.le_refl n)
    | succ d ih =>
      intro hd
      rw [← ih (by omega)]
      refine (h1 (s % 2 ^ n) (n + d) (by omega)).2 (fun z => ?_)
      have z1 := z.1
      rw [Nat.testBit_mod_two_pow, decide_eq_false (show ¬ n + d < n by omega)] at z1
      cases z1
  have c3 : ∀ s n, n ≤ e → g (s % 2 ^ n) e = g s n := fun s n hn => by
    have q := c2 s n hn (e - n) (by omega)
    rw [show n + (e - n) = e by omega] at q
    exact q
  refine SpR.pick hf (?_) (fun T hT hT0 => ?_)
  · show g 0 e = 0
    have q := c3 0 0 (by omega)
    rw [Nat.zero_mod] at q
    rw [q, h0]
  · obtain ⟨l, l1, l2, l3⟩ := top_bit e hT hT0
    refine ⟨l, l1, l2, ?_⟩
    rw [mod_top l2 l3]
    show (_ → g T e = g (T % 2 ^ l) e) ∧ (_ → g T e = g (T % 2 ^ l) e + 1)
    have q1 := c3 T (l + 1) (by omega)
    rw [Nat.mod_eq_of_lt l3] at q1
    rw [q1, c3 T l (by omega)]
    obtain ⟨a1, a2⟩ := h1 T l l1
    exact ⟨fun z => a2 (fun y => y.2 z), fun z => a1 ⟨l2, z⟩⟩
def uv (x : Nat) : Nat → Int := fun r => if r = x then 1 else 0
theorem colG_uv {w : Nat → Nat} {k : Nat} (hk : k < e) (r : Nat) : (2 : Int) ∣ ((colG w e k r : Nat) : Int) - (uv (w (2 * k)) r - uv (w (2 * k + 1)) r) := by
  unfold colG uv
  by_cases h1 : w (2 * k) = w (2 * k + 1)
  · rw [if_neg (fun z => z.2.1 h1), h1]
    exact ⟨0, by rw [Int.sub_self]; rfl⟩
  · by_cases h2 : r = w (2 * k)
    · rw [if_pos ⟨hk, h1, Or.inl h2⟩, if_pos h2, if_neg (fun z => h1 (h2.symm.trans z))]
      exact ⟨0, rfl⟩
    · by_cases h3 : r = w (2 * k + 1)
      · rw [if_pos ⟨hk, h1, Or.inr h3⟩, if_neg h2, if_pos h3]
        exact ⟨1, rfl⟩
      · rw [if_neg (fun z => z.2.2.elim h2 h3), if_neg h2, if_neg h3]
        exact ⟨0, rfl⟩
/-- the sum over the vertices with one end -/
def wt (rt : Nat → Nat) (q : Nat) (v : Nat → Int) : Int := sumI (fun r => if rt r = q then v r else 0) 10
theorem wt_lin {rt : Nat → Nat} {q : Nat} (t : Int) (v w : Nat → Int) : wt rt q (fun r => v r + t * w r) = wt rt q v + t * wt rt q w := by
  unfold wt
  rw [← sumI_mul, ← sumI_add]
  exact sI_congr 10 (fun r _ => by
    by_cases g : rt r = q
    · rw [if_pos g, if_pos g, if_pos g]
    · rw [if_neg g, if_neg g, if_neg g]; omega)
theorem wt_uv {rt : Nat → Nat} {q x : Nat} (hx : x < 10) : wt rt q (uv x) = if rt x = q then 1 else 0 := by
  unfold wt uv
  rw [sumI_one hx (fun r _ h => by rw [if_neg h]; split <;> rfl), if_pos rfl]
theorem wt_dv {rt : Nat → Nat} {q : Nat} {v : Nat → Int} {m : Int} (h : ∀ r, r < 10 → m ∣ v r) : m ∣ wt rt q v := by
  unfold wt
  exact sumI_dvd 10 (fun r hr => by
    by_cases g : rt r = q
    · rw [if_pos g]; exact h r hr
    · rw [if_neg g]; exact Int.dvd_zero _)
theorem wt_sum {rt : Nat → Nat} {q : Nat} {c : Nat → Int} {C : Nat → Nat → Nat} : ∀ n, wt rt q (fun r => sumI (fun i => c i * ((C i r : Nat) : Int)) n) = sumI (fun i => c i * wt rt q (cz C i)) n := by
  intro n
  induction n with
  | zero => exact sumI_zero 10 (fun r _ => by show (if rt r = q then (0 : Int) else 0) = 0; split <;> rfl)
  | succ n ih =>
    show wt rt q (fun r => sumI (fun i => c i * ((C i r : Nat) : Int)) n + c n * cz C n r) = sumI (fun i => c i * wt rt q (cz C i)) n + c n * wt rt q (cz C n)
    rw [wt_lin, ih]
theorem wt_col {w rt : Nat → Nat} {q k : Nat} (hk : k < e) (h1 : w (2 * k) < 10) (h2 : w (2 * k + 1) < 10) : (2 : Int) ∣ wt rt q (cz (colG w e) k) - ((if rt (w (2 * k)) = q then 1 else 0) - (if rt (w (2 * k + 1)) = q then 1 else 0)) := by
  have a := wt_dv (rt := rt) (q := q) (m := 2) (v := fun r => cz (colG w e) k r + (-1) * (uv (w (2 * k)) r + (-1) * uv (w (2 * k + 1)) r)) (fun r _ => by
    have q := colG_uv (w := w) hk r
    have e1 : cz (colG w e) k r + (-1) * (uv (w (2 * k)) r + (-1) * uv (w (2 * k + 1)) r) = ((colG w e k r : Nat) : Int) - (uv (w (2 * k)) r - uv (w (2 * k + 1)) r) := by
      show ((colG w e k r : Nat) : Int) + _ = _
      omega
    show (2 : Int) ∣ cz (colG w e) k r + (-1) * (uv (w (2 * k)) r + (-1) * uv (w (2 * k + 1)) r)
    rw [e1]
    exact q)
  rw [wt_lin, wt_lin (-1) (uv (w (2 * k))), wt_uv h1, wt_uv h2] at a
  have e1 : wt rt q (cz (colG w e) k) + (-1) * ((if rt (w (2 * k)) = q then 1 else 0) + (-1) * (if rt (w (2 * k + 1)) = q then 1 else 0)) = wt rt q (cz (colG w e) k) - ((if rt (w (2 * k)) = q then 1 else 0) - (if rt (w (2 * k + 1)) = q then 1 else 0)) := by omega
  rw [e1] at a
  exact a
theorem grF_ok {w : Nat → Nat} {s : Nat} (hw : ∀ j, j < 2 * e → w j < 10) : ∀ k, k ≤ e → (∀ x, x < 10 → Sp 2 10 e (colG w e) (s % 2 ^ k) (fun r => uv x r - uv ((grS w s k).1 x) r)) ∧ ∀ i, i < k → s.testBit i = true → (grS w s k).1 (w (2 * i)) = (grS w s k).1 (w (2 * i + 1)) := by
  intro k
  induction k with
  | zero =>
    intro _
    refine ⟨fun x _ => Sp.zero (fun r _ => ?_), fun i hi => absurd hi (Nat.not_lt_zero i)⟩
    show _ ∣ uv x r - uv x r
    rw [Int.sub_self]; exact Int.dvd_zero _
  | succ k ih =>
    intro hk
    obtain ⟨i1, i2⟩ := ih (by omega)
    have ha := hw (2 * k) (by omega)
    have hb := hw (2 * k + 1) (by omega)
    have up1 : ∀ v, Sp 2 10 e (colG w e) (s % 2 ^ k) v → Sp 2 10 e (colG w e) (s % 2 ^ (k + 1)) v := fun v q => q.mono (fun i hi => by
      rw [Nat.testBit_mod_two_pow, Bool.and_eq_true, decide_eq_true_eq] at hi ⊢
      exact ⟨by omega, hi.2⟩)
    unfold grS
    by_cases g : s.testBit k = true ∧ (grS w s k).1 (w (2 * k)) ≠ (grS w s k).1 (w (2 * k + 1))
    · rw [if_pos g]
      have gk : Sp 2 10 e (colG w e) (s % 2 ^ (k + 1)) (fun r => uv (w (2 * k)) r - uv (w (2 * k + 1)) r) := (Sp.gen (show k < e by omega) (by rw [Nat.testBit_mod_two_pow, decide_eq_true (Nat.lt_succ_self k), g.1]; rfl)).congr (fun r _ => by
        have q := Int.dvd_neg.mpr (colG_uv (w := w) (show k < e by omega) r)
        rw [Int.neg_sub] at q
        exact q)
      refine ⟨fun x hx => ?_, fun i hi hb2 => ?_⟩
      · show Sp 2 10 e (colG w e) (s % 2 ^ (k + 1)) (fun r => uv x r - uv (if (grS w s k).1 x = (grS w s k).1 (w (2 * k)) then (grS w s k).1 (w (2 * k + 1)) else (grS w s k).1 x) r)
        by_cases gx : (grS w s k).1 x = (grS w s k).1 (w (2 * k))
        · rw [if_pos gx]
          have q := (((up1 _ (i1 x hx)).comb (-1) (up1 _ (i1 _ ha))).comb 1 gk).comb 1 (up1 _ (i1 _ hb))
          refine q.congr (fun r _ => ?_)
          rw [gx]
          refine ⟨0, ?_⟩
          omega
        · rw [if_neg gx]; exact up1 _ (i1 x hx)
      · show (if (grS w s k).1 (w (2 * i)) = (grS w s k).1 (w (2 * k)) then (grS w s k).1 (w (2 * k + 1)) else (grS w s k).1 (w (2 * i))) = (if (grS w s k).1 (w (2 * i + 1)) = (grS w s k).1 (w (2 * k)) then (grS w s k).1 (w (2 * k + 1)) else (grS w s k).1 (w (2 * i + 1)))
        by_cases gi : i = k
        · subst gi
          rw [if_pos rfl, if_neg (fun z => g.2 z.symm)]
        · rw [i2 i (by omega) hb2]
    · rw [if_neg g]
      refine ⟨fun x hx => up1 _ (i1 x hx), fun i hi hb2 => ?_⟩
      by_cases gi : i = k
      · subst gi
        exact Classical.byContradiction fun z => g ⟨hb2, z⟩
      · exact i2 i (by omega) hb2
theorem gr_spr {w : Nat → Nat} (hw : ∀ j, j < 2 * e → w j < 10) : SpR 2 10 e (colG w e) (fun s => graM w e s) := by
  refine SpR.top (Or.inl rfl) (g := fun s k => (grS w s k).2) (fun s => rfl) (fun s k hk => ?_)
  obtain ⟨i1, i2⟩ := grF_ok (s := s) hw k (by omega)
  have ha := hw (2 * k) (by omega)
  have hb := hw (2 * k + 1) (by omega)
  have iff : Sp 2 10 e (colG w e) (s % 2 ^ k) (cz (colG w e) k) ↔ (grS w s k).1 (w (2 * k)) = (grS w s k).1 (w (2 * k + 1)) := by
    constructor
    · intro z
      apply Classical.byContradiction
      intro hne
      obtain ⟨c, c1, c2⟩ := z
      have q := wt_dv (rt := (grS w s k).1) (q := (grS w s k).1 (w (2 * k))) (m := ((2 : Nat) : Int)) (v := fun r => cz (colG w e) k r + (-1) * sumI (fun i => c i * ((colG w e i r : Nat) : Int)) e) (fun r hr => by
        have e1 : cz (colG w e) k r + (-1) * sumI (fun i => c i * ((colG w e i r : Nat) : Int)) e = cz (colG w e) k r - sumI (fun i => c i * ((colG w e i r : Nat) : Int)) e := by omega
        show _ ∣ cz (colG w e) k r + (-1) * sumI (fun i => c i * ((colG w e i r : Nat) : Int)) e
        rw [e1]
        exact c2 r hr)
      rw [wt_lin, wt_sum] at q
      have q2 : (2 : Int) ∣ sumI (fun i => c i * wt (grS w s k).1 ((grS w s k).1 (w (2 * k))) (cz (colG w e) i)) e := sumI_dvd e (fun i hi => by
        by_cases gi : (s % 2 ^ k).testBit i = true
        · have gi2 := gi
          rw [Nat.testBit_mod_two_pow, Bool.and_eq_true, decide_eq_true_eq] at gi2
          have z := wt_col (rt := (grS w s k).1) (q := (grS w s k).1 (w (2 * k))) hi (hw (2 * i) (by omega)) (hw (2 * i + 1) (by omega))
          rw [i2 i gi2.1 gi2.2, Int.sub_self, Int.sub_zero] at z
          exact Int.dvd_mul_of_dvd_right z
        · rw [c1 i hi gi, Int.zero_mul]; exact Int.dvd_zero _)
      have q3 := wt_col (rt := (grS w s k).1) (q := (grS w s k).1 (w (2 * k))) hk ha hb
      rw [if_pos rfl, if_neg (fun z => hne z.symm)] at q3
      have q4 : ((2 : Nat) : Int) = 2 := rfl
      rw [q4] at q
      omega
    · intro z
      have q := (i1 _ ha).comb (-1) (i1 _ hb)
      refine q.congr (fun r _ => ?_)
      rw [← z]
      have q2 := colG_uv (w := w) hk r
      have e1 : cz (colG w e) k r - (uv (w (2 * k)) r - uv ((grS w s k).1 (w (2 * k))) r + (-1) * (uv (w (2 * k + 1)) r - uv ((grS w s k).1 (w (2 * k))) r)) = ((colG w e k r : Nat) : Int) - (uv (w (2 * k)) r - uv (w (2 * k + 1)) r) := by
        show ((colG w e k r : Nat) : Int) - _ = _
        omega
      rw [e1]
      exact q2
  have st : (grS w s (k + 1)).2 = if s.testBit k = true ∧ (grS w s k).1 (w (2 * k)) ≠ (grS w s k).1 (w (2 * k + 1)) then (grS w s k).2 + 1 else (grS w s k).2 := by
    show (if _ then _ else _ : (Nat → Nat) × Nat).2 = _
    by_cases g : s.testBit k = true ∧ (grS w s k).1 (w (2 * k)) ≠ (grS w s k).1 (w (2 * k + 1))
    · rw [if_pos g, if_pos g]
    · rw [if_neg g, if_neg g]
  show ((s.testBit k = true ∧ _) → (grS w s (k + 1)).2 = (grS w s k).2 + 1) ∧ (_ → (grS w s (k + 1)).2 = (grS w s k).2)
  rw [st]
  exact ⟨fun z => if_pos ⟨z.1, fun y => z.2 (iff.mpr y)⟩, fun z => if_neg (fun y => z ⟨y.1, fun x => y.2 (iff.mp x)⟩)⟩
theorem colG_lt {w : Nat → Nat} : ∀ c r, r < 10 → colG w e c r < 2 := fun c r _ => by
  unfold colG
  split <;> omega
theorem graph_same {w : Nat → Nat} (he : e ≤ 10) (hw : ∀ j, j < 2 * e → w j < 10) {s : Nat} (hs : s < 2 ^ e) : rkE 2 10 (colG w e) s = graM w e s := (rkE_spr he (Or.inl rfl) colG_lt).same (gr_spr hw) hs
theorem graph_mtr {w : Nat → Nat} (he : e ≤ 10) : Mtr e (rkE 2 10 (colG w e)) := SpR.mtr he (rkE_spr he (Or.inl rfl) colG_lt)
end Am
