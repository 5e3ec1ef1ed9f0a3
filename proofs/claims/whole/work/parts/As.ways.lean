/-! The mathematics: drawings over 3: signs of rows and columns; ways through known entries -/
section As
variable {e f bs rows : Nat} {rk : Nat → Nat}
theorem Sp.map {C C' : Nat → Nat → Nat} {s s' : Nat} {v : Nat → Int} (d : Nat → Int) (h : Sp f rows e C s v) (hg : ∀ i, i < e → s.testBit i = true → Sp f rows e C' s' (fun r => d r * cz C i r)) : Sp f rows e C' s' (fun r => d r * v r) := by
  obtain ⟨c, c1, c2⟩ := h
  have key : ∀ n, n ≤ e → Sp f rows e C' s' (fun r => d r * sumI (fun i => c i * ((C i r : Nat) : Int)) n) := by
    intro n
    induction n with
    | zero => intro _; exact Sp.zero (fun r _ => by show (f : Int) ∣ d r * 0; rw [Int.mul_zero]; exact Int.dvd_zero _)
    | succ n ih =>
      intro hn
      by_cases g : s.testBit n = true
      · refine ((ih (by omega)).comb (c n) (hg n (by omega) g)).congr (fun r _ => ?_)
        show (f : Int) ∣ d r * (sumI (fun i => c i * ((C i r : Nat) : Int)) n + c n * ((C n r : Nat) : Int)) - (d r * sumI (fun i => c i * ((C i r : Nat) : Int)) n + c n * (d r * ((C n r : Nat) : Int)))
        rw [Int.mul_add, show d r * (c n * ((C n r : Nat) : Int)) = c n * (d r * ((C n r : Nat) : Int)) by rw [← Int.mul_assoc, ← Int.mul_assoc, Int.mul_comm (d r)], Int.sub_self]
        exact Int.dvd_zero _
      · refine (ih (by omega)).congr (fun r _ => ?_)
        show (f : Int) ∣ d r * (sumI (fun i => c i * ((C i r : Nat) : Int)) n + c n * ((C n r : Nat) : Int)) - d r * sumI (fun i => c i * ((C i r : Nat) : Int)) n
        rw [c1 n (by omega) g, Int.zero_mul, Int.add_zero, Int.sub_self]
        exact Int.dvd_zero _
  refine (key e (Nat.le_refl e)).congr (fun r hr => ?_)
  show (f : Int) ∣ d r * v r - d r * sumI (fun i => c i * ((C i r : Nat) : Int)) e
  rw [← Int.mul_sub]
  exact Int.dvd_mul_of_dvd_right (c2 r hr)
def sg (b : Bool) : Int := if b = true then -1 else 1
theorem sg_sq (b : Bool) : sg b * sg b = 1 := by cases b <;> rfl
/-- signs of columns and rows changed -/
def flG (m d : Nat → Bool) (G : Nat → Nat → Nat) (c r : Nat) : Nat := if xor (m c) (d r) = true then 2 * G c r % 3 else G c r
theorem flG_lt {m d : Nat → Bool} {G : Nat → Nat → Nat} (h : ∀ c r, r < rows → G c r < 3) : ∀ c r, r < rows → flG m d G c r < 3 := fun c r hr => by
  have := h c r hr
  unfold flG
  split <;> omega
theorem flG_dv {m d : Nat → Bool} {G : Nat → Nat → Nat} (c r : Nat) : (3 : Int) ∣ ((flG m d G c r : Nat) : Int) - sg (m c) * (sg (d r) * ((G c r : Nat) : Int)) := by
  unfold flG sg
  cases m c <;> cases d r <;> simp <;> omega
theorem fl_spr {m d : Nat → Bool} {G : Nat → Nat → Nat} {r : Nat → Nat} (h : SpR 3 rows e G r) : SpR 3 rows e (flG m d G) r := by
  have f1 : ∀ i k, (((3 : Nat) : Int)) ∣ sg (d k) * ((flG m d G i k : Nat) : Int) - sg (m i) * ((G i k : Nat) : Int) := fun i k => by
    have q := Int.dvd_mul_of_dvd_right (a := 3) (c := ((flG m d G i k : Nat) : Int) - sg (m i) * (sg (d k) * ((G i k : Nat) : Int))) (b := sg (d k)) (flG_dv (m := m) (d := d) (G := G) i k)
    have e1 : sg (d k) * (((flG m d G i k : Nat) : Int) - sg (m i) * (sg (d k) * ((G i k : Nat) : Int))) = sg (d k) * ((flG m d G i k : Nat) : Int) - sg (m i) * ((G i k : Nat) : Int) := by
      have := sg_sq (d k)
      grind
    rw [e1] at q
    exact q
  have f2 : ∀ i k, (((3 : Nat) : Int)) ∣ sg (d k) * ((G i k : Nat) : Int) - sg (m i) * ((flG m d G i k : Nat) : Int) := fun i k => by
    have q := Int.dvd_mul_of_dvd_right (a := 3) (c := ((flG m d G i k : Nat) : Int) - sg (m i) * (sg (d k) * ((G i k : Nat) : Int))) (b := - sg (m i)) (flG_dv (m := m) (d := d) (G := G) i k)
    have e1 : - sg (m i) * (((flG m d G i k : Nat) : Int) - sg (m i) * (sg (d k) * ((G i k : Nat) : Int))) = sg (d k) * ((G i k : Nat) : Int) - sg (m i) * ((flG m d G i k : Nat) : Int) := by
      have := sg_sq (m i)
      grind
    rw [e1] at q
    exact q
  have z0 : ∀ (C : Nat → Nat → Nat) s, Sp 3 rows e C s (fun _ => 0) := fun C s => Sp.zero (fun _ _ => Int.dvd_zero _)
  have one : ∀ (C C' : Nat → Nat → Nat) (mm : Bool) s x, (∀ k, (((3 : Nat) : Int)) ∣ sg (d k) * ((C x k : Nat) : Int) - sg mm * ((C' x k : Nat) : Int)) → Sp 3 rows e C' s (fun k => sg (d k) * cz C x k) → Sp 3 rows e C' s (cz C' x) := fun C C' mm s x hh q => by
    refine ((z0 C' s).comb (sg mm) q).congr (fun k _ => ?_)
    show (((3 : Nat) : Int)) ∣ ((C' x k : Nat) : Int) - (0 + sg mm * (sg (d k) * ((C x k : Nat) : Int)))
    have q2 := Int.dvd_mul_of_dvd_right (b := - sg mm) (hh k)
    have e1 : - sg mm * (sg (d k) * ((C x k : Nat) : Int) - sg mm * ((C' x k : Nat) : Int)) = ((C' x k : Nat) : Int) - (0 + sg mm * (sg (d k) * ((C x k : Nat) : Int))) := by
      have := sg_sq mm
      grind
    rw [e1] at q2
    exact q2
  have gg : ∀ (C C' : Nat → Nat → Nat) s, (∀ i k, (((3 : Nat) : Int)) ∣ sg (d k) * ((C i k : Nat) : Int) - sg (m i) * ((C' i k : Nat) : Int)) → ∀ v, Sp 3 rows e C s v → Sp 3 rows e C' s (fun k => sg (d k) * v k) := fun C C' s hh v q => q.map (fun k => sg (d k)) (fun i hi hb => by
    refine ((z0 C' s).comb (sg (m i)) (Sp.gen hi hb)).congr (fun k _ => ?_)
    show (((3 : Nat) : Int)) ∣ sg (d k) * ((C i k : Nat) : Int) - (0 + sg (m i) * ((C' i k : Nat) : Int))
    rw [Int.zero_add]
    exact hh i k)
  have iff : ∀ s x, Sp 3 rows e (flG m d G) s (cz (flG m d G) x) ↔ Sp 3 rows e G s (cz G x) := fun s x =>
    ⟨fun z => one (flG m d G) G (m x) s x (f1 x) (gg (flG m d G) G s f1 _ z), fun z => one G (flG m d G) (m x) s x (f2 x) (gg G (flG m d G) s f2 _ z)⟩
  refine ⟨h.1, fun s x hs hx hn => ?_⟩
  obtain ⟨a1, a2⟩ := h.2 s x hs hx hn
  exact ⟨fun z => a1 ((iff s x).mp z), fun z => a2 (fun y => z ((iff s x).mpr y))⟩
/-- the sign of a row is that of its element -/
def rwX (e bs X r : Nat) : Bool := anyB (fun b => (bs.testBit b && (ixB bs b == r)) && X.testBit b) e
theorem rwX_at {X b : Nat} (hb : b < e) (hbb : bs.testBit b = true) : rwX e bs X (ixB bs b) = X.testBit b := by
  unfold rwX
  rw [Bool.eq_iff_iff, anyB_iff]
  constructor
  · rintro ⟨k, k1, k2⟩
    rw [Bool.and_eq_true, Bool.and_eq_true, beq_iff_eq] at k2
    rw [← ix_inj k2.1.1 hbb k2.1.2]
    exact k2.2
  · intro h
    exact ⟨b, hb, by rw [Bool.and_eq_true, Bool.and_eq_true, beq_iff_eq]; exact ⟨⟨hbb, rfl⟩, h⟩⟩
theorem flip1 (hM : Mtr e rk) (hB : BsP rk e bs) {wy : Nat → Nat} (h1 : ExtW rk e 3 bs 0 wy) (h2 : ∀ wy2 : Nat → Nat, ExtW rk e 3 bs 0 wy2 → LexLe e wy wy2) {X el row : Nat} (hel : el < e) (heb : ¬ bs.testBit el = true) (hrow : row < e) (hrb : bs.testBit row = true) (hX : ∀ c b, c < e → b < e → ¬ bs.testBit c = true → bs.testBit b = true → (c < el ∨ (c = el ∧ b < row)) → mW 3 (rk (2 ^ e - 1)) bs wy e c (ixB bs b) ≠ 0 → (X.testBit c = X.testBit b)) (x1 : X.testBit el = true) (x2 : X.testBit row = false) : mW 3 (rk (2 ^ e - 1)) bs wy e el (ixB bs row) ≠ 2 := by
  intro hg
  have he := hM.1
  have hf3 : (3 : Nat) = 2 ∨ (3 : Nat) = 3 ∨ (3 : Nat) = 5 := by omega
  have hG : UM 3 (rk (2 ^ e - 1)) e bs (mW 3 (rk (2 ^ e - 1)) bs wy e) := mW_UM he hB.1 (by omega)
  obtain ⟨hw, hR⟩ := (ext_rep hM (Or.inr rfl) hB.1).mp h1
  have gl := flG_lt (m := fun c => X.testBit c) (d := rwX e bs X) hG.1
  have at1 : ∀ c b, b < e → bs.testBit b = true → flG (fun c => X.testBit c) (rwX e bs X) (mW 3 (rk (2 ^ e - 1)) bs wy e) c (ixB bs b) = if xor (X.testBit c) (X.testBit b) = true then 2 * mW 3 (rk (2 ^ e - 1)) bs wy e c (ixB bs b) % 3 else mW 3 (rk (2 ^ e - 1)) bs wy e c (ixB bs b) := fun c b hb hbb => by
    unfold flG
    rw [rwX_at hb hbb]
  have rowb : ∀ r, r < rk (2 ^ e - 1) → ∃ b, b < e ∧ bs.testBit b = true ∧ ixB bs b = r := fun r hr => ix_sur (bs := bs) e (by rw [hB.ix he]; exact hr)
  have ub : ∀ c, c < e → bs.testBit c = true → ∀ r, r < rk (2 ^ e - 1) → flG (fun c => X.testBit c) (rwX e bs X) (mW 3 (rk (2 ^ e - 1)) bs wy e) c r = mW 3 (rk (2 ^ e - 1)) bs wy e c r := fun c hc hcb r hr => by
    obtain ⟨b, b1, b2, b3⟩ := rowb r hr
    subst b3
    rw [at1 c b b1 b2]
    by_cases g : c = b
    · subst g
      rw [Bool.xor_self, if_neg Bool.false_ne_true]
    · rw [hG.2 c hc hcb _ hr, if_neg (fun z => g (ix_inj b2 hcb z).symm)]
      split <;> rfl
  have hU : UM 3 (rk (2 ^ e - 1)) e bs (flG (fun c => X.testBit c) (rwX e bs X) (mW 3 (rk (2 ^ e - 1)) bs wy e)) := ⟨gl, fun b hb hbb r hr => by rw [ub b hb hbb r hr]; exact hG.2 b hb hbb r hr⟩
  generalize hF : flG (fun c => X.testBit c) (rwX e bs X) (mW 3 (rk (2 ^ e - 1)) bs wy e) = F at gl at1 ub hU
  have hFR : ∀ s, s < 2 ^ e → rkE 3 (rk (2 ^ e - 1)) F s = rk s := fun s hs => by
    rw [← hR s hs]
    exact (rkE_spr he hf3 gl).same (by rw [← hF]; exact fl_spr (rkE_spr he hf3 hG.1)) hs
  have ext2 : ExtW rk e 3 bs 0 (wyG 3 (rk (2 ^ e - 1)) bs F) := (ext_rep hM (Or.inr rfl) hB.1).mpr ⟨fun k _ => wyG_lt (by omega) hU k, fun s hs => by
    rw [← hFR s hs]
    exact rkE_congr he hf3 (mW_UM he hB.1 (by omega)).1 hU.1 (fun c hc r hr => mW_wyG he hB.1 (by omega) hU hc hr) hs⟩
  have dig : ∀ c, c < e → ¬ bs.testBit c = true → ∀ r, r < rk (2 ^ e - 1) → wyG 3 (rk (2 ^ e - 1)) bs F c / 3 ^ (rk (2 ^ e - 1) - 1 - r) % 3 = F c r ∧ wy c / 3 ^ (rk (2 ^ e - 1) - 1 - r) % 3 = mW 3 (rk (2 ^ e - 1)) bs wy e c r := fun c hc hcb r hr => by
    have q := mW_wyG he hB.1 (by omega) hU hc hr
    unfold mW at q ⊢
    rw [if_pos hc] at q ⊢
    unfold cV at q ⊢
    rw [if_neg hcb] at q ⊢
    exact ⟨q, rfl⟩
  have lts : ∀ c, c < e → ¬ bs.testBit c = true → wy c < 3 ^ rk (2 ^ e - 1) ∧ wyG 3 (rk (2 ^ e - 1)) bs F c < 3 ^ rk (2 ^ e - 1) := fun c hc hcb => by
    have a := hw c hc
    have b := wyG_lt (by omega) hU c
    unfold wayN at a b
    rw [if_neg hcb] at a b
    exact ⟨a, b⟩
  have same : ∀ c b, c < e → b < e → ¬ bs.testBit c = true → bs.testBit b = true → (c < el ∨ (c = el ∧ b < row)) → F c (ixB bs b) = mW 3 (rk (2 ^ e - 1)) bs wy e c (ixB bs b) := fun c b hc hb hcb hbb ho => by
    rw [at1 c b hb hbb]
    by_cases z : mW 3 (rk (2 ^ e - 1)) bs wy e c (ixB bs b) = 0
    · rw [z]; split <;> rfl
    · rw [hX c b hc hb hcb hbb ho z, Bool.xor_self, if_neg Bool.false_ne_true]
  have eqb : ∀ c, c < el → wy c = wyG 3 (rk (2 ^ e - 1)) bs F c := fun c hc => by
    by_cases g : bs.testBit c = true
    · have a := hw c (by omega)
      have b := wyG_lt (by omega) hU c
      unfold wayN at a b
      rw [if_pos g] at a b
      omega
    · obtain ⟨l1, l2⟩ := lts c (by omega) g
      refine dg_eq (by omega) l1 l2 (fun r hr => ?_)
      obtain ⟨d1, d2⟩ := dig c (by omega) g r hr
      obtain ⟨b, b1, b2, b3⟩ := rowb r hr
      subst b3
      rw [d1, d2, same c b (by omega) b1 g b2 (Or.inl hc)]
  have lt : wyG 3 (rk (2 ^ e - 1)) bs F el < wy el := by
    obtain ⟨l1, l2⟩ := lts el hel heb
    refine dg_lt (by omega) l2 l1 (hB.ixl he hrow hrb) (fun r hr => ?_) ?_
    · have hr2 : r < rk (2 ^ e - 1) := Nat.lt_trans hr (hB.ixl he hrow hrb)
      obtain ⟨d1, d2⟩ := dig el hel heb r hr2
      obtain ⟨b, b1, b2, b3⟩ := rowb r hr2
      subst b3
      have hbr : b < row := Classical.byContradiction fun z => by
        by_cases y : b = row
        · subst y; omega
        · have := ix_lt (bs := bs) (show row < b by omega) hrb
          omega
      rw [d1, d2, same el b hel b1 heb b2 (Or.inr ⟨rfl, hbr⟩)]
    · obtain ⟨d1, d2⟩ := dig el hel heb _ (hB.ixl he hrow hrb)
      rw [d1, d2, at1 el row hrow hrb, x1, x2, hg]
      decide
  rcases h2 _ ext2 with z | ⟨k, k1, k2, k3⟩
  · have := z el hel; omega
  · rcases Nat.lt_trichotomy k el with y | y | y
    · have := eqb k y; omega
    · subst y; omega
    · have := k2 el y; omega
/-- a way of n steps -/
def Pth (K : Nat → Nat) (x n y : Nat) : Prop := ∃ v : Nat → Nat, v 0 = x ∧ v n = y ∧ ∀ i, i < n → (K (v i)).testBit (v (i + 1)) = true
/-- the shortest way has d steps -/
def Dst (K : Nat → Nat) (x d y : Nat) : Prop := Pth K x d y ∧ ∀ n, n < d → ¬ Pth K x n y
variable {K : Nat → Nat}
theorem Pth.nil (x : Nat) : Pth K x 0 x := ⟨fun _ => x, rfl, rfl, fun i hi => absurd hi (Nat.not_lt_zero i)⟩
theorem Pth.snoc {x n y z : Nat} (h : Pth K x n y) (h2 : (K y).testBit z = true) : Pth K x (n + 1) z := by
  obtain ⟨v, v1, v2, v3⟩ := h
  refine ⟨fun i => if i = n + 1 then z else v i, ?_, if_pos rfl, fun i hi => ?_⟩
  · show (if 0 = n + 1 then z else v 0) = x
    rw [if_neg (by omega)]; exact v1
  · show (K (if i = n + 1 then z else v i)).testBit (if i + 1 = n + 1 then z else v (i + 1)) = true
    rw [if_neg (by omega)]
    by_cases g : i = n
    · subst g; rw [if_pos rfl, v2]; exact h2
    · rw [if_neg (by omega)]; exact v3 i (by omega)
theorem Pth.pre {x n y : Nat} (h : Pth K x (n + 1) y) : ∃ z, Pth K x n z ∧ (K z).testBit y = true := by
  obtain ⟨v, v1, v2, v3⟩ := h
  exact ⟨v n, ⟨v, v1, rfl, fun i hi => v3 i (by omega)⟩, by rw [← v2]; exact v3 n (by omega)⟩
theorem Pth.dst {x y : Nat} : ∀ n, Pth K x n y → ∃ d, d ≤ n ∧ Dst K x d y := by
  intro n
  induction n using Nat.strongRecOn with
  | _ n ih =>
    intro h
    by_cases g : ∃ k, k < n ∧ Pth K x k y
    · obtain ⟨k, k1, k2⟩ := g
      obtain ⟨d, d1, d2⟩ := ih k k1 k2
      exact ⟨d, by omega, d2⟩
    · exact ⟨n, Nat.le_refl n, h, fun k hk z => g ⟨k, hk, z⟩⟩
theorem Dst.uniq {x d d' y : Nat} (h : Dst K x d y) (h2 : Dst K x d' y) : d = d' := by
  rcases Nat.lt_trichotomy d d' with z | z | z
  · exact absurd h.1 (h2.2 d z)
  · exact z
  · exact absurd h2.1 (h.2 d' z)
theorem Dst.step {x l y : Nat} : Dst K x (l + 1) y ↔ (¬ ∃ d, d ≤ l ∧ Dst K x d y) ∧ ∃ z, Dst K x l z ∧ (K z).testBit y = true := by
  constructor
  · intro h
    refine ⟨fun ⟨d, d1, d2⟩ => h.2 d (by omega) d2.1, ?_⟩
    obtain ⟨z, z1, z2⟩ := h.1.pre
    exact ⟨z, ⟨z1, fun n hn q => h.2 (n + 1) (by omega) (q.snoc z2)⟩, z2⟩
  · rintro ⟨h1, z, h2, h3⟩
    refine ⟨h2.1.snoc h3, fun n hn q => ?_⟩
    obtain ⟨d, d1, d2⟩ := q.dst
    exact h1 ⟨d, by omega, d2⟩
theorem wkI_ok {front rc : Nat} {B : Nat → Nat} : ∀ n, (∀ i, (wkI K front rc B n).2.1.testBit i = true ↔ ¬ rc.testBit i = true ∧ ∃ x, x < n ∧ front.testBit x = true ∧ (K x).testBit i = true) ∧ (∀ i, (wkI K front rc B n).1.testBit i = (rc.testBit i || (wkI K front rc B n).2.1.testBit i)) ∧ (∀ i, (wkI K front rc B n).2.1.testBit i = true → front.testBit ((wkI K front rc B n).2.2 i) = true ∧ (K ((wkI K front rc B n).2.2 i)).testBit i = true) ∧ ∀ i, ¬ (wkI K front rc B n).2.1.testBit i = true → (wkI K front rc B n).2.2 i = B i := by
  intro n
  induction n with
  | zero =>
    have q : wkI K front rc B 0 = (rc, 0, B) := rfl
    rw [q]
    refine ⟨fun i => ⟨fun z => ?_, fun z => ?_⟩, fun i => ?_, fun i z => ?_, fun i _ => rfl⟩
    · rw [show ((rc, 0, B) : Nat × Nat × (Nat → Nat)).2.1 = 0 from rfl, Nat.zero_testBit] at z; cases z
    · obtain ⟨-, x, x1, -⟩ := z; exact absurd x1 (Nat.not_lt_zero x)
    · show rc.testBit i = (rc.testBit i || (0 : Nat).testBit i)
      rw [Nat.zero_testBit, Bool.or_false]
    · rw [show ((rc, 0, B) : Nat × Nat × (Nat → Nat)).2.1 = 0 from rfl, Nat.zero_testBit] at z; cases z
  | succ n ih =>
    obtain ⟨i1, i2, i3, i4⟩ := ih
    unfold wkI
    generalize wkI K front rc B n = st at i1 i2 i3 i4 ⊢
    by_cases g : front.testBit n = true
    · rw [if_pos g]
      have fr : ∀ i, (sdf (K n) st.1).testBit i = true ↔ (K n).testBit i = true ∧ ¬ rc.testBit i = true ∧ ¬ st.2.1.testBit i = true := fun i => by
        rw [sdf_bit, i2 i]
        cases (K n).testBit i <;> cases rc.testBit i <;> cases st.2.1.testBit i <;> simp
      have nx : ∀ i, (st.2.1 ||| sdf (K n) st.1).testBit i = true ↔ st.2.1.testBit i = true ∨ ((K n).testBit i = true ∧ ¬ rc.testBit i = true ∧ ¬ st.2.1.testBit i = true) := fun i => by
        rw [Nat.testBit_or, Bool.or_eq_true, fr]
      refine ⟨fun i => ?_, fun i => ?_, fun i z => ?_, fun i z => ?_⟩
      · show (st.2.1 ||| sdf (K n) st.1).testBit i = true ↔ _
        rw [nx, i1]
        constructor
        · rintro (⟨z1, x, x1, x2⟩ | ⟨z1, z2, z3⟩)
          · exact ⟨z1, x, by omega, x2⟩
          · exact ⟨z2, n, by omega, g, z1⟩
        · rintro ⟨z1, x, x1, x2, x3⟩
          by_cases gx : ∃ x, x < n ∧ front.testBit x = true ∧ (K x).testBit i = true
          · exact Or.inl ⟨z1, gx⟩
          · have hxn : x = n := Classical.byContradiction fun w => gx ⟨x, by omega, x2, x3⟩
            subst hxn
            exact Or.inr ⟨x3, z1, fun w => gx w.2⟩
      · show (st.1 ||| sdf (K n) st.1).testBit i = (rc.testBit i || (st.2.1 ||| sdf (K n) st.1).testBit i)
        rw [Nat.testBit_or, Nat.testBit_or, i2 i, Bool.or_assoc]
      · show front.testBit (if (sdf (K n) st.1).testBit i = true then n else st.2.2 i) = true ∧ (K (if (sdf (K n) st.1).testBit i = true then n else st.2.2 i)).testBit i = true
        by_cases w : (sdf (K n) st.1).testBit i = true
        · rw [if_pos w]; exact ⟨g, ((fr i).mp w).1⟩
        · rw [if_neg w]
          have z2 : (st.2.1 ||| sdf (K n) st.1).testBit i = true := z
          rw [Nat.testBit_or, Bool.or_eq_true] at z2
          exact i3 i (z2.resolve_right w)
      · show (if (sdf (K n) st.1).testBit i = true then n else st.2.2 i) = B i
        have z2 : ¬ (st.2.1 ||| sdf (K n) st.1).testBit i = true := z
        rw [Nat.testBit_or, Bool.or_eq_true] at z2
        rw [if_neg (fun w => z2 (Or.inr w))]
        exact i4 i (fun w => z2 (Or.inl w))
    · rw [if_neg g]
      refine ⟨fun i => ?_, i2, i3, i4⟩
      rw [i1]
      constructor
      · rintro ⟨z1, x, x1, x2⟩
        exact ⟨z1, x, by omega, x2⟩
      · rintro ⟨z1, x, x1, x2, x3⟩
        refine ⟨z1, x, ?_, x2, x3⟩
        have : x ≠ n := fun w => g (by rw [← w]; exact x2)
        omega
/-- the search's states, round by round -/
def bfS (K : Nat → Nat) (x : Nat) (B : Nat → Nat) : Nat → Nat × Nat × (Nat → Nat)
  | 0 => (2 ^ x, 2 ^ x, B)
  | l + 1 => wkI K (bfS K x B l).2.1 (bfS K x B l).1 (bfS K x B l).2.2 10
theorem bf_ok {x : Nat} {B : Nat → Nat} (hx : x < 10) (hK : ∀ j, K j < 1024) : ∀ l, (bfS K x B l).1 < 1024 ∧ (∀ i, (bfS K x B l).2.1.testBit i = true ↔ Dst K x l i) ∧ (∀ i, (bfS K x B l).1.testBit i = true ↔ ∃ d, d ≤ l ∧ Dst K x d i) ∧ ∀ d i, 1 ≤ d → d ≤ l → Dst K x d i → Dst K x (d - 1) ((bfS K x B l).2.2 i) ∧ (K ((bfS K x B l).2.2 i)).testBit i = true := by
  intro l
  induction l with
  | zero =>
    have d0 : ∀ i, Dst K x 0 i ↔ x = i := fun i => ⟨fun ⟨⟨v, v1, v2, _⟩, _⟩ => by rw [← v1, ← v2], fun z => by subst z; exact ⟨Pth.nil x, fun n hn => absurd hn (Nat.not_lt_zero n)⟩⟩
    refine ⟨bit_lt (e := 10) hx, fun i => ?_, fun i => ?_, fun d i h1 h2 _ => by omega⟩
    · show (2 ^ x).testBit i = true ↔ _
      rw [p2_testBit, decide_eq_true_eq, d0]
    · show (2 ^ x).testBit i = true ↔ _
      rw [p2_testBit, decide_eq_true_eq]
      exact ⟨fun z => ⟨0, Nat.le_refl 0, (d0 i).mpr z⟩, fun ⟨d, d1, d2⟩ => by rw [Nat.le_zero.mp d1] at d2; exact (d0 i).mp d2⟩
  | succ l ih =>
    obtain ⟨i0, i1, i2, i3⟩ := ih
    obtain ⟨w1, w2, w3, w4⟩ := wkI_ok (K := K) (front := (bfS K x B l).2.1) (rc := (bfS K x B l).1) (B := (bfS K x B l).2.2) 10
    have wl := (wkI_lt (K := K) (front := (bfS K x B l).2.1) (rc := (bfS K x B l).1) (B := (bfS K x B l).2.2) (fun j _ => hK j) i0 10 (Nat.le_refl _)).1
    have ed : bfS K x B (l + 1) = wkI K (bfS K x B l).2.1 (bfS K x B l).1 (bfS K x B l).2.2 10 := rfl
    rw [← ed] at w1 w2 w3 w4 wl
    generalize bfS K x B (l + 1) = st at w1 w2 w3 w4 wl ⊢
    have a1 : ∀ i, st.2.1.testBit i = true ↔ Dst K x (l + 1) i := fun i => by
      rw [w1, i2, Dst.step]
      constructor
      · rintro ⟨z1, y, y1, y2, y3⟩
        exact ⟨z1, y, (i1 y).mp y2, y3⟩
      · rintro ⟨z1, y, y2, y3⟩
        have hy := (i2 y).mpr ⟨l, Nat.le_refl l, y2⟩
        exact ⟨z1, y, bit_lt10 (e := 10) i0 hy, (i1 y).mpr y2, y3⟩
    refine ⟨wl, a1, fun i => ?_, fun d i h1 h2 h3 => ?_⟩
    · rw [w2, Bool.or_eq_true, i2, a1]
      constructor
      · rintro (⟨d, d1, d2⟩ | z)
        · exact ⟨d, by omega, d2⟩
        · exact ⟨l + 1, Nat.le_refl _, z⟩
      · rintro ⟨d, d1, d2⟩
        by_cases g : d = l + 1
        · subst g; exact Or.inr d2
        · exact Or.inl ⟨d, by omega, d2⟩
    · by_cases g : d = l + 1
      · subst g
        obtain ⟨q1, q2⟩ := w3 i ((a1 i).mpr h3)
        exact ⟨(i1 _).mp q1, q2⟩
      · have hn : ¬ st.2.1.testBit i = true := fun z => g (h3.uniq ((a1 i).mp z))
        rw [w4 i hn]
        exact i3 d i h1 (by omega) h3
theorem walk_ok {x to : Nat} {B : Nat → Nat} : ∀ f, f ≤ 10 → (∃ L, 10 - f < L ∧ L ≤ 10 ∧ walkN K to f (bfS K x B (10 - f)).1 (bfS K x B (10 - f)).2.1 (bfS K x B (10 - f)).2.2 = (L, (bfS K x B L).2.2) ∧ (bfS K x B L).2.1.testBit to = true ∧ ∀ l, 10 - f < l → l < L → ¬ (bfS K x B l).2.1.testBit to = true) ∨ ((walkN K to f (bfS K x B (10 - f)).1 (bfS K x B (10 - f)).2.1 (bfS K x B (10 - f)).2.2).1 = 99 ∧ ∀ l, 10 - f < l → l ≤ 10 → ¬ (bfS K x B l).2.1.testBit to = true) := by
  intro f
  induction f with
  | zero => intro _; exact Or.inr ⟨rfl, fun l h1 h2 => by omega⟩
  | succ f ih =>
    intro hf
    unfold walkN
    have ed : wkI K (bfS K x B (10 - (f + 1))).2.1 (bfS K x B (10 - (f + 1))).1 (bfS K x B (10 - (f + 1))).2.2 10 = bfS K x B (10 - f) := by
      rw [show 10 - f = (10 - (f + 1)) + 1 by omega]; rfl
    rw [ed]
    by_cases g : (bfS K x B (10 - f)).2.1.testBit to = true
    · rw [if_pos g]
      exact Or.inl ⟨10 - f, by omega, by omega, rfl, g, fun l h1 h2 => by omega⟩
    · rw [if_neg g]
      rcases ih (by omega) with ⟨L, L1, L2, L3, L4, L5⟩ | ⟨h1, h2⟩
      · refine Or.inl ⟨L, by omega, L2, L3, L4, fun l l1 l2 => ?_⟩
        by_cases gl : l = 10 - f
        · subst gl; exact g
        · exact L5 l (by omega) l2
      · refine Or.inr ⟨h1, fun l l1 l2 => ?_⟩
        by_cases gl : l = 10 - f
        · subst gl; exact g
        · exact h2 l (by omega) l2
/-- what a walk finds -/
theorem walk_is {x to : Nat} {B : Nat → Nat} (hx : x < 10) (hK : ∀ j, K j < 1024) (hne : x ≠ to) : (∃ L, 1 ≤ L ∧ L ≤ 10 ∧ walkN K to 10 (2 ^ x) (2 ^ x) B = (L, (bfS K x B L).2.2) ∧ Dst K x L to) ∨ ((walkN K to 10 (2 ^ x) (2 ^ x) B).1 = 99 ∧ ∀ d, d ≤ 10 → ¬ Dst K x d to) := by
  have d0 : ¬ Dst K x 0 to := fun ⟨⟨v, v1, v2, _⟩, _⟩ => hne (by rw [← v1, ← v2])
  rcases walk_ok (K := K) (x := x) (to := to) (B := B) 10 (Nat.le_refl _) with ⟨L, L1, L2, L3, L4, -⟩ | ⟨h1, h2⟩
  · exact Or.inl ⟨L, by omega, L2, L3, ((bf_ok hx hK L).2.1 to).mp L4⟩
  · refine Or.inr ⟨h1, fun d hd z => ?_⟩
    by_cases g : d = 0
    · subst g; exact d0 z
    · exact h2 d (by omega) hd (((bf_ok hx hK d).2.1 to).mpr z)
theorem front_many {x : Nat} {B : Nat → Nat} (hx : x < 10) (hK : ∀ j, K j < 1024) : ∀ l i, Dst K x l i → l + 1 ≤ bc (bfS K x B l).1 := by
  intro l
  induction l with
  | zero =>
    intro i _
    show 1 ≤ bc (2 ^ x)
    rw [bc_p2 (e := 10) (Nat.le_refl _) hx]
    exact Nat.le_refl _
  | succ l ih =>
    intro i hi
    obtain ⟨h1, z, z1, z2⟩ := Dst.step.mp hi
    have q := ih z z1
    obtain ⟨a0, -, a2, -⟩ := bf_ok (B := B) hx hK l
    obtain ⟨b0, -, b2, -⟩ := bf_ok (B := B) hx hK (l + 1)
    have n1 : ¬ (bfS K x B l).1.testBit i = true := fun w => h1 ((a2 i).mp w)
    have n2 : (bfS K x B (l + 1)).1.testBit i = true := (b2 i).mpr ⟨l + 1, Nat.le_refl _, hi⟩
    have n3 := bit_lt10 (e := 10) b0 n2
    have c := bc_add (e := 10) (Nat.le_refl _) a0 n3 n1
    have s := bc_sbs (e := 10) (Nat.le_refl _) (q := (bfS K x B l).1 ||| 2 ^ i) b0 (fun j hj => by
      rw [Nat.testBit_or, p2_testBit, Bool.or_eq_true, decide_eq_true_eq] at hj
      rcases hj with w | w
      · obtain ⟨d, d1, d2⟩ := (a2 j).mp w
        exact (b2 j).mpr ⟨d, by omega, d2⟩
      · rw [← w]; exact n2)
    omega
theorem dst_lt {x d y : Nat} (hx : x < 10) (hK : ∀ j, K j < 1024) (h : Dst K x d y) : d ≤ 9 := by
  apply Classical.byContradiction
  intro z
  have k : ∀ n, ∃ y, Dst K x (d - n) y := by
    intro n
    induction n with
    | zero => exact ⟨y, h⟩
    | succ n ih =>
      obtain ⟨y', hy⟩ := ih
      by_cases g : d - n = 0
      · exact ⟨y', by rw [show d - (n + 1) = d - n by omega]; exact hy⟩
      · rw [show d - n = (d - (n + 1)) + 1 by omega] at hy
        obtain ⟨-, w, w1, -⟩ := Dst.step.mp hy
        exact ⟨w, w1⟩
  obtain ⟨y', hy⟩ := k (d - 10)
  rw [show d - (d - 10) = 10 by omega] at hy
  have q := front_many (B := fun _ => 0) hx hK 10 y' hy
  have := bc_le (bfS K x (fun _ => 0) 10).1
  omega
/-- a set that no known entry leaves -/
def Cl (K : Nat → Nat) (X : Nat → Prop) : Prop := ∀ x y, (K x).testBit y = true → X x → X y
theorem Cl.pth {X : Nat → Prop} (h : Cl K X) {x y : Nat} : ∀ n, ∀ y, Pth K x n y → X x → X y := by
  intro n
  induction n with
  | zero =>
    intro y hp hX
    obtain ⟨v, v1, v2, -⟩ := hp
    rw [← v2, v1]; exact hX
  | succ n ih =>
    intro y hp hX
    obtain ⟨z, z1, z2⟩ := hp.pre
    exact h z y z2 (ih z z1 hX)
theorem walk_far {x to : Nat} {B : Nat → Nat} (hx : x < 10) (hK : ∀ j, K j < 1024) (hne : x ≠ to) (h : 99 ≤ (walkN K to 10 (2 ^ x) (2 ^ x) B).1) : ∃ X : Nat, Cl K (fun y => X.testBit y = true) ∧ X.testBit x = true ∧ X.testBit to = false := by
  rcases walk_is (B := B) hx hK hne with ⟨L, L1, L2, L3, -⟩ | ⟨-, h2⟩
  · rw [L3] at h
    have h9 : 99 ≤ L := h
    omega
  · obtain ⟨a0, a1, a2, -⟩ := bf_ok (B := B) hx hK 10
    refine ⟨(bfS K x B 10).1, fun y z hyz hy => ?_, (a2 x).mpr ⟨0, by omega, Pth.nil x, fun n hn => absurd hn (Nat.not_lt_zero n)⟩, ?_⟩
    · obtain ⟨d, d1, d2⟩ := (a2 y).mp hy
      have := dst_lt hx hK d2
      obtain ⟨d', e1, e2⟩ := (d2.1.snoc hyz).dst
      exact (a2 z).mpr ⟨d', by omega, e2⟩
    · rw [Bool.eq_false_iff]
      intro z
      obtain ⟨d, d1, d2⟩ := (a2 to).mp z
      exact h2 d d1 d2
theorem walk_near {x to : Nat} {B : Nat → Nat} (hx : x < 10) (hK : ∀ j, K j < 1024) (hne : x ≠ to) (h : ¬ 99 ≤ (walkN K to 10 (2 ^ x) (2 ^ x) B).1) : ∀ X : Nat → Prop, Cl K X → X x → X to := by
  intro X hC hX
  rcases walk_is (B := B) hx hK hne with ⟨L, -, -, -, L4⟩ | ⟨h1, -⟩
  · exact hC.pth (y := to) L to L4.1 hX
  · omega
theorem Cl.sym {X : Nat → Prop} (hK : ∀ x y, (K x).testBit y = true → (K y).testBit x = true) (h : Cl K X) : Cl K (fun y => ¬ X y) := fun x y hxy hx hy => hx (h y x (hK x y hxy) hy)
end As
