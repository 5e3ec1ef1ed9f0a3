/-! The mathematics: drawings over 3: all entries become known; both sides' drawings are the same *-/
section Av
variable {e bs : Nat} {rk : Nat → Nat}
theorem cnt_fewer {p q : Nat → Bool} {k : Nat} : ∀ n, (∀ i, i < n → p i = true → q i = true) → k < n → q k = true → p k = false → cnt p n + 1 ≤ cnt q n := by
  intro n
  induction n with
  | zero => intro _ hk; omega
  | succ n ih =>
    intro h hk hq hp
    show cnt p n + (if p n = true then 1 else 0) + 1 ≤ cnt q n + (if q n = true then 1 else 0)
    have le : ∀ m, m ≤ n → cnt p m ≤ cnt q m := by
      intro m
      induction m with
      | zero => intro _; exact Nat.le_refl _
      | succ m ihm =>
        intro hm
        have := ihm (by omega)
        show cnt p m + (if p m = true then 1 else 0) ≤ cnt q m + (if q m = true then 1 else 0)
        by_cases g : p m = true
        · rw [if_pos g, if_pos (h m (by omega) g)]; omega
        · rw [if_neg g]; split <;> omega
    by_cases g : k = n
    · subst g
      have := le k (Nat.le_refl k)
      rw [if_pos hq, if_neg (by rw [hp]; exact Bool.false_ne_true)]
      omega
    · have i := ih (fun i hi => h i (by omega)) (by omega) hq hp
      by_cases g2 : p n = true
      · rw [if_pos g2, if_pos (h n (by omega) g2)]; omega
      · rw [if_neg g2]; split <;> omega
/-- after r rounds: nothing is unknown, or at most 100 - r entries are -/
def RndI (rk : Nat → Nat) (e bs : Nat) (G : Nat → Nat → Nat) (r : Nat) (s : SbT) : Prop := BndI rk e bs G s.2.1 s.2.2.2 ∧ ((s.1 = true ∧ ∀ p, p < 100 → unkB rk e bs s.2.1 p = false) ∨ (s.1 = false ∧ cnt (unkB rk e bs s.2.1) 100 + r ≤ 100))
theorem rnd_step (hM : Mtr e rk) (hB : BsP rk e bs) {G : Nat → Nat → Nat} (hU : UM 3 (rk (2 ^ e - 1)) e bs G) (hR : ∀ s, s < 2 ^ e → rkE 3 (rk (2 ^ e - 1)) G s = rk s) {r : Nat} {s : SbT} (h : RndI rk e bs G r s) (hs : ¬ s.1 = true) : RndI rk e bs G (r + 1) (sbC (sortN rk e) e bs s (sbI (drJ (sortN rk e) e bs) s.2.1 bs s.2.2.1 100)) := by
  have he := hM.1
  obtain ⟨hb, hc⟩ := h
  have hb0 := hb
  obtain ⟨k1, k2, k3, k4, k5, k6, k7⟩ := hb
  have hcnt : cnt (unkB rk e bs s.2.1) 100 + r ≤ 100 := by
    rcases hc with z | z
    · exact absurd z.1 hs
    · exact z.2
  have si := sbI_ok (rk := rk) (bs := bs) he k1 (B := s.2.2.1) 100 (Nat.le_refl _)
  generalize sbI (drJ (sortN rk e) e bs) s.2.1 bs s.2.2.1 100 = u at si ⊢
  unfold sbC
  rcases si with ⟨i1, i2, i3⟩ | ⟨p, p1, p2, p3, p4, p5, p6⟩
  · rw [if_pos i1]
    refine ⟨hb0, Or.inl ⟨rfl, fun p hp => ?_⟩⟩
    rw [Bool.eq_false_iff]
    intro z
    obtain ⟨u1, u2⟩ := unk_iff.mp z
    have q := (k7 _ _ u1 (fun y => ∃ n, Pth s.2.1 (p / 10) n y) (fun x y hxy hx => by
      obtain ⟨n, hn⟩ := hx
      exact ⟨n + 1, hn.snoc hxy⟩)).mp ⟨0, Pth.nil _⟩
    obtain ⟨n, hn⟩ := q
    obtain ⟨d, -, d2⟩ := hn.dst
    exact i3 p hp z d d2
  · rw [if_neg (by omega), p2, Nat.add_sub_cancel]
    obtain ⟨u1, u2⟩ := unk_iff.mp p3
    obtain ⟨q1, q2, q3, q4⟩ := u1.ok
    have hne : p / 10 ≠ p % 10 := fun z => q3 (by rw [z]; exact q4)
    have hw : (walkN s.2.1 (p % 10) 10 (2 ^ (p / 10)) (2 ^ (p / 10)) u.2.2).2 = (bfS s.2.1 (p / 10) u.2.2 u.1).2.2 := by
      rcases walk_is (B := u.2.2) (show p / 10 < 10 by omega) k1 hne with ⟨L, L1, L2, L3, L4⟩ | ⟨w1, w2⟩
      · rw [L3, L4.uniq p5]
      · exact absurd p5 (w2 _ p4)
    have sgn := ring_sign hM hB hU hR hb0 (B := (walkN s.2.1 (p % 10) 10 (2 ^ (p / 10)) (2 ^ (p / 10)) u.2.2).2) p3 p5 (fun d i d1 d2 d3 => by
      rw [hw]
      exact (bf_ok (B := u.2.2) (show p / 10 < 10 by omega) k1 u.1).2.2.2 d i d1 d2 d3) p6
    generalize sgnN (sortN rk e) (walkN s.2.1 (p % 10) 10 (2 ^ (p / 10)) (2 ^ (p / 10)) u.2.2).2 s.2.2.2 e bs (p / 10) (p % 10) = sn at sgn ⊢
    have lb : ∀ (K : Nat → Nat) j i, (lrn K (p / 10) (p % 10) j).testBit i = true ↔ (K j).testBit i = true ∨ (j = p / 10 ∧ i = p % 10) ∨ (j = p % 10 ∧ i = p / 10) := fun K j i => lrn_bit hne
    have nb : ∀ j i, ((if sn = true then lrn s.2.2.2 (p / 10) (p % 10) else s.2.2.2) j).testBit i = true ↔ (s.2.2.2 j).testBit i = true ∨ (sn = true ∧ ((j = p / 10 ∧ i = p % 10) ∨ (j = p % 10 ∧ i = p / 10))) := fun j i => by
      by_cases g : sn = true
      · rw [if_pos g, lb]
        exact ⟨fun z => z.imp id (fun y => ⟨g, y⟩), fun z => z.imp id (fun y => y.2)⟩
      · rw [if_neg g]
        exact ⟨fun z => Or.inl z, fun z => z.elim id (fun y => absurd y.1 g)⟩
    refine ⟨⟨lrn_lt (by omega) (by omega) k1, fun x y hxy => ?_, fun x y hxy => ?_, fun x y hxy => ?_, fun x y hxy => ?_, fun c b hcs hcb => ?_, fun c b hcs X hX => ?_⟩, Or.inr ⟨rfl, ?_⟩⟩
    · have hxy2 := (lb s.2.1 x y).mp hxy
      refine (lb s.2.1 y x).mpr ?_
      rcases hxy2 with z | z | z
      · exact Or.inl (k2 x y z)
      · exact Or.inr (Or.inr ⟨z.2, z.1⟩)
      · exact Or.inr (Or.inl ⟨z.2, z.1⟩)
    · rcases (lb s.2.1 x y).mp hxy with z | ⟨z1, z2⟩ | ⟨z1, z2⟩
      · exact k3 x y z
      · rw [z1, z2]; exact Or.inl u1
      · rw [z1, z2]; exact Or.inr u1
    · refine (lb s.2.1 x y).mpr ?_
      rcases (nb x y).mp hxy with z | z
      · exact Or.inl (k4 x y z)
      · exact Or.inr z.2
    · refine (nb y x).mpr ?_
      rcases (nb x y).mp hxy with z | ⟨z1, z2 | z2⟩
      · exact Or.inl (k5 x y z)
      · exact Or.inr ⟨z1, Or.inr ⟨z2.2, z2.1⟩⟩
      · exact Or.inr ⟨z1, Or.inl ⟨z2.2, z2.1⟩⟩
    · show G c (ixB bs b) = vl3 (((if sn = true then lrn s.2.2.2 (p / 10) (p % 10) else s.2.2.2) c).testBit b)
      by_cases g : c = p / 10 ∧ b = p % 10
      · obtain ⟨g1, g2⟩ := g
        subst g1; subst g2
        have nn : ¬ (s.2.2.2 (p / 10)).testBit (p % 10) = true := fun z => u2 (k4 _ _ z)
        have e1 : ((if sn = true then lrn s.2.2.2 (p / 10) (p % 10) else s.2.2.2) (p / 10)).testBit (p % 10) = sn := by
          rw [Bool.eq_iff_iff, nb]
          exact ⟨fun z => z.elim (fun y => absurd y nn) (fun y => y.1), fun z => Or.inr ⟨z, Or.inl ⟨rfl, rfl⟩⟩⟩
        rw [e1]
        exact sgn
      · have g2 : ¬ (c = p % 10 ∧ b = p / 10) := fun z => hcs.ok.2.2.1 (by rw [z.1]; exact q4)
        have e1 : ((if sn = true then lrn s.2.2.2 (p / 10) (p % 10) else s.2.2.2) c).testBit b = (s.2.2.2 c).testBit b := by
          rw [Bool.eq_iff_iff, nb]
          exact ⟨fun z => z.elim id (fun y => y.2.elim (fun w => absurd w g) (fun w => absurd w g2)), fun z => Or.inl z⟩
        rw [e1]
        refine k6 c b hcs ?_
        rcases (lb s.2.1 c b).mp hcb with z | z | z
        · exact z
        · exact absurd z g
        · exact absurd z g2
    · exact k7 c b hcs X (hX.less (fun x y z => (lb s.2.1 x y).mpr (Or.inl z)))
    · show cnt (unkB rk e bs (lrn s.2.1 (p / 10) (p % 10))) 100 + (r + 1) ≤ 100
      have f := cnt_fewer (p := unkB rk e bs (lrn s.2.1 (p / 10) (p % 10))) (q := unkB rk e bs s.2.1) (k := p) 100 (fun i _ hi => by
        obtain ⟨a, b⟩ := unk_iff.mp hi
        exact unk_iff.mpr ⟨a, fun z => b ((lb s.2.1 _ _).mpr (Or.inl z))⟩) p1 p3 (by
        rw [Bool.eq_false_iff]
        intro hi
        obtain ⟨a, b⟩ := unk_iff.mp hi
        exact b ((lb s.2.1 _ _).mpr (Or.inr (Or.inl ⟨rfl, rfl⟩))))
      omega
theorem rnd_all (hM : Mtr e rk) (hB : BsP rk e bs) {G : Nat → Nat → Nat} (hU : UM 3 (rk (2 ^ e - 1)) e bs G) (hR : ∀ s, s < 2 ^ e → rkE 3 (rk (2 ^ e - 1)) G s = rk s) {s : SbT} (h : RndI rk e bs G 0 s) : ∀ r, RndI rk e bs G r (sbO (sortN rk e) (drJ (sortN rk e) e bs) e bs s r) := by
  intro r
  induction r with
  | zero => exact h
  | succ r ih =>
    unfold sbO
    by_cases g : (sbO (sortN rk e) (drJ (sortN rk e) e bs) e bs s r).1 = true
    · rw [if_pos g]
      obtain ⟨i1, i2⟩ := ih
      refine ⟨i1, ?_⟩
      rcases i2 with z | z
      · exact Or.inl z
      · rw [z.1] at g; cases g
    · rw [if_neg g]
      exact rnd_step hM hB hU hR ih g
theorem draw3 (hM : Mtr e rk) : ∀ wy, ExtW rk e 3 (bsN rk e) 0 wy → (∀ wy2 : Nat → Nat, ExtW rk e 3 (bsN rk e) 0 wy2 → LexLe e wy wy2) → ∀ c, c < e → ∀ r, r < rk (2 ^ e - 1) → mW 3 (rk (2 ^ e - 1)) (bsN rk e) wy e c r = drG (sortN rk e) e (bsN rk e) 3 c r := by
  intro wy h1 h2 c hc r hr
  have he := hM.1
  obtain ⟨-, b2, b3, b4, b5⟩ := hM.bas
  have hB : BsP rk e (bsN rk e) := ⟨b2, by omega, by omega⟩
  have hG : UM 3 (rk (2 ^ e - 1)) e (bsN rk e) (mW 3 (rk (2 ^ e - 1)) (bsN rk e) wy e) := mW_UM he b2 (by omega)
  have hR := ((ext_rep hM (Or.inr rfl) b2).mp h1).2
  obtain ⟨f1, f2, f3, f4, f5⟩ := free_all hM hB h1 h2
  have start : RndI rk e (bsN rk e) (mW 3 (rk (2 ^ e - 1)) (bsN rk e) wy e) 0 (false, (drS (sortN rk e) e (bsN rk e)).1, (drS (sortN rk e) e (bsN rk e)).2, fun _ => 0) := by
    have nb : ∀ x y, ¬ ((fun _ => 0 : Nat → Nat) x).testBit y = true := fun x y z => by
      have z2 : (0 : Nat).testBit y = true := z
      rw [Nat.zero_testBit] at z2; cases z2
    refine ⟨⟨f1, f2, f3, fun x y z => absurd z (nb x y), fun x y z => absurd z (nb x y), fun c b q z => ?_, fun c b q X hX => ?_⟩, Or.inr ⟨rfl, by rw [Nat.add_zero]; exact cnt_le _ _⟩⟩
    · show _ = vl3 ((0 : Nat).testBit b)
      rw [Nat.zero_testBit]
      exact f4 c b q z
    · exact f5 c b q (Or.inl q.ok.1) X hX
  have hT := rnd_all hM hB hG hR start 100
  have eT : drT (sortN rk e) e (bsN rk e) = sbO (sortN rk e) (drJ (sortN rk e) e (bsN rk e)) e (bsN rk e) (false, (drS (sortN rk e) e (bsN rk e)).1, (drS (sortN rk e) e (bsN rk e)).2, fun _ => 0) 100 := by unfold drT; rfl
  have eN : drN (sortN rk e) e (bsN rk e) 3 = (drT (sortN rk e) e (bsN rk e)).2.2.2 := by unfold drN; rw [if_pos rfl]
  rw [← eT] at hT
  generalize drT (sortN rk e) e (bsN rk e) = T at hT eN
  obtain ⟨⟨k1, k2, k3, k4, k5, k6, k7⟩, fin⟩ := hT
  have known : ∀ c b, SupE rk e (bsN rk e) c b → (T.2.1 c).testBit b = true := fun c b q => by
    obtain ⟨q1, q2, q3, q4⟩ := q.ok
    have nu : unkB rk e (bsN rk e) T.2.1 (10 * c + b) = false := by
      rcases fin with z | z
      · exact z.2 _ (by omega)
      · rw [Bool.eq_false_iff]
        intro y
        have y2 := cnt_fewer (p := fun _ => false) (q := unkB rk e (bsN rk e) T.2.1) (k := 10 * c + b) 100 (fun _ _ w => absurd w Bool.false_ne_true) (by omega) y rfl
        have z2 : cnt (unkB rk e (bsN rk e) T.2.1) 100 + 100 ≤ 100 := z.2
        omega
    apply Classical.byContradiction
    intro y
    have := (unk_iff (rk := rk) (e := e) (bs := bsN rk e) (K := T.2.1) (p := 10 * c + b)).mpr (by
      rw [show (10 * c + b) / 10 = c by omega, show (10 * c + b) % 10 = b by omega]
      exact ⟨q, y⟩)
    rw [nu] at this
    cases this
  obtain ⟨b, b1, bb, bx⟩ := ix_sur (bs := bsN rk e) e (by rw [hB.ix he]; exact hr)
  subst bx
  rw [drG_at b1 bb hc]
  by_cases g : c = b
  · subst g
    rw [if_pos rfl, hG.2 c hc bb _ hr, if_pos rfl]
  · rw [if_neg g]
    by_cases gc : (bsN rk e).testBit c = true
    · rw [if_neg (fun z => ((isE_iff hc).mp z).1 gc), hG.2 c hc gc _ hr, if_neg (fun z => g (ix_inj bb gc z).symm)]
    · by_cases z : isE (drJ (sortN rk e) e (bsN rk e)) (bsN rk e) c b = true
      · rw [if_pos z]
        have q := k6 c b z (known c b z)
        rw [q, eN]; rfl
      · rw [if_neg z]
        apply Classical.byContradiction
        intro y
        exact z ((isE_iff hc).mpr ⟨gc, b1, bb, (hG.sup hM (Or.inr rfl) hB hR b1 bb hc gc).mp y⟩)
theorem drawing_same (hM : Mtr e rk) {f : Nat} (hf : f = 2 ∨ f = 3) {tr : Int} (h1 : draP rk e f tr) {o : Option (Nat → Nat)} (h2 : DRp rk e f o) : (o = none ∧ tr = 0) ∨ ∃ g, o = some g ∧ tr = 1 ∧ ∀ c, c < e → ∀ r, r < rk (2 ^ e - 1) → g (rk (2 ^ e - 1) * c + r) = drG (sortN rk e) e (bsN rk e) f c r := by
  rcases hf with rfl | rfl
  · exact draw_same hM (Or.inl rfl) (draw2 hM) h1 h2
  · exact draw_same hM (Or.inr rfl) (draw3 hM) h1 h2
end Av
