/-! The mathematics: isomorphisms: both sides find the same *-/
section Ay
variable {e : Nat} {r1 r2 : Nat → Nat} {C W G H : Nat → Nat} {P Q : Nat → Int32} {im : Nat → Nat}
theorem sum_or {s k : Nat} (hs : s < 2 ^ k) : s + 2 ^ k = s ||| 2 ^ k := by
  have q := Nat.two_pow_add_eq_or_of_lt hs 1
  rw [Nat.mul_one] at q
  rw [Nat.add_comm, q, Nat.or_comm]
theorem by_top {p : Nat → Prop} (h0 : p 0) (h : ∀ k s, k < e → s < 2 ^ k → p (s ||| 2 ^ k)) {s : Nat} (hs : s < 2 ^ e) : p s := by
  by_cases g : s = 0
  · subst g; exact h0
  · obtain ⟨l, l1, l2, l3⟩ := top_bit e hs g
    have q := h l (sdf s (2 ^ l)) l1 (by rw [mod_top l2 l3]; exact Nat.mod_lt _ (p2_pos l))
    rw [rem_or l2] at q
    exact q
theorem ExtP.pm (h : ExtP r1 r2 e 0 0 im) : PmI im e := by
  refine ⟨fun k hk => (h k (Nat.zero_le k) hk).1, fun j k hj hk z => ?_⟩
  rcases Nat.lt_trichotomy j k with y | y | y
  · exact absurd z ((h k (Nat.zero_le k) hk).2.2.1 j (Nat.zero_le j) y)
  · exact y
  · exact absurd z.symm ((h j (Nat.zero_le j) hj).2.2.1 k (Nat.zero_le k) y)
theorem CExt.pm (h : CExt P Q C W e 0 0 im) : PmI im e := by
  refine ⟨fun k hk => (h k (Nat.zero_le k) hk).1, fun j k hj hk z => ?_⟩
  rcases Nat.lt_trichotomy j k with y | y | y
  · exact absurd z ((h k (Nat.zero_le k) hk).2.2.1 j (Nat.zero_le j) y)
  · exact y
  · exact absurd z.symm ((h j (Nat.zero_le j) hj).2.2.1 k (Nat.zero_le k) y)
theorem im_full (he : e ≤ 10) (hp : PmI im e) : imS im e (2 ^ e - 1) = 2 ^ e - 1 := by
  have h0 := p2_pos e
  exact sbs_full he (by omega) (sbs_all (imS_lt hp)) (imS_bc he hp _ _ (Nat.le_refl _) (by omega))
theorem ExtP.ranks (h1 : Mtr e r1) (h2 : Mtr e r2) (h : ExtP r1 r2 e 0 0 im) {s : Nat} (hs : s < 2 ^ e) : r1 s = r2 (imS im e s) := by
  refine by_top (p := fun s => r1 s = r2 (imS im e s)) ?_ (fun k s hk hs2 => ?_) hs
  · show r1 0 = r2 (imS im e 0)
    rw [imS_zero, h1.2.1, h2.2.1]
  · have q := (h k (Nat.zero_le k) hk).2.2.2 s hs2
    rw [imO_top hs2 hk] at q
    exact q
/-- the counts of both sides, and the profiles -/
def CtI (r1 r2 : Nat → Nat) (e : Nat) (C W : Nat → Nat) (P Q : Nat → Int32) : Prop := (∃ G : Nat → Nat, (∀ j, j < 2 ^ e → G j = b2n (bsB r1 e j)) ∧ ∀ j, j < 2 ^ e → C j = sgN G e j) ∧ (∃ H : Nat → Nat, (∀ j, j < 2 ^ e → H j = b2n (bsB r2 e j)) ∧ ∀ j, j < 2 ^ e → W j = sgN H e j) ∧ (∀ j, j < e → P j = Int32.ofInt (prfN C e (2 ^ e) j)) ∧ ∀ j, j < e → Q j = Int32.ofInt (prfN W e (2 ^ e) j)
theorem b2n_iff {a b : Bool} (h : a = true ↔ b = true) : b2n a = b2n b := by
  rw [Bool.eq_iff_iff.mpr h]
theorem CtI.of_ext (h1 : Mtr e r1) (h2 : Mtr e r2) (hc : CtI r1 r2 e C W P Q) (hf : r1 (2 ^ e - 1) = r2 (2 ^ e - 1)) (h : ExtP r1 r2 e 0 0 im) : CExt P Q C W e 0 0 im ∧ C 0 = W 0 := by
  have he := h1.1
  have hp := h.pm
  obtain ⟨⟨G, g1, g2⟩, ⟨H, k1, k2⟩, p1, p2⟩ := hc
  have gh : ∀ s, s < 2 ^ e → G s = H (imS im e s) := fun s hs => by
    rw [g1 s hs, k1 _ (imS_lt hp)]
    refine b2n_iff ?_
    rw [bsB_iff, bsB_iff, h.ranks h1 h2 hs, imS_bc he hp _ _ (Nat.le_refl _) hs, hf]
  have cw : ∀ s, s < 2 ^ e → C s = W (imS im e s) := fun s hs => by
    rw [g2 s hs, k2 _ (imS_lt hp)]
    exact sg_im he hp gh hs
  have prf : ∀ k, k < e → prfN C e (2 ^ e) k = prfN W e (2 ^ e) (im k) := fun k hk => by
    unfold prfN
    rw [if_pos hk, if_pos (hp.1 k hk), ← sum_im he hp (fun t => if t.testBit (im k) = true then trm W t else 0)]
    refine sI_congr _ (fun s hs => ?_)
    show (if s.testBit k = true then trm C s else 0) = (if (imS im e s).testBit (im k) = true then trm W (imS im e s) else 0)
    rw [imS_at hp hk]
    unfold trm
    rw [cw s hs, imS_bc he hp _ _ (Nat.le_refl _) hs]
  refine ⟨fun k _ hk => ⟨hp.1 k hk, Nat.zero_testBit _, (h k (Nat.zero_le k) hk).2.2.1, ?_, fun s hs => ?_⟩, ?_⟩
  · rw [p1 k hk, p2 _ (hp.1 k hk), prf k hk]
  · have hle : 2 ^ (k + 1) ≤ 2 ^ e := Nat.pow_le_pow_right (by decide) hk
    rw [Nat.pow_succ] at hle
    rw [imO_top hs hk, sum_or hs]
    refine cw _ ?_
    rw [← sum_or hs]
    omega
  · have q := cw 0 (p2_pos e)
    rw [imS_zero] at q
    exact q
theorem CtI.to_ext (h1 : Mtr e r1) (h2 : Mtr e r2) (hc : CtI r1 r2 e C W P Q) (h0 : C 0 = W 0) (h : CExt P Q C W e 0 0 im) : ExtP r1 r2 e 0 0 im ∧ r1 (2 ^ e - 1) = r2 (2 ^ e - 1) := by
  have he := h1.1
  have hp := h.pm
  have hz := p2_pos e
  obtain ⟨⟨G, g1, g2⟩, ⟨H, k1, k2⟩, p1, p2⟩ := hc
  have cw : ∀ s, s < 2 ^ e → C s = W (imS im e s) := fun s hs => by
    refine by_top (p := fun s => C s = W (imS im e s)) ?_ (fun k s hk hs2 => ?_) hs
    · show C 0 = W (imS im e 0)
      rw [imS_zero]; exact h0
    · have q := (h k (Nat.zero_le k) hk).2.2.2.2 s hs2
      rw [imO_top hs2 hk, sum_or hs2] at q
      exact q
  have gh : ∀ s, s < 2 ^ e → G s = H (imS im e s) := fun s hs => im_sg he hp (fun j hj => by
    rw [← g2 j hj, ← k2 _ (imS_lt hp)]
    exact cw j hj) hs
  have rr : ∀ s, s < 2 ^ e → r1 s = r2 (imS im e s) := fun s hs => rk_bases h1 h2 hp (fun s hs => by
    have q := gh s hs
    rw [g1 s hs, k1 _ (imS_lt hp)] at q
    cases hb1 : bsB r1 e s <;> cases hb2 : bsB r2 e (imS im e s)
    · exact Iff.rfl
    · rw [hb1, hb2] at q; cases q
    · rw [hb1, hb2] at q; cases q
    · exact Iff.rfl) hs
  refine ⟨fun k _ hk => ⟨hp.1 k hk, Nat.zero_testBit _, (h k (Nat.zero_le k) hk).2.2.1, fun s hs => ?_⟩, ?_⟩
  · have hle : 2 ^ (k + 1) ≤ 2 ^ e := Nat.pow_le_pow_right (by decide) hk
    rw [Nat.pow_succ] at hle
    rw [imO_top hs hk]
    refine rr _ ?_
    rw [← sum_or hs]
    omega
  · rw [rr _ (show 2 ^ e - 1 < 2 ^ e by omega), im_full he hp]
theorem ntz_p2 : ∀ i, i < 10 → ntz (2 ^ i) = i := by decide +kernel
theorem sgN_zero {p : Nat → Bool} {G : Nat → Nat} (h : ∀ j, j < 2 ^ e → G j = b2n (p j)) : sgN G e 0 = cnt p (2 ^ e) := by
  have q := sg_all (G := G) (p2_pos e)
  rw [sI_congr (b := fun t => if p t = true then 1 else 0) _ (fun t ht => by
    rw [Nat.zero_and, if_pos rfl, h t ht]
    cases p t <;> rfl), sumI_bool] at q
  omega
theorem lok_at {G W0 : Nat → Nat} {j : Nat} (hj : j < 2 ^ e) : lokN G e W0 j = sgN G e j := if_pos hj
theorem alk_same (h1 : Mtr e r1) (h2 : Mtr e r2) {sf C0 W0 Im0 : Nat → Nat} {e2 con del : Nat} (hl : bc (lftN e2 con del) = e) (hm : ∀ j, j < 2 ^ e → (sf (depN (lftN e2 con del) con e2 j) &&& 2 != 0) = bsB r1 e j) (h0 : Im0 0 = 0) : (alkN sf C0 (wntS (sortN r2 e) W0 e) Im0 (prfS (sortN r2 e) W0 e) e e2 con del = true ∧ r1 (2 ^ e - 1) = r2 (2 ^ e - 1) ∧ ∃ im, ExtP r1 r2 e 0 0 im ∧ (∀ im2 : Nat → Nat, ExtP r1 r2 e 0 0 im2 → LexLe e im im2) ∧ ∀ k, k < e → ntz ((plcN (prfA sf C0 e e2 con del) (prfS (sortN r2 e) W0 e) (cntA sf C0 e e2 con del) (wntS (sortN r2 e) W0 e) e e 0 0 Im0).2 (2 ^ k)) = im k) ∨ (alkN sf C0 (wntS (sortN r2 e) W0 e) Im0 (prfS (sortN r2 e) W0 e) e e2 con del = false ∧ ¬ (r1 (2 ^ e - 1) = r2 (2 ^ e - 1) ∧ ∃ im2 : Nat → Nat, ExtP r1 r2 e 0 0 im2)) := by
  have he := h1.1
  have hz := p2_pos e
  have hc : CtI r1 r2 e (cntA sf C0 e e2 con del) (wntS (sortN r2 e) W0 e) (prfA sf C0 e e2 con del) (prfS (sortN r2 e) W0 e) := by
    refine ⟨⟨fun j => basN sf (depN (lftN e2 con del) con e2 j), fun j hj => ?_, fun j hj => lok_at hj⟩, ⟨basN (sortN r2 e), fun j hj => ?_, fun j hj => lok_at hj⟩, fun j _ => rfl, fun j _ => rfl⟩
    · show b2n _ = _
      rw [hm j hj]
    · show b2n _ = _
      rw [sortB9]
  have c0 : cnt (fun j => sf (depN (lftN e2 con del) con e2 j) &&& 2 != 0) (2 ^ e) = cntA sf C0 e e2 con del 0 := by
    rw [show cntA sf C0 e e2 con del 0 = sgN (fun j => basN sf (depN (lftN e2 con del) con e2 j)) e 0 from lok_at hz]
    exact (sgN_zero (fun j _ => rfl)).symm
  have pl := plc_ok (P := prfA sf C0 e e2 con del) (Q := prfS (sortN r2 e) W0 e) (C := cntA sf C0 e e2 con del) (W := wntS (sortN r2 e) W0 e) (e := e) e 0 0 Im0 (fun _ => 0) (by omega) (fun s hs => by
    have : s = 0 := by rw [Nat.pow_zero] at hs; omega
    subst this
    exact h0)
  by_cases iso : r1 (2 ^ e - 1) = r2 (2 ^ e - 1) ∧ ∃ im2 : Nat → Nat, ExtP r1 r2 e 0 0 im2
  · obtain ⟨hf, im2, hx⟩ := iso
    obtain ⟨hx1, hx2⟩ := hc.of_ext h1 h2 hf hx
    rcases pl with ⟨p1, im', -, p3, p4, p5⟩ | ⟨-, -, p3⟩
    · have hx' := hc.to_ext h1 h2 hx2 p4
      refine Or.inl ⟨?_, hf, im', hx'.1, fun im3 h3 => p5 im3 (fun j hj => absurd hj (Nat.not_lt_zero j)) (hc.of_ext h1 h2 hf h3).1, fun k hk => ?_⟩
      · unfold alkN
        rw [decide_eq_true hl, c0, decide_eq_true hx2, p1]
        have sam : samN (prfA sf C0 e e2 con del) (prfS (sortN r2 e) W0 e) e = true := by
          unfold samN
          rw [allB_iff]
          intro el _
          refine decide_eq_true ?_
          have hp := hx1.pm
          have q := sumI_perm (N := e) (π := im2) (fun o => if decide (prfS (sortN r2 e) W0 e o = prfA sf C0 e e2 con del el) = true then 1 else 0) hp.1 (fun s t hs ht z => hp.2 s t hs ht z) (fun t ht => pm_sur he hp ht)
          have q2 := sumI_bool (p := fun o => decide (prfA sf C0 e e2 con del o = prfA sf C0 e e2 con del el)) e
          rw [sI_congr (b := fun s => (fun o => if decide (prfS (sortN r2 e) W0 e o = prfA sf C0 e e2 con del el) = true then (1 : Int) else 0) (im2 s)) e (fun o ho => by
            have := (hx1 o (Nat.zero_le o) ho).2.2.2.1
            show (if decide (prfA sf C0 e e2 con del o = _) = true then (1 : Int) else 0) = (if decide (prfS (sortN r2 e) W0 e (im2 o) = _) = true then (1 : Int) else 0)
            rw [this]), q, sumI_bool (p := fun o => decide (prfS (sortN r2 e) W0 e o = prfA sf C0 e e2 con del el))] at q2
          omega
        rw [sam]; rfl
      · have hp := hx'.1.pm
        rw [p3 (2 ^ k) (bit_lt hk)]
        have e1 : imO im' (2 ^ k) 0 e = 2 ^ im' k := by
          have q := imS_or (im := im') (s := 0) hk
          rw [imS_zero, Nat.zero_or, Nat.zero_or] at q
          exact q
        rw [e1]
        have := hp.1 k hk
        exact ntz_p2 _ (by omega)
    · exact absurd hx1 (p3 im2 (fun j hj => absurd hj (Nat.not_lt_zero j)))
  · refine Or.inr ⟨?_, iso⟩
    rw [Bool.eq_false_iff]
    intro hv
    unfold alkN at hv
    rw [c0, Bool.and_eq_true, Bool.and_eq_true, Bool.and_eq_true, decide_eq_true_eq, decide_eq_true_eq] at hv
    obtain ⟨⟨⟨-, v2⟩, -⟩, v4⟩ := hv
    rcases pl with ⟨-, im', -, -, p4, -⟩ | ⟨p1, -, -⟩
    · obtain ⟨y1, y2⟩ := hc.to_ext h1 h2 v2 p4
      exact iso ⟨y2, im', y1⟩
    · rw [p1] at v4; cases v4
theorem dep_id : ∀ k, k ≤ e → ∀ j, j < 2 ^ k → depN (2 ^ e - 1) 0 k j = j := by
  have hc : ∀ k, k ≤ e → cnt (fun t => (2 ^ e - 1).testBit t) k = k := by
    intro k
    induction k with
    | zero => intro _; rfl
    | succ k ih =>
      intro hk
      show cnt (fun t => (2 ^ e - 1).testBit t) k + (if (2 ^ e - 1).testBit k = true then 1 else 0) = k + 1
      rw [if_pos (all1 (show k < e by omega)), ih (by omega)]
  intro k
  induction k with
  | zero => intro _ j hj; rw [Nat.pow_zero] at hj; show 0 = j; omega
  | succ k ih =>
    intro hk j hj
    unfold depN
    rw [if_pos (all1 (show k < e by omega)), hc k (by omega)]
    by_cases g : j < 2 ^ k
    · rw [if_pos g]; exact ih (by omega) j g
    · have hj2 : j - 2 ^ k < 2 ^ k := by rw [Nat.pow_succ] at hj; omega
      rw [if_neg g, ih (by omega) _ hj2, ← sum_or hj2]
      omega
theorem LexLe.anti {a b : Nat → Nat} (h1 : LexLe e a b) (h2 : LexLe e b a) : ∀ j, j < e → a j = b j := by
  rcases h1 with z | ⟨k, k1, k2, k3⟩
  · exact z
  · rcases h2 with y | ⟨m, m1, m2, m3⟩
    · exact fun j hj => (y j hj).symm
    · exfalso
      rcases Nat.lt_trichotomy k m with w | w | w
      · have := m2 k w; omega
      · subst w; omega
      · have := k2 m w; omega
theorem alike_same {e1 e2 : Nat} (h1 : Mtr e1 r1) (h2 : Mtr e2 r2) {v v2 : Bool} {Im im : Nat → Nat} (h : AlkP r1 e1 r2 e2 v Im) (h3 : IsoG r1 e1 r2 e2 v2 im) : v = v2 ∧ (v = true → ∀ k, k < e1 → ntz (Im (2 ^ k)) = im k) := by
  obtain ⟨C0, W0, Im0, a0, a1, a2⟩ := h
  have lf : lftN e1 0 0 = 2 ^ e1 - 1 := by
    unfold lftN sdf
    rw [Nat.and_zero, Nat.xor_zero, Nat.and_zero, Nat.xor_zero]
  by_cases ee : e1 = e2
  · subst ee
    have q := alk_same h1 h2 (sf := sortN r1 e1) (C0 := C0) (W0 := W0) (Im0 := Im0) (e2 := e1) (con := 0) (del := 0) (by rw [lf]; exact bc_all e1 (by have := h1.1; omega)) (fun j hj => by rw [lf, dep_id e1 (Nat.le_refl _) j hj, sortB9]) a0
    rw [← a1] at q
    rcases h3 with ⟨i1, -, i3, i4, i5⟩ | ⟨i1, i2⟩
    · subst i1
      rcases q with ⟨q1, -, im', q3, q4, q5⟩ | ⟨-, q2⟩
      · refine ⟨q1, fun hv k hk => ?_⟩
        rw [a2 hv, q5 k hk]
        exact (LexLe.anti (q4 im i4) (i5 im' q3)) k hk
      · exact absurd ⟨i3, im, i4⟩ q2
    · subst i1
      rcases q with ⟨q1, q2, im', q3, -⟩ | ⟨q1, -⟩
      · exact absurd ⟨rfl, q2, im', q3⟩ i2
      · exact ⟨q1, fun hv => by rw [q1] at hv; cases hv⟩
  · have hv : v = false := by
      rw [a1]
      unfold alkN
      rw [lf, bc_all e1 (by have := h1.1; omega), decide_eq_false ee]; rfl
    rcases h3 with ⟨-, i2, -⟩ | ⟨i1, -⟩
    · exact absurd i2 ee
    · exact ⟨by rw [hv, i1], fun y => by rw [hv] at y; cases y⟩
end Ay
