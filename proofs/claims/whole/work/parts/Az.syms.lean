/-! The mathematics: the number of symmetries is the same -/
section Az
variable {e : Nat} {rk : Nat → Nat} {P Q : Nat → Int32} {C W : Nat → Nat}
theorem imO_cut {im : Nat → Nat} {s b k : Nat} (hs : s < 2 ^ k) : ∀ n, imO im s b (k + n) = imO im s b k := by
  intro n
  induction n with
  | zero => rfl
  | succ n ih =>
    have hle : 2 ^ k ≤ 2 ^ (k + n) := Nat.pow_le_pow_right (by decide) (by omega)
    rw [show k + (n + 1) = (k + n) + 1 by omega, imO_low (by omega), ih]
theorem imO_id {s b k : Nat} {im : Nat → Nat} (hi : ∀ j, j < k → im j = j) (hs : s < 2 ^ k) : imO im s b k = s ||| b := by
  apply Nat.eq_of_testBit_eq
  intro i
  rw [Bool.eq_iff_iff, imO_bit, Nat.testBit_or, Bool.or_eq_true]
  constructor
  · rintro (z | ⟨j, j1, j2, j3⟩)
    · exact Or.inr z
    · rw [hi j j1] at j3
      subst j3
      exact Or.inl j2
  · rintro (z | z)
    · exact Or.inr ⟨i, bit_lt10 hs z, z, hi i (bit_lt10 hs z)⟩
    · exact Or.inl z
theorem used_bit {k t i : Nat} : ((2 ^ k - 1) ||| 2 ^ t).testBit i = false ↔ ¬ i < k ∧ t ≠ i := by
  rw [Nat.testBit_or, Nat.testBit_two_pow_sub_one, p2_testBit, Bool.or_eq_false_iff, decide_eq_false_iff_not, decide_eq_false_iff_not]
theorem aut_ext {k t : Nat} (hk : k < e) (hkt : k ≤ t) (ht : t < e) : AutP rk e k t ↔ ∃ im : Nat → Nat, (∀ j, j < k → im j = j) ∧ im k = t ∧ ExtP rk rk e 0 0 im := by
  constructor
  · rintro ⟨im, h1, h2, h3, h4⟩
    refine ⟨im, h1, h2, fun m _ hm => ?_⟩
    rcases Nat.lt_trichotomy m k with g | g | g
    · rw [h1 m g]
      refine ⟨hm, Nat.zero_testBit _, fun j _ hj z => ?_, fun s hs => ?_⟩
      · rw [h1 j (by omega)] at z; omega
      · rw [h1 m g, imO_id (fun j hj => h1 j (by omega)) hs]
    · subst g
      rw [h2]
      refine ⟨ht, Nat.zero_testBit _, fun j _ hj z => ?_, by have := h3; exact this⟩
      rw [h1 j hj] at z; omega
    · obtain ⟨a1, a2, a3, a4⟩ := h4 m g hm
      obtain ⟨b1, b2⟩ := used_bit.mp a2
      refine ⟨a1, Nat.zero_testBit _, fun j _ hj z => ?_, a4⟩
      rcases Nat.lt_trichotomy j k with y | y | y
      · rw [h1 j y] at z; omega
      · subst y; rw [h2] at z; exact b2 z
      · exact a3 j y hj z
  · rintro ⟨im, h1, h2, h3⟩
    have hp := h3.pm
    refine ⟨im, h1, h2, (h3 k (Nat.zero_le k) hk).2.2.2, fun m hm1 hm => ?_⟩
    obtain ⟨a1, a2, a3, a4⟩ := h3 m (Nat.zero_le m) hm
    refine ⟨a1, used_bit.mpr ⟨fun z => ?_, fun z => ?_⟩, fun j hj1 hj2 => a3 j (Nat.zero_le j) hj2, a4⟩
    · have := a3 (im m) (Nat.zero_le _) (by omega)
      rw [h1 _ z] at this
      exact this rfl
    · have := a3 k (Nat.zero_le _) (by omega)
      rw [h2] at this
      exact this z
theorem place_ext {Im : Nat → Nat} {k t : Nat} (hk : k < e) (hkt : k < t) (ht : t < e) (hPQ : ∀ j, j < e → P j = Q j) (hCW : ∀ j, j < 2 ^ e → C j = W j) (hIm : ∀ s, s < 2 ^ k → Im s = imO (fun j => j) s 0 k) : (fitN P Q C W Im k t = true ∧ (plcN P Q C W e (e - (k + 1)) (k + 1) ((2 ^ k - 1) ||| 2 ^ t) (putN Im k t)).1 = true) ↔ ∃ im : Nat → Nat, (∀ j, j < k → im j = j) ∧ im k = t ∧ CExt P Q C W e 0 0 im := by
  have pl := plc_ok (P := P) (Q := Q) (C := C) (W := W) (e := e) (e - (k + 1)) (k + 1) ((2 ^ k - 1) ||| 2 ^ t) (putN Im k t) (up (fun j => j) k t) (by omega) (put_im hIm)
  constructor
  · rintro ⟨h1, h2⟩
    rw [fit_is hIm] at h1
    rcases pl with ⟨-, im', q1, -, q3, -⟩ | ⟨q1, -, -⟩
    · have i1 : ∀ j, j < k → im' j = j := fun j hj => by rw [q1 j (by omega), up_n (by omega)]
      have i2 : im' k = t := by rw [q1 k (by omega), up_s]
      refine ⟨im', i1, i2, fun m _ hm => ?_⟩
      rcases Nat.lt_trichotomy m k with g | g | g
      · rw [i1 m g]
        refine ⟨hm, Nat.zero_testBit _, fun j _ hj z => ?_, hPQ m hm, fun s hs => ?_⟩
        · rw [i1 j (by omega)] at z; omega
        · have hle : 2 ^ (m + 1) ≤ 2 ^ e := Nat.pow_le_pow_right (by decide) hm
          rw [Nat.pow_succ] at hle
          rw [imO_id (fun j hj => i1 j (by omega)) hs, ← sum_or hs]
          exact hCW _ (by omega)
      · subst g
        rw [i2]
        refine ⟨ht, Nat.zero_testBit _, fun j _ hj z => ?_, h1.1, fun s hs => ?_⟩
        · rw [i1 j hj] at z; omega
        · rw [h1.2 s hs]
          exact congrArg W (imO_cg m (fun j hj => (i1 j hj).symm))
      · obtain ⟨a1, a2, a3, a4⟩ := q3 m g hm
        obtain ⟨b1, b2⟩ := used_bit.mp a2
        refine ⟨a1, Nat.zero_testBit _, fun j _ hj z => ?_, a4⟩
        rcases Nat.lt_trichotomy j k with y | y | y
        · rw [i1 j y] at z; omega
        · subst y; rw [i2] at z; exact b2 z
        · exact a3 j y hj z
    · rw [q1] at h2; cases h2
  · rintro ⟨im, h1, h2, h3⟩
    obtain ⟨c1, c2, c3, c4, c5⟩ := h3 k (Nat.zero_le k) hk
    refine ⟨(fit_is hIm).mpr ⟨by rw [← h2]; exact c4, fun s hs => ?_⟩, ?_⟩
    · rw [c5 s hs, h2]
      exact congrArg W (imO_cg k (fun j hj => h1 j hj))
    · rcases pl with ⟨q1, -⟩ | ⟨-, -, q3⟩
      · exact q1
      · exfalso
        refine q3 im (fun j hj => ?_) (fun m hm1 hm => ?_)
        · by_cases g : j = k
          · subst g; rw [up_s]; exact h2
          · rw [up_n g]; exact h1 j (by omega)
        · obtain ⟨a1, a2, a3, a4⟩ := h3 m (Nat.zero_le m) hm
          refine ⟨a1, used_bit.mpr ⟨fun z => ?_, fun z => ?_⟩, fun j hj1 hj2 => a3 j (Nat.zero_le j) hj2, a4⟩
          · have := a3 (im m) (Nat.zero_le _) (by omega)
            rw [h1 _ z] at this
            exact this rfl
          · have := a3 k (Nat.zero_le _) (by omega)
            rw [h2] at this
            exact this z
theorem place_aut (hM : Mtr e rk) (hc : CtI rk rk e C W P Q) (hPQ : ∀ j, j < e → P j = Q j) (hCW : ∀ j, j < 2 ^ e → C j = W j) {Im : Nat → Nat} {k t : Nat} (hk : k < e) (hkt : k < t) (ht : t < e) (hIm : ∀ s, s < 2 ^ k → Im s = imO (fun j => j) s 0 k) : (fitN P Q C W Im k t = true ∧ (plcN P Q C W e (e - (k + 1)) (k + 1) ((2 ^ k - 1) ||| 2 ^ t) (putN Im k t)).1 = true) ↔ AutP rk e k t := by
  rw [place_ext hk hkt ht hPQ hCW hIm, aut_ext hk (by omega) ht]
  constructor
  · rintro ⟨im, h1, h2, h3⟩
    exact ⟨im, h1, h2, (hc.to_ext hM hM (hCW 0 (p2_pos e)) h3).1⟩
  · rintro ⟨im, h1, h2, h3⟩
    exact ⟨im, h1, h2, (hc.of_ext hM hM rfl h3).1⟩
theorem cim_ok (hM : Mtr e rk) (hc : CtI rk rk e C W P Q) (hPQ : ∀ j, j < e → P j = Q j) (hCW : ∀ j, j < 2 ^ e → C j = W j) {A : Nat → Nat → Bool} (hA : ∀ k t, A k t = true ↔ AutP rk e k t) {Im : Nat → Nat} {k : Nat} (hk : k < e) (hIm : ∀ s, s < 2 ^ k → Im s = imO (fun j => j) s 0 k) : ∀ t, k + 1 + t ≤ e → (cimN P Q C W e k Im t).1 = symC A k (k + 1 + t) ∧ ∀ s, s < 2 ^ k → (cimN P Q C W e k Im t).2 s = imO (fun j => j) s 0 k := by
  have akk : A k k = true := (hA k k).mpr ((aut_ext hk (Nat.le_refl k) hk).mpr ⟨fun j => j, fun _ _ => rfl, rfl, fun m _ hm => ⟨hm, Nat.zero_testBit _, fun j _ hj z => (by have z2 : j = m := z; omega), fun s hs => by rw [imO_id (fun _ _ => rfl) hs]⟩⟩)
  intro t
  induction t with
  | zero =>
    intro _
    refine ⟨?_, hIm⟩
    show 1 = symC A k k + (if (decide (k ≤ k) && A k k) = true then 1 else 0)
    rw [symC_lo k (Nat.le_refl k), decide_eq_true (Nat.le_refl k), akk]; rfl
  | succ t ih =>
    intro ht
    obtain ⟨i1, i2⟩ := ih (by omega)
    have st : symC A k (k + 1 + (t + 1)) = symC A k (k + 1 + t) + (if A k (k + 1 + t) = true then 1 else 0) := by
      show symC A k (k + 1 + t) + (if (decide (k ≤ k + 1 + t) && A k (k + 1 + t)) = true then 1 else 0) = _
      rw [decide_eq_true (show k ≤ k + 1 + t by omega), Bool.true_and]
    have pa := place_aut hM hc hPQ hCW hk (show k < k + 1 + t by omega) (by omega) i2
    have pl := plc_ok (P := P) (Q := Q) (C := C) (W := W) (e := e) (e - (k + 1)) (k + 1) ((2 ^ k - 1) ||| 2 ^ (k + 1 + t)) (putN (cimN P Q C W e k Im t).2 k (k + 1 + t)) (up (fun j => j) k (k + 1 + t)) (by omega) (put_im i2)
    have hp := p2_pos k
    have hle : 2 ^ (k + 1) ≤ 2 ^ e := Nat.pow_le_pow_right (by decide) hk
    have hk2 : 2 ^ (k + 1) = 2 ^ k + 2 ^ k := by rw [Nat.pow_succ]; omega
    unfold cimN
    rw [st, ← i1]
    by_cases g : fitN P Q C W (cimN P Q C W e k Im t).2 k (k + 1 + t) = true
    · rw [if_pos g]
      refine ⟨?_, fun s hs => ?_⟩
      · show (cimN P Q C W e k Im t).1 + b2n _ = _
        by_cases ga : A k (k + 1 + t) = true
        · rw [if_pos ga, (pa.mpr ((hA _ _).mp ga)).2]; rfl
        · rw [if_neg ga]
          have : ¬ (plcN P Q C W e (e - (k + 1)) (k + 1) ((2 ^ k - 1) ||| 2 ^ (k + 1 + t)) (putN (cimN P Q C W e k Im t).2 k (k + 1 + t))).1 = true := fun z => ga ((hA _ _).mpr (pa.mp ⟨g, z⟩))
          rw [Bool.not_eq_true] at this
          rw [this]; rfl
      · show (plcN P Q C W e (e - (k + 1)) (k + 1) ((2 ^ k - 1) ||| 2 ^ (k + 1 + t)) (putN (cimN P Q C W e k Im t).2 k (k + 1 + t))).2 s = _
        rcases pl with ⟨-, im', q1, q2, -, -⟩ | ⟨-, q2, -⟩
        · rw [q2 s (by omega), show e = k + (e - k) by omega, imO_cut hs]
          exact imO_cg k (fun j hj => by rw [q1 j (by omega), up_n (by omega)])
        · rw [q2 s (by omega)]
          unfold putN
          rw [if_neg (by omega)]
          exact i2 s hs
    · rw [if_neg g]
      refine ⟨?_, i2⟩
      have : ¬ A k (k + 1 + t) = true := fun z => g (pa.mpr ((hA _ _).mp z)).1
      rw [if_neg this]; rfl
theorem sym_same (hM : Mtr e rk) {v : Nat} (h : SymP rk e v) {A : Nat → Nat → Bool} (hA : ∀ k t, A k t = true ↔ AutP rk e k t) : v = symM A e e := by
  obtain ⟨C0, W0, Im, P0, h0, hv⟩ := h
  have wl : ∀ j, j < 2 ^ e → wntS (sortN rk e) W0 e j = sgN (basN (sortN rk e)) e j := fun j hj => lok_at hj
  have cw : ∀ j, j < 2 ^ e → cntS (sortN rk e) W0 C0 e j = wntS (sortN rk e) W0 e j := fun j hj => if_pos hj
  have pq : ∀ j, j < e → prgS (sortN rk e) W0 P0 e j = prfS (sortN rk e) W0 e j := fun j hj => if_pos hj
  have mk : ∀ j, j < 2 ^ e → basN (sortN rk e) j = b2n (bsB rk e j) := fun j _ => by
    show b2n _ = _
    rw [sortB9]
  have hc : CtI rk rk e (cntS (sortN rk e) W0 C0 e) (wntS (sortN rk e) W0 e) (prgS (sortN rk e) W0 P0 e) (prfS (sortN rk e) W0 e) := by
    refine ⟨⟨basN (sortN rk e), mk, fun j hj => by rw [cw j hj, wl j hj]⟩, ⟨basN (sortN rk e), mk, wl⟩, fun j hj => ?_, fun j _ => rfl⟩
    rw [pq j hj]
    unfold prfS
    refine congrArg Int32.ofInt ?_
    unfold prfN
    rw [if_pos hj, if_pos hj]
    refine sI_congr _ (fun s hs => ?_)
    unfold trm
    rw [cw s hs]
  have key : ∀ k, k ≤ e → (symN (prgS (sortN rk e) W0 P0 e) (prfS (sortN rk e) W0 e) (cntS (sortN rk e) W0 C0 e) (wntS (sortN rk e) W0 e) e Im k).1 = symM A e k ∧ ∀ s, s < 2 ^ k → (symN (prgS (sortN rk e) W0 P0 e) (prfS (sortN rk e) W0 e) (cntS (sortN rk e) W0 C0 e) (wntS (sortN rk e) W0 e) e Im k).2 s = imO (fun j => j) s 0 k := by
    intro k
    induction k with
    | zero =>
      intro _
      refine ⟨rfl, fun s hs => ?_⟩
      have : s = 0 := by rw [Nat.pow_zero] at hs; omega
      subst this
      exact h0
    | succ k ih =>
      intro hk
      obtain ⟨i1, i2⟩ := ih (by omega)
      obtain ⟨c1, c2⟩ := cim_ok hM hc pq cw hA (show k < e by omega) i2 (e - (k + 1)) (by omega)
      rw [show k + 1 + (e - (k + 1)) = e by omega] at c1
      unfold symN
      refine ⟨?_, ?_⟩
      · show _ * _ = symM A e k * symC A k e
        rw [i1, c1]
      · intro s hs
        show putN _ k k s = _
        rw [put_im c2 s hs]
        exact imO_cg (k + 1) (fun j hj => by
          by_cases g : j = k
          · subst g; rw [up_s]
          · rw [up_n g])
  rw [hv]
  exact (key e (Nat.le_refl e)).1
end Az
