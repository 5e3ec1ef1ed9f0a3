/-! Circuitfold$Elimination (X3) -/
abbrev aV (n : Nat) (g : Nat → Nat) : Ob := aI .int n (fun j => ((g j : Nat) : Int))
abbrev oElim (f rows n cq rq pq : Nat) : Ob := oF 5 [I f, I rows, I n, .ref cq, .ref rq, .ref pq]
abbrev aRR (n : Nat) (r : Nat → Nat) : Ob := aR (.array .int) n (fun j => if j < n then some (r j) else none)
theorem ne_oa {h : AH} {a q la lq : Nat} {x : Nat × List Value} {y : FieldType × vp_A} (h1 : h a = some (la, .inr x)) (h2 : h q = some (lq, .inl y)) : a ≠ q := by
  intro e
  subst e
  rw [h1] at h2
  cases h2
/-- the first entry that is not 0, -1 if there is none -/
def fstE (g : Nat → Nat) (n : Nat) : Int := match fst (fun r => g r != 0) n with
  | some r => (r : Int)
  | none => -1
def invN (f z : Nat) : Nat := match fst (fun k => (k + 1) * z % f == 1) (f - 1) with
  | some k => k + 1
  | none => 1
def addV (f : Nat) (v w : Nat → Nat) (t : Nat) : Nat → Nat := fun r => (v r + t * w r) % f
def redS (f rows : Nat) (R : Nat → Nat → Nat) (P : Nat → Int) (v : Nat → Nat) : Nat → (Nat → Nat)
  | 0 => v
  | k + 1 => if 0 ≤ P k ∧ P k < rows ∧ redS f rows R P v k (P k).toNat ≠ 0 then addV f (redS f rows R P v k) (R k) (f - redS f rows R P v k (P k).toNat) else redS f rows R P v k
def finV (f rows : Nat) (v : Nat → Nat) : Nat → Nat := if 0 ≤ fstE v rows then addV f v v (invN f (v (fstE v rows).toNat) - 1) else v
theorem addV_lt {f : Nat} {v w : Nat → Nat} {t r : Nat} (hf : 0 < f) : addV f v w t r < f := Nat.mod_lt _ hf
theorem redS_lt {f rows : Nat} {R : Nat → Nat → Nat} {P : Nat → Int} {v : Nat → Nat} (hf : 0 < f) (hv : ∀ r, r < rows → v r < f) : ∀ k r, r < rows → redS f rows R P v k r < f := by
  intro k
  induction k with
  | zero => exact hv
  | succ k ih =>
    intro r hr
    unfold redS
    split
    · exact addV_lt hf
    · exact ih r hr
theorem finV_lt {f rows : Nat} {v : Nat → Nat} (hf : 0 < f) (hv : ∀ r, r < rows → v r < f) : ∀ r, r < rows → finV f rows v r < f := by
  intro r hr
  unfold finV
  split
  · exact addV_lt hf
  · exact hv r hr
theorem fst_spec {p : Nat → Bool} {n : Nat} : (fst p n = none ∧ ∀ j, j < n → p j = false) ∨ (∃ i, i < n ∧ fst p n = some i ∧ p i = true ∧ ∀ j, j < i → p j = false) := by
  induction n with
  | zero => exact Or.inl ⟨rfl, fun j hj => absurd hj (Nat.not_lt_zero j)⟩
  | succ n ih =>
    rcases ih with ⟨h1, h2⟩ | ⟨i, h1, h2, h3, h4⟩
    · cases e : p n with
      | true => exact Or.inr ⟨n, by omega, by unfold fst; rw [h1]; simp [e], e, h2⟩
      | false =>
        refine Or.inl ⟨by unfold fst; rw [h1]; simp [e], fun j hj => ?_⟩
        rcases Nat.lt_succ_iff_lt_or_eq.mp hj with q | q
        · exact h2 j q
        · subst q; exact e
    · exact Or.inr ⟨i, by omega, by unfold fst; rw [h2], h3, h4⟩
theorem fstE_rng (g : Nat → Nat) (n : Nat) : -1 ≤ fstE g n ∧ fstE g n < n := by
  unfold fstE
  rcases fst_spec (p := fun r => g r != 0) (n := n) with ⟨h1, -⟩ | ⟨i, h1, h2, -⟩
  · rw [h1]; dsimp only; omega
  · rw [h2]; dsimp only; omega
theorem invN_rng {f z : Nat} (hf : 2 ≤ f) : 1 ≤ invN f z ∧ invN f z < f := by
  unfold invN
  rcases fst_spec (p := fun k => (k + 1) * z % f == 1) (n := f - 1) with ⟨h1, -⟩ | ⟨i, h1, h2, -⟩
  · rw [h1]; dsimp only; omega
  · rw [h2]; dsimp only; omega
section C31
variable {l : Launch} {D : va_G} {S0 : State}
set_option maxRecDepth 100000 in
theorem c_X3_put (hW : WOK l D S0) (d : Nat) {h : AH} {a la f rows n cq rq pq l2 lc el row : Nat} {z : Int} {rc : Nat → Nat} {C : Nat → Int} (h1 : h a = some (la, oElim f rows n cq rq pq)) (h2 : h cq = some (l2, aRR n rc)) (hel : el < n) (h3 : h (rc el) = some (lc, aI .int rows C)) (hrow : row < rows) (hn : n ≤ 10) (hr : rows ≤ 10) : MA l D S0 yX3_put cX3_put 4 none d [.ref a, I (el : Int), I (row : Int), I z] h 0 0 (fun r h' => r = none ∧ h' = hset h (rc el) (lc, aI .int rows (up C row z))) (fun _ _ => False) := by
  refine MA.start hW (by decide) [.val (.ref a), .val (I (el : Int)), .val (I (row : Int)), .val (I z)] rfl ?_
  rintro X rfl rfl rfl hX
  refine wa_iload_n hX (i := 1) dX3_put_0 rfl rfl ?_
  refine wi_if_lt hX (tgt := 33) dX3_put_1 (by decide) (by omega) (fun c1 => ?_) (fun c1 => ?_)
  · skip
    refine wa_vret hX dX3_put_33 ?_
    first | (exfalso; omega) | exact ⟨rfl, rfl⟩
  · skip
    refine wa_iload_n hX (i := 1) dX3_put_4 rfl rfl ?_
    refine wa_aload_n hX (i := 0) dX3_put_5 rfl rfl ?_
    refine wa_get hX 2 (by assumption) (by rfl) (by decide +kernel) dX3_put_6 ?_
    refine wi_icmp_ge hX (tgt := 33) dX3_put_9 (by decide) (by omega) (by omega) (fun c9 => ?_) (fun c9 => ?_)
    · skip
      refine wa_vret hX dX3_put_33 ?_
      first | (exfalso; omega) | exact ⟨rfl, rfl⟩
    · skip
      refine wa_iload_n hX (i := 2) dX3_put_12 rfl rfl ?_
      refine wi_if_lt hX (tgt := 33) dX3_put_13 (by decide) (by omega) (fun c13 => ?_) (fun c13 => ?_)
      · skip
        refine wa_vret hX dX3_put_33 ?_
        first | (exfalso; omega) | exact ⟨rfl, rfl⟩
      · skip
        refine wa_iload_n hX (i := 2) dX3_put_16 rfl rfl ?_
        refine wa_aload_n hX (i := 0) dX3_put_17 rfl rfl ?_
        refine wa_get hX 1 (by assumption) (by rfl) (by decide +kernel) dX3_put_18 ?_
        refine wi_icmp_ge hX (tgt := 33) dX3_put_21 (by decide) (by omega) (by omega) (fun c21 => ?_) (fun c21 => ?_)
        · skip
          refine wa_vret hX dX3_put_33 ?_
          first | (exfalso; omega) | exact ⟨rfl, rfl⟩
        · skip
          refine wa_aload_n hX (i := 0) dX3_put_24 rfl rfl ?_
          refine wa_get hX 3 (by assumption) (by rfl) (by decide +kernel) dX3_put_25 ?_
          refine wa_iload_n hX (i := 1) dX3_put_28 rfl rfl ?_
          refine wi_aaloadA hX h2 (by omega) (by omega) (by omega) dX3_put_29 ?_
          rw [Int.toNat_natCast, if_pos hel]
          refine wa_iload_n hX (i := 2) dX3_put_30 rfl rfl ?_
          refine wa_iload_n hX (i := 3) dX3_put_31 rfl rfl ?_
          refine wi_iastore hX h3 (by omega) (by omega) (by omega) dX3_put_32 ?_
          refine wa_vret hX dX3_put_33 ?_
          first | (exfalso; omega) | exact ⟨rfl, rfl⟩
set_option maxRecDepth 100000 in
theorem c_X3_get (hW : WOK l D S0) (d : Nat) {h : AH} {a la f rows n cq rq pq l2 lc el row : Nat} {rc : Nat → Nat} {C : Nat → Int} (h1 : h a = some (la, oElim f rows n cq rq pq)) (h2 : h cq = some (l2, aRR n rc)) (hel : el < n) (h3 : h (rc el) = some (lc, aI .int rows C)) (hrow : row < rows) (hn : n ≤ 10) (hr : rows ≤ 10) : MA l D S0 yX3_get cX3_get 4 (some .int) d [.ref a, I (el : Int), I (row : Int)] h 0 0 (fun r h' => r = some (I (C row)) ∧ h' = h) (fun _ _ => False) := by
  refine MA.start hW (by decide) [.val (.ref a), .val (I (el : Int)), .val (I (row : Int)), .unset] rfl ?_
  rintro X rfl rfl rfl hX
  refine wa_iload_n hX (i := 1) dX3_get_0 rfl rfl ?_
  refine wi_if_lt hX (tgt := 28) dX3_get_1 (by decide) (by omega) (fun c1 => ?_) (fun c1 => ?_)
  · skip
    refine wi_iconst hX dX3_get_28 ?_
    refine wa_istore_n hX (i := 3) dX3_get_29 rfl rfl ?_
    dsimp only [List.set]
    refine wa_iload_n hX (i := 3) dX3_get_30 rfl rfl ?_
    refine wi_if_eq hX (tgt := 45) dX3_get_31 (by decide) (by omega) (fun c31 => ?_) (fun c31 => ?_)
    · skip
      refine wi_iconst hX dX3_get_45 ?_
      refine wa_iret hX dX3_get_46 ?_
      first | (exfalso; omega) | exact ⟨rfl, rfl⟩
    · skip
      refine wa_aload_n hX (i := 0) dX3_get_34 rfl rfl ?_
      refine wa_get hX 3 (by assumption) (by rfl) (by decide +kernel) dX3_get_35 ?_
      refine wa_iload_n hX (i := 1) dX3_get_38 rfl rfl ?_
      refine wi_aaloadA hX h2 (by omega) (by omega) (by omega) dX3_get_39 ?_
      rw [Int.toNat_natCast, if_pos hel]
      refine wa_iload_n hX (i := 2) dX3_get_40 rfl rfl ?_
      refine wi_iaload hX h3 (by omega) (by omega) (by omega) dX3_get_41 ?_
      refine wa_goto hX (tgt := 46) dX3_get_42 (by decide) ?_
      refine wa_iret hX dX3_get_46 ?_
      first | (exfalso; omega) | exact ⟨rfl, rfl⟩
  · skip
    refine wa_iload_n hX (i := 1) dX3_get_4 rfl rfl ?_
    refine wa_aload_n hX (i := 0) dX3_get_5 rfl rfl ?_
    refine wa_get hX 2 (by assumption) (by rfl) (by decide +kernel) dX3_get_6 ?_
    refine wi_icmp_ge hX (tgt := 28) dX3_get_9 (by decide) (by omega) (by omega) (fun c9 => ?_) (fun c9 => ?_)
    · skip
      refine wi_iconst hX dX3_get_28 ?_
      refine wa_istore_n hX (i := 3) dX3_get_29 rfl rfl ?_
      dsimp only [List.set]
      refine wa_iload_n hX (i := 3) dX3_get_30 rfl rfl ?_
      refine wi_if_eq hX (tgt := 45) dX3_get_31 (by decide) (by omega) (fun c31 => ?_) (fun c31 => ?_)
      · skip
        refine wi_iconst hX dX3_get_45 ?_
        refine wa_iret hX dX3_get_46 ?_
        first | (exfalso; omega) | exact ⟨rfl, rfl⟩
      · skip
        refine wa_aload_n hX (i := 0) dX3_get_34 rfl rfl ?_
        refine wa_get hX 3 (by assumption) (by rfl) (by decide +kernel) dX3_get_35 ?_
        refine wa_iload_n hX (i := 1) dX3_get_38 rfl rfl ?_
        refine wi_aaloadA hX h2 (by omega) (by omega) (by omega) dX3_get_39 ?_
        rw [Int.toNat_natCast, if_pos hel]
        refine wa_iload_n hX (i := 2) dX3_get_40 rfl rfl ?_
        refine wi_iaload hX h3 (by omega) (by omega) (by omega) dX3_get_41 ?_
        refine wa_goto hX (tgt := 46) dX3_get_42 (by decide) ?_
        refine wa_iret hX dX3_get_46 ?_
        first | (exfalso; omega) | exact ⟨rfl, rfl⟩
    · skip
      refine wa_iload_n hX (i := 2) dX3_get_12 rfl rfl ?_
      refine wi_if_lt hX (tgt := 28) dX3_get_13 (by decide) (by omega) (fun c13 => ?_) (fun c13 => ?_)
      · skip
        refine wi_iconst hX dX3_get_28 ?_
        refine wa_istore_n hX (i := 3) dX3_get_29 rfl rfl ?_
        dsimp only [List.set]
        refine wa_iload_n hX (i := 3) dX3_get_30 rfl rfl ?_
        refine wi_if_eq hX (tgt := 45) dX3_get_31 (by decide) (by omega) (fun c31 => ?_) (fun c31 => ?_)
        · skip
          refine wi_iconst hX dX3_get_45 ?_
          refine wa_iret hX dX3_get_46 ?_
          first | (exfalso; omega) | exact ⟨rfl, rfl⟩
        · skip
          refine wa_aload_n hX (i := 0) dX3_get_34 rfl rfl ?_
          refine wa_get hX 3 (by assumption) (by rfl) (by decide +kernel) dX3_get_35 ?_
          refine wa_iload_n hX (i := 1) dX3_get_38 rfl rfl ?_
          refine wi_aaloadA hX h2 (by omega) (by omega) (by omega) dX3_get_39 ?_
          rw [Int.toNat_natCast, if_pos hel]
          refine wa_iload_n hX (i := 2) dX3_get_40 rfl rfl ?_
          refine wi_iaload hX h3 (by omega) (by omega) (by omega) dX3_get_41 ?_
          refine wa_goto hX (tgt := 46) dX3_get_42 (by decide) ?_
          refine wa_iret hX dX3_get_46 ?_
          first | (exfalso; omega) | exact ⟨rfl, rfl⟩
      · skip
        refine wa_iload_n hX (i := 2) dX3_get_16 rfl rfl ?_
        refine wa_aload_n hX (i := 0) dX3_get_17 rfl rfl ?_
        refine wa_get hX 1 (by assumption) (by rfl) (by decide +kernel) dX3_get_18 ?_
        refine wi_icmp_ge hX (tgt := 28) dX3_get_21 (by decide) (by omega) (by omega) (fun c21 => ?_) (fun c21 => ?_)
        · skip
          refine wi_iconst hX dX3_get_28 ?_
          refine wa_istore_n hX (i := 3) dX3_get_29 rfl rfl ?_
          dsimp only [List.set]
          refine wa_iload_n hX (i := 3) dX3_get_30 rfl rfl ?_
          refine wi_if_eq hX (tgt := 45) dX3_get_31 (by decide) (by omega) (fun c31 => ?_) (fun c31 => ?_)
          · skip
            refine wi_iconst hX dX3_get_45 ?_
            refine wa_iret hX dX3_get_46 ?_
            first | (exfalso; omega) | exact ⟨rfl, rfl⟩
          · skip
            refine wa_aload_n hX (i := 0) dX3_get_34 rfl rfl ?_
            refine wa_get hX 3 (by assumption) (by rfl) (by decide +kernel) dX3_get_35 ?_
            refine wa_iload_n hX (i := 1) dX3_get_38 rfl rfl ?_
            refine wi_aaloadA hX h2 (by omega) (by omega) (by omega) dX3_get_39 ?_
            rw [Int.toNat_natCast, if_pos hel]
            refine wa_iload_n hX (i := 2) dX3_get_40 rfl rfl ?_
            refine wi_iaload hX h3 (by omega) (by omega) (by omega) dX3_get_41 ?_
            refine wa_goto hX (tgt := 46) dX3_get_42 (by decide) ?_
            refine wa_iret hX dX3_get_46 ?_
            first | (exfalso; omega) | exact ⟨rfl, rfl⟩
        · skip
          refine wi_iconst hX dX3_get_24 ?_
          refine wa_goto hX (tgt := 29) dX3_get_25 (by decide) ?_
          refine wa_istore_n hX (i := 3) dX3_get_29 rfl rfl ?_
          dsimp only [List.set]
          refine wa_iload_n hX (i := 3) dX3_get_30 rfl rfl ?_
          refine wi_if_eq hX (tgt := 45) dX3_get_31 (by decide) (by omega) (fun c31 => ?_) (fun c31 => ?_)
          · skip
            refine wi_iconst hX dX3_get_45 ?_
            refine wa_iret hX dX3_get_46 ?_
            first | (exfalso; omega) | exact ⟨rfl, rfl⟩
          · skip
            refine wa_aload_n hX (i := 0) dX3_get_34 rfl rfl ?_
            refine wa_get hX 3 (by assumption) (by rfl) (by decide +kernel) dX3_get_35 ?_
            refine wa_iload_n hX (i := 1) dX3_get_38 rfl rfl ?_
            refine wi_aaloadA hX h2 (by omega) (by omega) (by omega) dX3_get_39 ?_
            rw [Int.toNat_natCast, if_pos hel]
            refine wa_iload_n hX (i := 2) dX3_get_40 rfl rfl ?_
            refine wi_iaload hX h3 (by omega) (by omega) (by omega) dX3_get_41 ?_
            refine wa_goto hX (tgt := 46) dX3_get_42 (by decide) ?_
            refine wa_iret hX dX3_get_46 ?_
            first | (exfalso; omega) | exact ⟨rfl, rfl⟩
set_option maxRecDepth 100000 in
theorem c_X3_pivotAt (hW : WOK l D S0) (d : Nat) {h : AH} {a la f rows n cq rq pq lp j : Nat} {P : Nat → Int} (h1 : h a = some (la, oElim f rows n cq rq pq)) (h2 : h pq = some (lp, aI .int n P)) (hj : j < n) (hn : n ≤ 10) : MA l D S0 yX3_pivotAt cX3_pivotAt 2 (some .int) d [.ref a, I (j : Int)] h 0 0 (fun r h' => r = some (I (P j)) ∧ h' = h) (fun _ _ => False) := by
  refine MA.start hW (by decide) [.val (.ref a), .val (I (j : Int))] rfl ?_
  rintro X rfl rfl rfl hX
  refine wa_iload_n hX (i := 1) dX3_pivotAt_0 rfl rfl ?_
  refine wi_if_lt hX (tgt := 22) dX3_pivotAt_1 (by decide) (by omega) (fun c1 => ?_) (fun c1 => ?_)
  · skip
    refine wi_iconst hX dX3_pivotAt_22 ?_
    refine wa_iret hX dX3_pivotAt_23 ?_
    first | (exfalso; omega) | exact ⟨rfl, rfl⟩
  · skip
    refine wa_iload_n hX (i := 1) dX3_pivotAt_4 rfl rfl ?_
    refine wa_aload_n hX (i := 0) dX3_pivotAt_5 rfl rfl ?_
    refine wa_get hX 5 (by assumption) (by rfl) (by decide +kernel) dX3_pivotAt_6 ?_
    refine wa_len hX (by assumption) dX3_pivotAt_9 ?_
    refine wi_icmp_ge hX (tgt := 22) dX3_pivotAt_10 (by decide) (by omega) (by omega) (fun c10 => ?_) (fun c10 => ?_)
    · skip
      refine wi_iconst hX dX3_pivotAt_22 ?_
      refine wa_iret hX dX3_pivotAt_23 ?_
      first | (exfalso; omega) | exact ⟨rfl, rfl⟩
    · skip
      refine wa_aload_n hX (i := 0) dX3_pivotAt_13 rfl rfl ?_
      refine wa_get hX 5 (by assumption) (by rfl) (by decide +kernel) dX3_pivotAt_14 ?_
      refine wa_iload_n hX (i := 1) dX3_pivotAt_17 rfl rfl ?_
      refine wi_iaload hX (by assumption) (by omega) (by omega) (by omega) dX3_pivotAt_18 ?_
      refine wa_goto hX (tgt := 23) dX3_pivotAt_19 (by decide) ?_
      refine wa_iret hX dX3_pivotAt_23 ?_
      first | (exfalso; omega) | exact ⟨rfl, rfl⟩
set_option maxRecDepth 100000 in
theorem c_X3_firstEntry (hW : WOK l D S0) (d : Nat) {h : AH} {a q lq n : Nat} {g : Nat → Nat} (h2 : h q = some (lq, aV n g)) (hn : n ≤ 10) (hg : ∀ r, r < n → g r < 5) : MA l D S0 yX3_firstEntry cX3_firstEntry 3 (some .int) d [.ref a, .ref q] h 0 0 (fun r h' => r = some (I (fstE g n)) ∧ h' = h) (fun _ _ => False) := by
  refine MA.start hW (by decide) [.val (.ref a), .val (.ref q), .unset] rfl ?_
  rintro X rfl rfl rfl hX
  refine wi_iconst hX dX3_firstEntry_0 ?_
  refine wa_istore_n hX (i := 2) dX3_firstEntry_1 rfl rfl ?_
  dsimp only [List.set]
  refine WA.loop (σ := Nat) (fun j => n - j) (fun j => j ≤ n ∧ ∀ t, t < j → (g t != 0) = false) (fun _ => h) (fun j => [.val (.ref a), .val (.ref q), .val (I (j : Nat))]) ?_ 0 ⟨Nat.zero_le _, fun t ht => absurd ht (Nat.not_lt_zero t)⟩
  rintro j ⟨hj, hf⟩ ih
  refine wa_iload_n hX (i := 2) dX3_firstEntry_2 rfl rfl ?_
  refine wa_aload_n hX (i := 1) dX3_firstEntry_3 rfl rfl ?_
  refine wa_len hX (by assumption) dX3_firstEntry_4 ?_
  refine wi_icmp_ge hX (tgt := 22) dX3_firstEntry_5 (by decide) (by omega) (by omega) (fun c5 => ?_) (fun c5 => ?_)
  · skip
    refine wi_iconst hX dX3_firstEntry_22 ?_
    refine wa_iret hX dX3_firstEntry_23 ?_
    refine ⟨?_, rfl⟩
    unfold fstE
    rw [fst_none (fun t ht => hf t (by omega))]
  · skip
    refine wa_aload_n hX (i := 1) dX3_firstEntry_8 rfl rfl ?_
    refine wa_iload_n hX (i := 2) dX3_firstEntry_9 rfl rfl ?_
    refine wi_iaload hX (by assumption) (by omega) (by omega) (by omega) dX3_firstEntry_10 ?_
    have hgj := hg j (by omega)
    rw [Int.toNat_natCast]
    refine wi_if_eq hX (tgt := 16) dX3_firstEntry_11 (by decide) (by omega) (fun c11 => ?_) (fun c11 => ?_)
    · skip
      refine wi_iinc hX dX3_firstEntry_16 rfl ?_
      dsimp only [List.set]
      refine wa_goto hX (tgt := 2) dX3_firstEntry_19 (by decide) ?_
      refine ih (j + 1) ⟨by omega, fun t ht => ?_⟩ (by omega)
      rcases Nat.lt_succ_iff_lt_or_eq.mp ht with e9 | e9
      · exact hf t e9
      · subst e9; simp; omega
    · skip
      refine wa_iload_n hX (i := 2) dX3_firstEntry_14 rfl rfl ?_
      refine wa_iret hX dX3_firstEntry_15 ?_
      refine ⟨?_, rfl⟩
      unfold fstE
      rw [fst_some (show j < n by omega) hf (show (g j != 0) = true by simp; omega)]
set_option maxRecDepth 100000 in
theorem c_X3_inverseOf (hW : WOK l D S0) (d : Nat) {h : AH} {a la f rows n cq rq pq z : Nat} (h1 : h a = some (la, oElim f rows n cq rq pq)) (hf2 : 2 ≤ f) (hf5 : f ≤ 5) (hz : z < 5) : MA l D S0 yX3_inverseOf cX3_inverseOf 3 (some .int) (d + 1) [.ref a, I (z : Int)] h 0 0 (fun r h' => r = some (I (invN f z : Nat)) ∧ h' = h) (fun _ _ => False) := by
  refine MA.start hW (by decide) [.val (.ref a), .val (I (z : Int)), .unset] rfl ?_
  rintro X rfl rfl rfl hX
  refine wi_iconst hX dX3_inverseOf_0 ?_
  refine wa_istore_n hX (i := 2) dX3_inverseOf_1 rfl rfl ?_
  dsimp only [List.set]
  refine WA.loop (σ := Nat) (fun j => f - j) (fun j => j + 1 ≤ f ∧ ∀ t, t < j → ((t + 1) * z % f == 1) = false) (fun _ => h) (fun j => [.val (.ref a), .val (I (z : Int)), .val (I ((j + 1 : Nat) : Int))]) ?_ 0 ⟨by omega, fun t ht => absurd ht (Nat.not_lt_zero t)⟩
  rintro j ⟨hj, hf⟩ ih
  have hm : (j + 1) * z ≤ 5 * 5 := Nat.mul_le_mul (by omega) (by omega)
  have hmod := Nat.mod_lt ((j + 1) * z) (show 0 < f by omega)
  refine wa_iload_n hX (i := 2) dX3_inverseOf_2 rfl rfl ?_
  refine wa_aload_n hX (i := 0) dX3_inverseOf_3 rfl rfl ?_
  refine wa_get hX 0 (by assumption) (by rfl) (by decide +kernel) dX3_inverseOf_4 ?_
  refine wi_icmp_ge hX (tgt := 32) dX3_inverseOf_7 (by decide) (by omega) (by omega) (fun c7 => ?_) (fun c7 => ?_)
  · skip
    refine wi_iconst hX dX3_inverseOf_32 ?_
    refine wa_iret hX dX3_inverseOf_33 ?_
    refine ⟨?_, rfl⟩
    unfold invN
    rw [fst_none (fun t ht => hf t (by omega))]
    rfl
  · skip
    refine wa_iload_n hX (i := 2) dX3_inverseOf_10 rfl rfl ?_
    refine wa_iload_n hX (i := 1) dX3_inverseOf_11 rfl rfl ?_
    refine wi_imul hX dX3_inverseOf_12 ?_
    rw [show (((j + 1 : Nat) : Int) * (z : Int)) = (((j + 1) * z : Nat) : Int) from (Int.natCast_mul _ _).symm]
    refine wa_aload_n hX (i := 0) dX3_inverseOf_13 rfl rfl ?_
    refine wa_get hX 0 (by assumption) (by rfl) (by decide +kernel) dX3_inverseOf_14 ?_
    refine wa_callS hX (c_J9_floorMod hW d (a := (j + 1) * z) (b := f) (by omega) (by omega) (by omega)) (by rfl) (by omega) (nA := 2) (by rfl) (by decide +kernel) rfl (by exact Nat.le_of_ble_eq_true rfl) dX3_inverseOf_17 (fun r17 h17 p17 => ?_) (fun _ _ q => q.elim)
    obtain ⟨rfl, qq17⟩ := p17; subst h17
    dsimp only [Option.toList, List.cons_append, List.nil_append]
    refine wi_iconst hX dX3_inverseOf_20 ?_
    refine wi_icmp_ne hX (tgt := 26) dX3_inverseOf_21 (by decide) (by omega) (by omega) (fun c21 => ?_) (fun c21 => ?_)
    · skip
      refine wi_iinc hX dX3_inverseOf_26 rfl ?_
      dsimp only [List.set]
      refine wa_goto hX (tgt := 2) dX3_inverseOf_29 (by decide) ?_
      refine ih (j + 1) ⟨by omega, fun t ht => ?_⟩ (by omega)
      rcases Nat.lt_succ_iff_lt_or_eq.mp ht with e9 | e9
      · exact hf t e9
      · subst e9; simp; omega
    · skip
      refine wa_iload_n hX (i := 2) dX3_inverseOf_24 rfl rfl ?_
      refine wa_iret hX dX3_inverseOf_25 ?_
      refine ⟨?_, rfl⟩
      unfold invN
      rw [fst_some (show j < f - 1 by omega) hf (show ((j + 1) * z % f == 1) = true by simp; omega)]
set_option maxRecDepth 100000 in
theorem c_X3_addTimes (hW : WOK l D S0) (d : Nat) {h : AH} {a la f rows n cq rq pq q lq q2 l2 t : Nat} {g g2 : Nat → Nat} (h1 : h a = some (la, oElim f rows n cq rq pq)) (h2 : h q = some (lq, aV rows g)) (h3 : h q2 = some (l2, aV rows g2)) (hq : q2 = q → g2 = g) (hf2 : 2 ≤ f) (hf5 : f ≤ 5) (hr : rows ≤ 10) (ht : t ≤ 5) (hg : ∀ r, r < rows → g r < 5) (hg2 : ∀ r, r < rows → g2 r < 5) : MA l D S0 yX3_addTimes cX3_addTimes 5 none (d + 1) [.ref a, .ref q, .ref q2, I (t : Int)] h 0 0 (fun r h' => r = none ∧ h' = hset h q (lq, aV rows (addV f g g2 t))) (fun _ _ => False) := by
  have haq := ne_oa h1 h2
  refine MA.start hW (by decide) [.val (.ref a), .val (.ref q), .val (.ref q2), .val (I (t : Int)), .unset] rfl ?_
  rintro X rfl rfl rfl hX
  refine wi_iconst hX dX3_addTimes_0 ?_
  refine wa_istore hX dX3_addTimes_1 rfl ?_
  dsimp only [List.set]
  refine WA.heap (hset_self h2).symm ?_
  refine WA.loop (σ := Nat × (Nat → Int)) (fun z => rows - z.1) (fun z => z.1 ≤ rows ∧ ∀ j, j < rows → z.2 j = ((if j < z.1 then addV f g g2 t j else g j : Nat) : Int)) (fun z => hset h q (lq, aI .int rows z.2)) (fun z => [.val (.ref a), .val (.ref q), .val (.ref q2), .val (I (t : Int)), .val (I (z.1 : Nat))]) ?_ (0, (fun j => ((g j : Nat) : Int))) ⟨Nat.zero_le _, fun j hj => by rw [if_neg (Nat.not_lt_zero j)]⟩
  rintro ⟨i, G⟩ ⟨hi, hG⟩ ih
  dsimp only at hi hG ⊢
  have h2i : hset h q (lq, aI .int rows G) q = some (lq, aI .int rows G) := hset_eq
  have h1i : hset h q (lq, aI .int rows G) a = some (la, oElim f rows n cq rq pq) := (hset_ne haq).trans h1
  have h3i : ∃ l3 G2, hset h q (lq, aI .int rows G) q2 = some (l3, aI .int rows G2) ∧ ∀ j, j < rows → i ≤ j → G2 j = ((g2 j : Nat) : Int) := by
    by_cases e : q2 = q
    · rw [e]
      refine ⟨lq, G, hset_eq, fun j hj hij => ?_⟩
      rw [hG j hj, if_neg (by omega), hq e]
    · exact ⟨l2, _, (hset_ne e).trans h3, fun j _ _ => rfl⟩
  obtain ⟨l3, G2, h3i, hG2⟩ := h3i
  refine wa_iload hX dX3_addTimes_3 rfl ?_
  refine wa_aload_n hX (i := 1) dX3_addTimes_5 rfl rfl ?_
  refine wa_len hX (by assumption) dX3_addTimes_6 ?_
  refine wi_icmp_ge hX (tgt := 45) dX3_addTimes_7 (by decide) (by omega) (by omega) (fun c7 => ?_) (fun c7 => ?_)
  · skip
    refine WA.ext9 (fun j => ((addV f g g2 t j : Nat) : Int)) h2i (fun j hj => by rw [hG j hj, if_pos (by omega)]) ?_
    rw [hset_hset]
    refine wa_vret hX dX3_addTimes_45 ?_
    exact ⟨rfl, rfl⟩
  · skip
    refine wa_iload hX dX3_addTimes_10 rfl ?_
    refine wa_aload_n hX (i := 2) dX3_addTimes_12 rfl rfl ?_
    refine wa_len hX (by assumption) dX3_addTimes_13 ?_
    refine wi_icmp_ge hX (tgt := 45) dX3_addTimes_14 (by decide) (by omega) (by omega) (fun c14 => ?_) (fun c14 => ?_)
    · skip
      refine WA.ext9 (fun j => ((addV f g g2 t j : Nat) : Int)) h2i (fun j hj => by rw [hG j hj, if_pos (by omega)]) ?_
      rw [hset_hset]
      refine wa_vret hX dX3_addTimes_45 ?_
      exact ⟨rfl, rfl⟩
    · skip
      refine wa_aload_n hX (i := 1) dX3_addTimes_17 rfl rfl ?_
      refine wa_iload hX dX3_addTimes_18 rfl ?_
      refine wa_aload_n hX (i := 1) dX3_addTimes_20 rfl rfl ?_
      refine wa_iload hX dX3_addTimes_21 rfl ?_
      refine wi_iaload hX h2i (by omega) (by omega) (by omega) dX3_addTimes_23 ?_
      refine wa_iload_n hX (i := 3) dX3_addTimes_24 rfl rfl ?_
      refine wa_aload_n hX (i := 2) dX3_addTimes_25 rfl rfl ?_
      refine wa_iload hX dX3_addTimes_26 rfl ?_
      refine wi_iaload hX h3i (by omega) (by omega) (by omega) dX3_addTimes_28 ?_
      refine wi_imul hX dX3_addTimes_29 ?_
      refine wi_iadd hX dX3_addTimes_30 ?_
      have hgi := hg i (by omega)
      have hg2i := hg2 i (by omega)
      have hm : t * g2 i ≤ 5 * 5 := Nat.mul_le_mul ht (by omega)
      rw [show (G (i : Int).toNat + (t : Int) * G2 (i : Int).toNat) = ((g i + t * g2 i : Nat) : Int) by
        rw [Int.toNat_natCast, hG i (by omega), if_neg (Nat.lt_irrefl i), hG2 i (by omega) (Nat.le_refl i), Int.natCast_add, Int.natCast_mul]]
      refine wa_aload_n hX (i := 0) dX3_addTimes_31 rfl rfl ?_
      refine wa_get hX 0 (by assumption) (by rfl) (by decide +kernel) dX3_addTimes_32 ?_
      refine wa_callS hX (c_J9_floorMod hW d (a := g i + t * g2 i) (b := f) (by omega) (by omega) (by omega)) (by rfl) (by omega) (nA := 2) (by rfl) (by decide +kernel) rfl (by exact Nat.le_of_ble_eq_true rfl) dX3_addTimes_35 (fun r35 h35 p35 => ?_) (fun _ _ q => q.elim)
      obtain ⟨rfl, qq35⟩ := p35; subst h35
      dsimp only [Option.toList, List.cons_append, List.nil_append]
      refine wi_iastore hX h2i (by omega) (by omega) (by omega) dX3_addTimes_38 ?_
      rw [hset_hset]
      refine wi_iinc hX dX3_addTimes_39 rfl ?_
      dsimp only [List.set]
      refine wa_goto hX (tgt := 3) dX3_addTimes_42 (by decide) ?_
      refine ih (i + 1, up G (i : Int).toNat (((g i + t * g2 i) % f : Nat) : Int)) ⟨by show i + 1 ≤ rows; omega, fun j hj => ?_⟩ (by show rows - (i + 1) < rows - i; omega)
      dsimp only
      rw [up_is, Int.toNat_natCast]
      by_cases e9 : j = i
      · subst e9; rw [if_pos rfl, if_pos (by omega)]; rfl
      · rw [if_neg e9, hG j hj]
        by_cases e5 : j < i
        · rw [if_pos e5, if_pos (by omega)]
        · rw [if_neg e5, if_neg (by omega)]
end C31
