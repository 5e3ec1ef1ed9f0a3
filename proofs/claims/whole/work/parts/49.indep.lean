/-! What Likeness finds does not hang on what lay in its arrays before -/
theorem sumI_congr {f g : Nat → Int} {n : Nat} (h : ∀ j, j < n → f j = g j) : sumI f n = sumI g n := by
  induction n with
  | zero => rfl
  | succ n ih => rw [sumI_succ, sumI_succ, ih (fun j hj => h j (by omega)), h n (by omega)]
theorem prfN_congr {C C' : Nat → Nat} {e N : Nat} (h : ∀ j, j < N → C j = C' j) : prfN C e N = prfN C' e N := by
  funext el
  unfold prfN
  split
  · refine sumI_congr (fun j hj => ?_)
    split
    · unfold trm; rw [h j hj]
    · rfl
  · rfl
theorem fitN_congr {P Q : Nat → Int32} {C C' W Im Im' : Nat → Nat} {el im N : Nat} (hN : 2 ^ el + 2 ^ el ≤ N) (hC : ∀ j, j < N → C j = C' j) (hI : ∀ j, j < 2 ^ el → Im j = Im' j) : fitN P Q C W Im el im = fitN P Q C' W Im' el im := by
  unfold fitN
  congr 1
  rw [Bool.eq_iff_iff, allB_iff, allB_iff]
  constructor
  · intro h k hk
    have := h k hk
    rw [hC _ (by omega), hI k hk] at this
    exact this
  · intro h k hk
    rw [hC _ (by omega), hI k hk]
    exact h k hk
theorem putN_congr {Im Im' : Nat → Nat} {el im : Nat} (hI : ∀ j, j < 2 ^ el → Im j = Im' j) : ∀ j, j < 2 ^ (el + 1) → putN Im el im j = putN Im' el im j := by
  intro j hj
  rw [Nat.pow_succ] at hj
  unfold putN
  by_cases h : 2 ^ el ≤ j ∧ j < 2 ^ el + 2 ^ el
  · rw [if_pos h, if_pos h, hI _ (by omega)]
  · rw [if_neg h, if_neg h, hI _ (by omega)]
theorem putN_low {Im : Nat → Nat} {el im j : Nat} (hj : j < 2 ^ el) : putN Im el im j = Im j := by
  unfold putN
  rw [if_neg (by omega)]
theorem plcN_congr {P Q : Nat → Int32} {C C' W : Nat → Nat} {e : Nat} (hC : ∀ j, j < 2 ^ e → C j = C' j) : ∀ (f el used : Nat) (Im Im' : Nat → Nat), el + f = e → (∀ j, j < 2 ^ el → Im j = Im' j) → (plcN P Q C W e f el used Im).1 = (plcN P Q C' W e f el used Im').1 ∧ (∀ j, j < 2 ^ el → (plcN P Q C W e f el used Im).2 j = Im j) ∧ (∀ j, j < 2 ^ el → (plcN P Q C' W e f el used Im').2 j = Im' j) ∧ ((plcN P Q C W e f el used Im).1 = true → ∀ j, j < 2 ^ e → (plcN P Q C W e f el used Im).2 j = (plcN P Q C' W e f el used Im').2 j) := by
  intro f
  induction f with
  | zero =>
    intro el used Im Im' hef hI
    refine ⟨rfl, fun j _ => rfl, fun j _ => rfl, fun _ j hj => hI j ?_⟩
    rw [show el = e by omega]
    exact hj
  | succ f IH =>
    intro el used Im Im' hef hI
    have hle : 2 ^ el + 2 ^ el ≤ 2 ^ e := by
      have := p2_mono (show el + 1 ≤ e by omega)
      rw [Nat.pow_succ] at this
      omega
    have key : ∀ n, (tryL (fun n I9 => plcN P Q C W e f (el + 1) (used ||| 2 ^ n) (putN I9 el n)) (fun n I9 => !used.testBit n && fitN P Q C W I9 el n) Im n).1 = (tryL (fun n I9 => plcN P Q C' W e f (el + 1) (used ||| 2 ^ n) (putN I9 el n)) (fun n I9 => !used.testBit n && fitN P Q C' W I9 el n) Im' n).1 ∧ (∀ j, j < 2 ^ el → (tryL (fun n I9 => plcN P Q C W e f (el + 1) (used ||| 2 ^ n) (putN I9 el n)) (fun n I9 => !used.testBit n && fitN P Q C W I9 el n) Im n).2 j = Im j) ∧ (∀ j, j < 2 ^ el → (tryL (fun n I9 => plcN P Q C' W e f (el + 1) (used ||| 2 ^ n) (putN I9 el n)) (fun n I9 => !used.testBit n && fitN P Q C' W I9 el n) Im' n).2 j = Im' j) ∧ ((tryL (fun n I9 => plcN P Q C W e f (el + 1) (used ||| 2 ^ n) (putN I9 el n)) (fun n I9 => !used.testBit n && fitN P Q C W I9 el n) Im n).1 = true → ∀ j, j < 2 ^ e → (tryL (fun n I9 => plcN P Q C W e f (el + 1) (used ||| 2 ^ n) (putN I9 el n)) (fun n I9 => !used.testBit n && fitN P Q C W I9 el n) Im n).2 j = (tryL (fun n I9 => plcN P Q C' W e f (el + 1) (used ||| 2 ^ n) (putN I9 el n)) (fun n I9 => !used.testBit n && fitN P Q C' W I9 el n) Im' n).2 j) := by
      intro n
      induction n with
      | zero => exact ⟨rfl, fun j _ => rfl, fun j _ => rfl, fun q => (by cases q)⟩
      | succ n ih =>
        generalize hT : tryL (fun n I9 => plcN P Q C W e f (el + 1) (used ||| 2 ^ n) (putN I9 el n)) (fun n I9 => !used.testBit n && fitN P Q C W I9 el n) Im n = T at ih
        generalize hT' : tryL (fun n I9 => plcN P Q C' W e f (el + 1) (used ||| 2 ^ n) (putN I9 el n)) (fun n I9 => !used.testBit n && fitN P Q C' W I9 el n) Im' n = T' at ih
        have e1 : tryL (fun n I9 => plcN P Q C W e f (el + 1) (used ||| 2 ^ n) (putN I9 el n)) (fun n I9 => !used.testBit n && fitN P Q C W I9 el n) Im (n + 1) = (if T.1 = true then T else if (!used.testBit n && fitN P Q C W T.2 el n) = true then plcN P Q C W e f (el + 1) (used ||| 2 ^ n) (putN T.2 el n) else T) := by rw [← hT]; rfl
        have e2 : tryL (fun n I9 => plcN P Q C' W e f (el + 1) (used ||| 2 ^ n) (putN I9 el n)) (fun n I9 => !used.testBit n && fitN P Q C' W I9 el n) Im' (n + 1) = (if T'.1 = true then T' else if (!used.testBit n && fitN P Q C' W T'.2 el n) = true then plcN P Q C' W e f (el + 1) (used ||| 2 ^ n) (putN T'.2 el n) else T') := by rw [← hT']; rfl
        rw [e1, e2]
        obtain ⟨i1, i2, i3, i4⟩ := ih
        have hTT : ∀ j, j < 2 ^ el → T.2 j = T'.2 j := fun j hj => by rw [i2 j hj, i3 j hj, hI j hj]
        have hfit : fitN P Q C W T.2 el n = fitN P Q C' W T'.2 el n := fitN_congr hle hC hTT
        rw [← i1, ← hfit]
        by_cases h1 : T.1 = true
        · rw [if_pos h1, if_pos h1]; exact ⟨i1, i2, i3, i4⟩
        · rw [if_neg h1, if_neg h1]
          by_cases h2 : (!used.testBit n && fitN P Q C W T.2 el n) = true
          · rw [if_pos h2, if_pos h2]
            obtain ⟨r1, r2, r3, r4⟩ := IH (el + 1) (used ||| 2 ^ n) (putN T.2 el n) (putN T'.2 el n) (by omega) (putN_congr hTT)
            have hlow : ∀ j, j < 2 ^ el → j < 2 ^ (el + 1) := fun j hj => by rw [Nat.pow_succ]; omega
            exact ⟨r1, fun j hj => by rw [r2 j (hlow j hj), putN_low hj, i2 j hj], fun j hj => by rw [r3 j (hlow j hj), putN_low hj, i3 j hj], r4⟩
          · rw [if_neg h2, if_neg h2]; exact ⟨i1, i2, i3, i4⟩
    exact key e
/-- .. found, told without the arrays -/
def alk0 (sf W : Nat → Nat) (Q : Nat → Int32) (e e2 con del : Nat) : Bool := alkN sf (fun _ => 0) W (fun _ => 0) Q e e2 con del
theorem cntA_congr {sf C C' : Nat → Nat} {e e2 con del : Nat} : ∀ j, j < 2 ^ e → cntA sf C e e2 con del j = cntA sf C' e e2 con del j := by
  intro j hj
  unfold cntA lokN
  rw [if_pos hj, if_pos hj]
theorem prfA_congr {sf C C' : Nat → Nat} {e e2 con del : Nat} : prfA sf C e e2 con del = prfA sf C' e e2 con del := by
  unfold prfA
  rw [prfN_congr (C := cntA sf C e e2 con del) (C' := cntA sf C' e e2 con del) (cntA_congr)]
theorem alkN_is {sf C W Im : Nat → Nat} {Q : Nat → Int32} {e e2 con del : Nat} (h0 : Im 0 = 0) : alkN sf C W Im Q e e2 con del = alk0 sf W Q e e2 con del := by
  unfold alk0 alkN
  rw [prfA_congr (C := C) (C' := fun _ => 0)]
  have h1 := (plcN_congr (P := prfA sf (fun _ => 0) e e2 con del) (Q := Q) (C := cntA sf C e e2 con del) (C' := cntA sf (fun _ => 0) e e2 con del) (W := W) (e := e) cntA_congr e 0 0 Im (fun _ => 0) (by omega) (fun j hj => by
    have : j = 0 := by omega
    subst this
    exact h0)).1
  rw [h1]
