/-! Circuitfold$Likeness (X5): countImages, symmetriesOf -/
def cimN (P Q : Nat → Int32) (C W : Nat → Nat) (e el : Nat) (Im : Nat → Nat) : Nat → Nat × (Nat → Nat)
  | 0 => (1, Im)
  | t + 1 => if fitN P Q C W (cimN P Q C W e el Im t).2 el (el + 1 + t) = true then ((cimN P Q C W e el Im t).1 + b2n (plcN P Q C W e (e - (el + 1)) (el + 1) ((2 ^ el - 1) ||| 2 ^ (el + 1 + t)) (putN (cimN P Q C W e el Im t).2 el (el + 1 + t))).1, (plcN P Q C W e (e - (el + 1)) (el + 1) ((2 ^ el - 1) ||| 2 ^ (el + 1 + t)) (putN (cimN P Q C W e el Im t).2 el (el + 1 + t))).2) else cimN P Q C W e el Im t
def symN (P Q : Nat → Int32) (C W : Nat → Nat) (e : Nat) (Im : Nat → Nat) : Nat → Nat × (Nat → Nat)
  | 0 => (1, Im)
  | k + 1 => ((symN P Q C W e Im k).1 * (cimN P Q C W e k (symN P Q C W e Im k).2 (e - (k + 1))).1, putN (cimN P Q C W e k (symN P Q C W e Im k).2 (e - (k + 1))).2 k k)
theorem cimN_lt {P Q : Nat → Int32} {C W : Nat → Nat} {e el : Nat} {Im : Nat → Nat} (he : e ≤ 10) (h : ∀ j, j < 1024 → Im j < 1024) (h0 : Im 0 = 0) : ∀ t, el + 1 + t ≤ e → (∀ j, j < 1024 → (cimN P Q C W e el Im t).2 j < 1024) ∧ (cimN P Q C W e el Im t).2 0 = 0 := by
  intro t
  induction t with
  | zero => intro _; exact ⟨h, h0⟩
  | succ t ih =>
    intro ht
    have h1 := ih (by omega)
    unfold cimN
    split
    · exact ⟨plcN_lt he _ _ _ _ (putN_lt (by omega) h1.1), plcN_0 _ _ _ _ (putN_0 h1.2)⟩
    · exact h1
section C47
variable {l : Launch} {D : va_G} {S0 : State}
set_option maxRecDepth 100000 in
theorem c_X5_countImages (hW : WOK l D S0) (d : Nat) {h : AH} {a b e el : Nat} {nn : Int} {r : Nat → Nat} {F : Nat → Int} {C W Im : Nat → Nat} {P Q : Nat → Int32} (hS : LikS h a b r e nn F C W Im P Q) (he : e ≤ 10) (hel : el < e) : MA l D S0 yX5_countImages cX5_countImages 5 (some .int) (d + 12) [.ref a, I (el : Int)] h 0 0 (fun rr h' => rr = some (I ((cimN P Q C W e el Im (e - (el + 1))).1 : Nat)) ∧ h' = hset h (r 4) (b + 4, aV 1024 (cimN P Q C W e el Im (e - (el + 1))).2)) (fun _ _ => False) := by
  have hp0 := p2_pos el
  obtain ⟨gA, g1, g2, g3, g4, g5, g6, hC, hWb, hIm, hI0⟩ := id hS
  have hlt := fun t => cimN_lt (P := P) (Q := Q) (C := C) (W := W) (el := el) he hIm hI0 t
  have hpe : 2 ^ el ≤ 2 ^ 10 := p2_mono (by omega)
  refine MA.start hW (by decide) [.val (.ref a), .val (I (el : Int)), .unset, .unset, .unset] rfl ?_
  rintro X rfl rfl rfl hX
  refine wi_iconst hX dX5_countImages_0 ?_
  refine wa_istore_n hX (i := 2) dX5_countImages_1 rfl rfl ?_
  dsimp only [List.set]
  refine wi_iconst hX dX5_countImages_2 ?_
  refine wa_iload_n hX (i := 1) dX5_countImages_3 rfl rfl ?_
  refine wn_shl1 hX dX5_countImages_4 (by rfl) (by omega) ?_
  refine wi_iconst hX dX5_countImages_5 ?_
  refine wi_isub hX dX5_countImages_6 ?_
  rw [show (((2 ^ el : Nat) : Int) - 1) = ((2 ^ el - 1 : Nat) : Int) by omega]
  refine wa_istore_n hX (i := 3) dX5_countImages_7 rfl rfl ?_
  dsimp only [List.set]
  refine wa_iload_n hX (i := 1) dX5_countImages_8 rfl rfl ?_
  refine wi_iconst hX dX5_countImages_9 ?_
  refine wi_iadd hX dX5_countImages_10 ?_
  refine wa_istore hX dX5_countImages_11 rfl ?_
  dsimp only [List.set]
  refine WA.heap (hset_self g4).symm ?_
  refine WA.loop (σ := Nat) (fun z => e - z) (fun z => el + 1 + z ≤ e) (fun z => hset h (r 4) (b + 4, aV 1024 (cimN P Q C W e el Im z).2)) (fun z => [.val (.ref a), .val (I (el : Int)), .val (I ((cimN P Q C W e el Im z).1 : Nat)), .val (I ((2 ^ el - 1 : Nat) : Int)), .val (I ((el + 1 + z : Nat) : Int))]) ?_ 0 (by omega)
  intro t ht ih
  have hst : cimN P Q C W e el Im (t + 1) = (if fitN P Q C W (cimN P Q C W e el Im t).2 el (el + 1 + t) = true then ((cimN P Q C W e el Im t).1 + b2n (plcN P Q C W e (e - (el + 1)) (el + 1) ((2 ^ el - 1) ||| 2 ^ (el + 1 + t)) (putN (cimN P Q C W e el Im t).2 el (el + 1 + t))).1, (plcN P Q C W e (e - (el + 1)) (el + 1) ((2 ^ el - 1) ||| 2 ^ (el + 1 + t)) (putN (cimN P Q C W e el Im t).2 el (el + 1 + t))).2) else cimN P Q C W e el Im t) := rfl
  obtain ⟨hl1, hl2⟩ := hlt t ht
  have hT1 := hS.set4 (cimN P Q C W e el Im t).2 hl1 hl2
  obtain ⟨kA, k1, k2, k3, k4, k5, k6, -⟩ := id hT1
  generalize hIt : (cimN P Q C W e el Im t).2 = It at hst hl1 hl2 hT1 kA k1 k2 k3 k4 k5 k6 ⊢
  generalize hNt : (cimN P Q C W e el Im t).1 = Nt at hst ⊢
  refine wa_iload hX dX5_countImages_13 rfl ?_
  refine wa_aload_n hX (i := 0) dX5_countImages_15 rfl rfl ?_
  refine wa_get hX 6 (by assumption) (by rfl) (by decide +kernel) dX5_countImages_16 ?_
  refine wi_icmp_ge hX (tgt := 64) dX5_countImages_19 (by decide) (by omega) (by omega) (fun c19 => ?_) (fun c19 => ?_)
  · skip
    refine wa_iload_n hX (i := 2) dX5_countImages_64 rfl rfl ?_
    refine wa_iret hX dX5_countImages_65 ?_
    have hte : t = e - (el + 1) := by omega
    subst hte
    exact ⟨by rw [hNt], by rw [hIt]⟩
  · skip
    refine wa_aload_n hX (i := 0) dX5_countImages_22 rfl rfl ?_
    refine wa_iload_n hX (i := 1) dX5_countImages_23 rfl rfl ?_
    refine wa_iload hX dX5_countImages_24 rfl ?_
    refine wa_callV hX (c_X5_fits hW d kA k2 k3 k4 k5 k6 (el := el) (im := el + 1 + t) (by omega) (by omega) (fun j hj => hl1 j (by omega)) hC hWb) (by assumption) (by rfl) (by rfl) (by omega) (nA := 2) (by rfl) (by decide +kernel) rfl (by exact Nat.le_of_ble_eq_true rfl) dX5_countImages_26 (fun r26 h26 p26 => ?_) (fun _ _ q => q.elim)
    obtain ⟨rfl, qq26⟩ := p26; subst h26
    dsimp only [Option.toList, List.cons_append, List.nil_append]
    refine wi_if_eq hX (tgt := 58) dX5_countImages_29 (by decide) (by exact b2n_inR _) (fun c29 => ?_) (fun c29 => ?_)
    · skip
      refine wi_iinc hX dX5_countImages_58 rfl ?_
      dsimp only [List.set]
      refine wa_goto hX (tgt := 13) dX5_countImages_61 (by decide) ?_
      first
        | (have w := b2n_t c52
           rw [w] at hst
           refine WA.eq rfl ?_ rfl (WA.heap ?_ (ih (t + 1) (by omega) (by omega)))
           · rw [hst]; rfl
           · rw [hst])
        | (have w := b2n_f c52
           rw [w] at hst
           refine WA.eq rfl ?_ rfl (WA.heap ?_ (ih (t + 1) (by omega) (by omega)))
           · rw [hst]; rfl
           · rw [hst])
        | (have w := b2n_f c29
           rw [if_neg (by rw [w]; decide)] at hst
           refine WA.eq rfl ?_ rfl (WA.heap ?_ (ih (t + 1) (by omega) (by omega)))
           · rw [hst, hNt]; rfl
           · rw [hst, hIt])
    · skip
      refine wa_aload_n hX (i := 0) dX5_countImages_32 rfl rfl ?_
      refine wa_iload_n hX (i := 1) dX5_countImages_33 rfl rfl ?_
      refine wa_iload hX dX5_countImages_34 rfl ?_
      have hft := b2n_t c29
      rw [if_pos hft] at hst
      refine wa_callV hX (c_X5_putImage hW d kA k4 (el := el) (im := el + 1 + t) (by omega) (by omega)) (by assumption) (by rfl) (by rfl) (by omega) (nA := 2) (by rfl) (by decide +kernel) rfl (by exact Nat.le_of_ble_eq_true rfl) dX5_countImages_36 (fun r36 h36 p36 => ?_) (fun _ _ q => q.elim)
      obtain ⟨rfl, rfl⟩ := p36
      rw [hset_hset]
      have hT2 := hS.set4 (putN It el (el + 1 + t)) (putN_lt (by omega) hl1) (putN_0 hl2)
      obtain ⟨qA, q1, q2, q3, q4, q5, q6, -⟩ := id hT2
      have hbi : 2 ^ (el + 1 + t) < 2 ^ 10 := bit_lt (by omega)
      dsimp only [Option.toList, List.cons_append, List.nil_append]
      refine wa_aload_n hX (i := 0) dX5_countImages_39 rfl rfl ?_
      refine wa_iload_n hX (i := 1) dX5_countImages_40 rfl rfl ?_
      refine wi_iconst hX dX5_countImages_41 ?_
      refine wi_iadd hX dX5_countImages_42 ?_
      refine wa_iload_n hX (i := 3) dX5_countImages_43 rfl rfl ?_
      refine wi_iconst hX dX5_countImages_44 ?_
      refine wa_iload hX dX5_countImages_45 rfl ?_
      refine wn_shl1 hX dX5_countImages_47 (by rfl) (by omega) ?_
      refine wn_ior hX dX5_countImages_48 (by rfl) (by rfl) ?_
      rw [show ((el : Int) + 1) = ((el + 1 : Nat) : Int) by omega]
      refine wa_callS hX (c_X5_place hW d (e := e) he hC hWb (by omega) (by omega) (by omega) (by omega) (e - (el + 1)) (el + 1) ((2 ^ el - 1) ||| 2 ^ (el + 1 + t)) (putN It el (el + 1 + t)) _ qA q2 q3 q4 q5 q6 (by omega) (or_lt (e := 10) (by omega) hbi) (putN_lt (by omega) hl1)) (by rfl) (by omega) (nA := 3) (by rfl) (by decide +kernel) rfl (by exact Nat.le_of_ble_eq_true rfl) dX5_countImages_49 (fun r49 h49 p49 => ?_) (fun _ _ q => q.elim)
      obtain ⟨rfl, rfl⟩ := p49
      rw [hset_hset]
      dsimp only [Option.toList, List.cons_append, List.nil_append]
      refine wi_if_eq hX (tgt := 58) dX5_countImages_52 (by decide) (by exact b2n_inR _) (fun c52 => ?_) (fun c52 => ?_)
      · skip
        refine wi_iinc hX dX5_countImages_58 rfl ?_
        dsimp only [List.set]
        refine wa_goto hX (tgt := 13) dX5_countImages_61 (by decide) ?_
        first
          | (have w := b2n_t c52
             rw [w] at hst
             refine WA.eq rfl ?_ rfl (WA.heap ?_ (ih (t + 1) (by omega) (by omega)))
             · rw [hst]; rfl
             · rw [hst])
          | (have w := b2n_f c52
             rw [w] at hst
             refine WA.eq rfl ?_ rfl (WA.heap ?_ (ih (t + 1) (by omega) (by omega)))
             · rw [hst]; rfl
             · rw [hst])
          | (have w := b2n_f c29
             rw [if_neg (by rw [w]; decide)] at hst
             refine WA.eq rfl ?_ rfl (WA.heap ?_ (ih (t + 1) (by omega) (by omega)))
             · rw [hst, hNt]; rfl
             · rw [hst, hIt])
      · skip
        refine wi_iinc hX dX5_countImages_55 rfl ?_
        dsimp only [List.set]
        refine wi_iinc hX dX5_countImages_58 rfl ?_
        dsimp only [List.set]
        refine wa_goto hX (tgt := 13) dX5_countImages_61 (by decide) ?_
        first
          | (have w := b2n_t c52
             rw [w] at hst
             refine WA.eq rfl ?_ rfl (WA.heap ?_ (ih (t + 1) (by omega) (by omega)))
             · rw [hst]; rfl
             · rw [hst])
          | (have w := b2n_f c52
             rw [w] at hst
             refine WA.eq rfl ?_ rfl (WA.heap ?_ (ih (t + 1) (by omega) (by omega)))
             · rw [hst]; rfl
             · rw [hst])
          | (have w := b2n_f c29
             rw [if_neg (by rw [w]; decide)] at hst
             refine WA.eq rfl ?_ rfl (WA.heap ?_ (ih (t + 1) (by omega) (by omega)))
             · rw [hst, hNt]; rfl
             · rw [hst, hIt])
/-- what symmetriesOf lays ready -/
def wntS (sf W : Nat → Nat) (e : Nat) : Nat → Nat := lokN (basN sf) e W
def prfS (sf W : Nat → Nat) (e : Nat) : Nat → Int32 := fun j => Int32.ofInt (prfN (wntS sf W e) e (2 ^ e) j)
def cntS (sf W C : Nat → Nat) (e : Nat) : Nat → Nat := fun j => if j < 2 ^ e then wntS sf W e j else C j
def prgS (sf W : Nat → Nat) (P : Nat → Int32) (e : Nat) : Nat → Int32 := fun j => if j < e then prfS sf W e j else P j
/-- lookFor, told of the whole state -/
theorem c_X5_look (hW : WOK l D S0) (d : Nat) {h : AH} {a b m lm full rq hq tq lt e : Nat} {e0 n0 sym : Int} {v2 v3 : Value} {sf : Nat → Nat} {r : Nat → Nat} {F : Nat → Int} {C W Im : Nat → Nat} {P Q : Nat → Int32} (hS : LikS h a b r e0 n0 F C W Im P Q) (hm : h m = some (lm, oMat e full rq hq tq sym v2 v3)) (ht : h tq = some (lt, aB e sf)) (hl1 : lm < b ∨ b + 6 < lm) (hl2 : lt < b ∨ b + 6 < lt) (he : e ≤ 10) (hsf : ∀ j, j < 2 ^ e → sf j < 32) {h' : AH} (q1 : h' a = some (b, oLik (r 1) (r 2) (r 3) (r 4) (r 5) (r 6) e ((2 ^ e : Nat) : Int))) (q2 : h' (r 3) = some (b + 3, aV 1024 (lokN (basN sf) e W))) (q3 : h' (r 6) = some (b + 6, aI .int 10 (prfN (lokN (basN sf) e W) e (2 ^ e)))) (q4 : ∀ x, x ≠ a → x ≠ r 3 → x ≠ r 6 → h' x = h x) : LikS h' a b r e ((2 ^ e : Nat) : Int) F C (wntS sf W e) Im P (prfS sf W e) ∧ Fr (fun x => b ≤ x ∧ x ≤ b + 6) h h' := by
  obtain ⟨gA, g1, g2, g3, g4, g5, g6, hC, hWb, hIm, hI0⟩ := hS
  have hk : ∀ x lx ox, h x = some (lx, ox) → lx ≠ b → lx ≠ b + 3 → lx ≠ b + 6 → h' x = some (lx, ox) := fun x lx ox hx w1 w2 w3 => (q4 x (lab_ne gA hx w1) (lab_ne g3 hx w2) (lab_ne g6 hx w3)).trans hx
  refine ⟨⟨q1, hk _ _ _ g1 (by omega) (by omega) (by omega), hk _ _ _ g2 (by omega) (by omega) (by omega), q2, hk _ _ _ g4 (by omega) (by omega) (by omega), hk _ _ _ g5 (by omega) (by omega) (by omega), q3, hC, lokN_le he (fun j => b2n_le _) hWb, hIm, hI0⟩, fun x lx ox hx hn => hk x lx ox hx (by omega) (by omega) (by omega)⟩
set_option maxRecDepth 100000 in
theorem c_X5_symmetriesOf (hW : WOK l D S0) (d : Nat) {h : AH} {a b m lm full rq hq tq lt e : Nat} {e0 n0 sym : Int} {v2 v3 : Value} {sf : Nat → Nat} {r : Nat → Nat} {F : Nat → Int} {C W Im : Nat → Nat} {P Q : Nat → Int32} (hS : LikS h a b r e0 n0 F C W Im P Q) (hm : h m = some (lm, oMat e full rq hq tq sym v2 v3)) (ht : h tq = some (lt, aB e sf)) (hl1 : lm < b ∨ b + 6 < lm) (hl2 : lt < b ∨ b + 6 < lt) (he : e ≤ 10) (hsf : ∀ j, j < 2 ^ e → sf j < 32) : MA l D S0 yX5_symmetriesOf cX5_symmetriesOf 4 (some .int) (d + 13) [.ref a, .ref m] h 0 0 (fun rr h' => rr = some (I ((symN (prgS sf W P e) (prfS sf W e) (cntS sf W C e) (wntS sf W e) e Im e).1 : Nat)) ∧ Fr (fun x => b ≤ x ∧ x ≤ b + 6) h h' ∧ ∃ C' W' I' P' Q', LikS h' a b r e ((2 ^ e : Nat) : Int) F C' W' I' P' Q') (fun _ _ => False) := by
  have hp := p2_le he
  have hp0 := p2_pos e
  obtain ⟨gA, g1, g2, g3, g4, g5, g6, hC, hWb, hIm, hI0⟩ := id hS
  refine MA.start hW (by decide) [.val (.ref a), .val (.ref m), .unset, .unset] rfl ?_
  rintro X rfl rfl rfl hX
  refine wa_aload_n hX (i := 0) dX5_symmetriesOf_0 rfl rfl ?_
  refine wa_aload_n hX (i := 1) dX5_symmetriesOf_1 rfl rfl ?_
  refine wa_callV hX (c_X5_lookFor hW d gA g3 g6 hm ht (by omega) (by omega) (by omega) (by omega) he hsf) (by assumption) (by rfl) (by rfl) (by omega) (nA := 1) (by rfl) (by decide +kernel) rfl (by exact Nat.le_of_ble_eq_true rfl) dX5_symmetriesOf_2 (fun r2 h2 p2 => ?_) (fun _ _ q => q.elim)
  obtain ⟨rfl, w1, w2, w3, w4⟩ := p2
  obtain ⟨hS1, fr1⟩ := c_X5_look hW d hS hm ht hl1 hl2 he hsf w1 w2 w3 w4
  clear w1 w2 w3 w4
  obtain ⟨kA, k1, k2, k3, k4, k5, k6, hC1, hW1, hIm1, hI1⟩ := id hS1
  have hcs : ∀ j, cntS sf W C e j ≤ 1024 := fun j => by
    unfold cntS
    split
    · exact hW1 j
    · exact hC j
  dsimp only [Option.toList, List.cons_append, List.nil_append]
  refine wa_aload_n hX (i := 0) dX5_symmetriesOf_5 rfl rfl ?_
  refine wa_get hX 2 (by assumption) (by rfl) (by decide +kernel) dX5_symmetriesOf_6 ?_
  refine wi_iconst hX dX5_symmetriesOf_9 ?_
  refine wa_aload_n hX (i := 0) dX5_symmetriesOf_10 rfl rfl ?_
  refine wa_get hX 1 (by assumption) (by rfl) (by decide +kernel) dX5_symmetriesOf_11 ?_
  refine wi_iconst hX dX5_symmetriesOf_14 ?_
  refine wa_aload_n hX (i := 0) dX5_symmetriesOf_15 rfl rfl ?_
  refine wa_get hX 7 (by assumption) (by rfl) (by decide +kernel) dX5_symmetriesOf_16 ?_
  refine wa_copy hX (2 ^ e) k3 k2 hp hp (by omega) (by decide +kernel) rfl (by exact Nat.le_of_ble_eq_true rfl) dX5_symmetriesOf_19 ?_
  refine WA.ext (fun j => Int32.ofInt ((cntS sf W C e j : Nat) : Int)) hset_eq (fun j hj => by
    unfold cntS
    by_cases q : j < 2 ^ e
    · rw [if_pos q, if_pos q]
    · rw [if_neg q, if_neg q]) ?_
  rw [hset_hset]
  have hS2 := hS1.set2 (cntS sf W C e) hcs
  have fr2 := Fr.put fr1 k2 (h' := hset h2 (r 2) (b + 2, aV 1024 (cntS sf W C e))) (fun b hb => hset_ne hb) ⟨by omega, by omega⟩
  refine WA.heap (h2 := hset h2 (r 2) (b + 2, aV 1024 (cntS sf W C e))) rfl ?_
  generalize hset h2 (r 2) (b + 2, aV 1024 (cntS sf W C e)) = hA at hS2 fr2 ⊢
  clear kA k1 k2 k3 k4 k5 k6
  obtain ⟨kA, k1, k2, k3, k4, k5, k6, -⟩ := id hS2
  refine wa_aload_n hX (i := 0) dX5_symmetriesOf_22 rfl rfl ?_
  refine wa_get hX 5 (by assumption) (by rfl) (by decide +kernel) dX5_symmetriesOf_23 ?_
  refine wi_iconst hX dX5_symmetriesOf_26 ?_
  refine wa_aload_n hX (i := 0) dX5_symmetriesOf_27 rfl rfl ?_
  refine wa_get hX 4 (by assumption) (by rfl) (by decide +kernel) dX5_symmetriesOf_28 ?_
  refine wi_iconst hX dX5_symmetriesOf_31 ?_
  refine wa_aload_n hX (i := 0) dX5_symmetriesOf_32 rfl rfl ?_
  refine wa_get hX 6 (by assumption) (by rfl) (by decide +kernel) dX5_symmetriesOf_33 ?_
  refine wa_copy hX e k6 k5 he he (by omega) (by decide +kernel) rfl (by exact Nat.le_of_ble_eq_true rfl) dX5_symmetriesOf_36 ?_
  refine WA.ext (prgS sf W P e) hset_eq (fun j hj => rfl) ?_
  rw [hset_hset]
  have hS3 := hS2.set5 (prgS sf W P e)
  have fr3 := Fr.put fr2 k5 (h' := hset hA (r 5) (b + 5, aW .int 10 (prgS sf W P e))) (fun b hb => hset_ne hb) ⟨by omega, by omega⟩
  refine WA.heap (h2 := hset hA (r 5) (b + 5, aW .int 10 (prgS sf W P e))) rfl ?_
  generalize hset hA (r 5) (b + 5, aW .int 10 (prgS sf W P e)) = hB at hS3 fr3 ⊢
  clear kA k1 k2 k3 k4 k5 k6
  obtain ⟨kA, k1, k2, k3, k4, k5, k6, -⟩ := id hS3
  refine wa_aload_n hX (i := 0) dX5_symmetriesOf_39 rfl rfl ?_
  refine wa_get hX 3 (by assumption) (by rfl) (by decide +kernel) dX5_symmetriesOf_40 ?_
  refine wi_iconst hX dX5_symmetriesOf_43 ?_
  refine wi_iconst hX dX5_symmetriesOf_44 ?_
  refine wi_iastore hX k4 (by omega) (by omega) (by omega) dX5_symmetriesOf_45 ?_
  refine WA.ext9 (fun j => ((Im j : Nat) : Int)) hset_eq (fun j hj => by
    rw [up_is]
    by_cases q : j = (0 : Int).toNat
    · rw [if_pos q, q]; show (0 : Int) = ((Im 0 : Nat) : Int); rw [hI0]; rfl
    · rw [if_neg q]) ?_
  rw [hset_hset, hset_self k4]
  refine wi_iconst hX dX5_symmetriesOf_46 ?_
  refine wa_istore_n hX (i := 2) dX5_symmetriesOf_47 rfl rfl ?_
  dsimp only [List.set]
  refine wi_iconst hX dX5_symmetriesOf_48 ?_
  refine wa_istore_n hX (i := 3) dX5_symmetriesOf_49 rfl rfl ?_
  dsimp only [List.set]
  refine WA.heap (hset_self k4).symm ?_
  refine WA.loop (σ := Nat) (fun z => e - z) (fun z => z ≤ e ∧ (∀ j, j < 1024 → (symN (prgS sf W P e) (prfS sf W e) (cntS sf W C e) (wntS sf W e) e Im z).2 j < 1024) ∧ (symN (prgS sf W P e) (prfS sf W e) (cntS sf W C e) (wntS sf W e) e Im z).2 0 = 0) (fun z => hset hB (r 4) (b + 4, aV 1024 (symN (prgS sf W P e) (prfS sf W e) (cntS sf W C e) (wntS sf W e) e Im z).2)) (fun z => [.val (.ref a), .val (.ref m), .val (I ((symN (prgS sf W P e) (prfS sf W e) (cntS sf W C e) (wntS sf W e) e Im z).1 : Nat)), .val (I (z : Nat))]) ?_ 0 ⟨Nat.zero_le _, hIm, hI0⟩
  rintro k ⟨hk, hl3, hl4⟩ ih
  have hst : symN (prgS sf W P e) (prfS sf W e) (cntS sf W C e) (wntS sf W e) e Im (k + 1) = ((symN (prgS sf W P e) (prfS sf W e) (cntS sf W C e) (wntS sf W e) e Im k).1 * (cimN (prgS sf W P e) (prfS sf W e) (cntS sf W C e) (wntS sf W e) e k (symN (prgS sf W P e) (prfS sf W e) (cntS sf W C e) (wntS sf W e) e Im k).2 (e - (k + 1))).1, putN (cimN (prgS sf W P e) (prfS sf W e) (cntS sf W C e) (wntS sf W e) e k (symN (prgS sf W P e) (prfS sf W e) (cntS sf W C e) (wntS sf W e) e Im k).2 (e - (k + 1))).2 k k) := rfl
  have hT := hS3.set4 _ hl3 hl4
  have fr4 := Fr.put fr3 k4 (h' := hset hB (r 4) (b + 4, aV 1024 (symN (prgS sf W P e) (prfS sf W e) (cntS sf W C e) (wntS sf W e) e Im k).2)) (fun b hb => hset_ne hb) ⟨by omega, by omega⟩
  obtain ⟨qA, q1, q2, q3, q4, q5, q6, -⟩ := id hT
  generalize hI9 : (symN (prgS sf W P e) (prfS sf W e) (cntS sf W C e) (wntS sf W e) e Im k).2 = I9 at hst hl3 hl4 hT fr4 qA q1 q2 q3 q4 q5 q6 ⊢
  refine wa_iload_n hX (i := 3) dX5_symmetriesOf_50 rfl rfl ?_
  refine wa_aload_n hX (i := 0) dX5_symmetriesOf_51 rfl rfl ?_
  refine wa_get hX 6 (by assumption) (by rfl) (by decide +kernel) dX5_symmetriesOf_52 ?_
  refine wi_icmp_ge hX (tgt := 78) dX5_symmetriesOf_55 (by decide) (by omega) (by omega) (fun c55 => ?_) (fun c55 => ?_)
  · skip
    refine wa_iload_n hX (i := 2) dX5_symmetriesOf_78 rfl rfl ?_
    refine wa_iret hX dX5_symmetriesOf_79 ?_
    have hke : k = e := by omega
    subst hke
    exact ⟨rfl, fr4, _, _, _, _, _, hT⟩
  · skip
    refine wa_iload_n hX (i := 2) dX5_symmetriesOf_58 rfl rfl ?_
    refine wa_aload_n hX (i := 0) dX5_symmetriesOf_59 rfl rfl ?_
    refine wa_iload_n hX (i := 3) dX5_symmetriesOf_60 rfl rfl ?_
    have hcl := cimN_lt (P := prgS sf W P e) (Q := prfS sf W e) (C := cntS sf W C e) (W := wntS sf W e) (el := k) he hl3 hl4 (e - (k + 1)) (by omega)
    refine wa_callV hX (c_X5_countImages hW d hT he (el := k) (by omega)) (by assumption) (by rfl) (by rfl) (by omega) (nA := 1) (by rfl) (by decide +kernel) rfl (by exact Nat.le_of_ble_eq_true rfl) dX5_symmetriesOf_61 (fun r61 h61 p61 => ?_) (fun _ _ q => q.elim)
    obtain ⟨rfl, rfl⟩ := p61
    rw [hset_hset]
    have hT2 := hS3.set4 _ hcl.1 hcl.2
    obtain ⟨xA, x1, x2, x3, x4, x5, x6, -⟩ := id hT2
    dsimp only [Option.toList, List.cons_append, List.nil_append]
    refine wi_imul hX dX5_symmetriesOf_64 ?_
    refine wa_istore_n hX (i := 2) dX5_symmetriesOf_65 rfl rfl ?_
    dsimp only [List.set]
    refine wa_aload_n hX (i := 0) dX5_symmetriesOf_66 rfl rfl ?_
    refine wa_iload_n hX (i := 3) dX5_symmetriesOf_67 rfl rfl ?_
    refine wa_iload_n hX (i := 3) dX5_symmetriesOf_68 rfl rfl ?_
    refine wa_callV hX (c_X5_putImage hW d xA x4 (el := k) (im := k) (by omega) (by omega)) (by assumption) (by rfl) (by rfl) (by omega) (nA := 2) (by rfl) (by decide +kernel) rfl (by exact Nat.le_of_ble_eq_true rfl) dX5_symmetriesOf_69 (fun r69 h69 p69 => ?_) (fun _ _ q => q.elim)
    obtain ⟨rfl, rfl⟩ := p69
    rw [hset_hset]
    dsimp only [Option.toList, List.cons_append, List.nil_append]
    refine wi_iinc hX dX5_symmetriesOf_72 rfl ?_
    dsimp only [List.set]
    refine wa_goto hX (tgt := 50) dX5_symmetriesOf_75 (by decide) ?_
    refine WA.eq rfl ?_ rfl (WA.heap ?_ (ih (k + 1) ⟨by omega, by rw [hst]; exact putN_lt (by omega) hcl.1, by rw [hst]; exact putN_0 hcl.2⟩ (by omega)))
    · rw [hst, Int.natCast_mul]; rfl
    · rw [hst]
end C47
