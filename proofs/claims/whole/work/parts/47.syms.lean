/-! Circuitfold$Likeness (X5): countImages, symmetriesOf -/
def cimN (P Q : Nat → Int32) (C W : Nat → Nat) (e el : Nat) (Im : Nat → Nat) : Nat → Nat × (Nat → Nat)
  | 0 => (1, Im)
  | t + 1 => if fitN P Q C W (cimN P Q C W e el Im t).2 el (el + 1 + t) = true then ((cimN P Q C W e el Im t).1 + b2n (plcN P Q C W e (e - (el + 1)) (el + 1) ((2 ^ el - 1) ||| 2 ^ (el + 1 + t)) (putN (cimN P Q C W e el Im t).2 el (el + 1 + t))).1, (plcN P Q C W e (e - (el + 1)) (el + 1) ((2 ^ el - 1) ||| 2 ^ (el + 1 + t)) (putN (cimN P Q C W e el Im t).2 el (el + 1 + t))).2) else cimN P Q C W e el Im t
def symN (P Q : Nat → Int32) (C W : Nat → Nat) (e : Nat) (Im : Nat → Nat) : Nat → Nat × (Nat → Nat)
  | 0 => (1, Im)
  | k + 1 => ((symN P Q C W e Im k).1 * (cimN P Q C W e k (symN P Q C W e Im k).2 (e - (k + 1))).1, putN (cimN P Q C W e k (symN P Q C W e Im k).2 (e - (k + 1))).2 k k)
theorem cimN_lt {P Q : Nat → Int32} {C W : Nat → Nat} {e el : Nat} {Im : Nat → Nat} (he : e ≤ 10) (h : ∀ j, j < 1024 → Im j < 1024) (h0 : Im 0 = 0) : ∀ t, el + 1 + t ≤ e → (∀ j, j < 1024 → (cimN P Q C W e el Im t).2 j < 1024) ∧ (cimN P Q C W e el Im t).2 0 = 0 := by
  intro t
  induction t with
  | zero => intro _; exact ⟨h, h0⟩
  | succ t ih =>
    intro ht
    have h1 := ih (by omega)
    unfold cimN
    split
    · exact ⟨plcN_lt he _ _ _ _ (putN_lt (by omega) h1.1), plcN_0 _ _ _ _ (putN_0 h1.2)⟩
    · exact h1
section C47
variable {l : Launch} {D : va_G} {S0 : State}
set_option maxRecDepth 100000 in
theorem c_X5_countImages (hW : WOK l D S0) (d : Nat) {h : AH} {a b e el : Nat} {nn : Int} {r : Nat → Nat} {F : Nat → Int} {C W Im : Nat → Nat} {P Q : Nat → Int32} (hS : LikS h a b r e nn F C W Im P Q) (he : e ≤ 10) (hel : el < e) : MA l D S0 yX5_countImages cX5_countImages 5 (some .int) (d + 12) [.ref a, I (el : Int)] h 0 0 (fun rr h' => rr = some (I ((cimN P Q C W e el Im (e - (el + 1))).1 : Nat)) ∧ h' = hset h (r 4) (b + 4, aV 1024 (cimN P Q C W e el Im (e - (el + 1))).2)) (fun _ _ => False) := by
  have hp0 := p2_pos el
  obtain ⟨gA, g1, g2, g3, g4, g5, g6, hC, hWb, hIm, hI0⟩ := id hS
  have hlt := fun t => cimN_lt (P := P) (Q := Q) (C := C) (W := W) (el := el) he hIm hI0 t
  have hpe : 2 ^ el ≤ 2 ^ 10 := p2_mono (by omega)
  refine MA.start hW (by decide) [.val (.ref a), .val (I (el : Int)), .unset, .unset, .unset] rfl ?_
  rintro X rfl rfl rfl hX
  refine wi_iconst hX dX5_countImages_0 ?_
  refine wa_istore_n hX (i := 2) dX5_countImages_1 rfl rfl ?_
  dsimp only [List.set]
  refine wi_iconst hX dX5_countImages_2 ?_
  refine wa_iload_n hX (i := 1) dX5_countImages_3 rfl rfl ?_
  refine wn_shl1 hX dX5_countImages_4 (by rfl) (by omega) ?_
  refine wi_iconst hX dX5_countImages_5 ?_
  refine wi_isub hX dX5_countImages_6 ?_
  rw [show (((2 ^ el : Nat) : Int) - 1) = ((2 ^ el - 1 : Nat) : Int) by omega]
  refine wa_istore_n hX (i := 3) dX5_countImages_7 rfl rfl ?_
  dsimp only [List.set]
  refine wa_iload_n hX (i := 1) dX5_countImages_8 rfl rfl ?_
  refine wi_iconst hX dX5_countImages_9 ?_
  refine wi_iadd hX dX5_countImages_10 ?_
  refine wa_istore hX dX5_countImages_11 rfl ?_
  dsimp only [List.set]
  refine WA.heap (hset_self g4).symm ?_
  refine WA.loop (σ := Nat) (fun z => e - z) (fun z => el + 1 + z ≤ e) (fun z => hset h (r 4) (b + 4, aV 1024 (cimN P Q C W e el Im z).2)) (fun z => [.val (.ref a), .val (I (el : Int)), .val (I ((cimN P Q C W e el Im z).1 : Nat)), .val (I ((2 ^ el - 1 : Nat) : Int)), .val (I ((el + 1 + z : Nat) : Int))]) ?_ 0 (by omega)
  intro t ht ih
  have hst : cimN P Q C W e el Im (t + 1) = (if fitN P Q C W (cimN P Q C W e el Im t).2 el (el + 1 + t) = true then ((cimN P Q C W e el Im t).1 + b2n (plcN P Q C W e (e - (el + 1)) (el + 1) ((2 ^ el - 1) ||| 2 ^ (el + 1 + t)) (putN (cimN P Q C W e el Im t).2 el (el + 1 + t))).1, (plcN P Q C W e (e - (el + 1)) (el + 1) ((2 ^ el - 1) ||| 2 ^ (el + 1 + t)) (putN (cimN P Q C W e el Im t).2 el (el + 1 + t))).2) else cimN P Q C W e el Im t) := rfl
  obtain ⟨hl1, hl2⟩ := hlt t ht
  have hT1 := hS.set4 (cimN P Q C W e el Im t).2 hl1 hl2
  obtain ⟨kA, k1, k2, k3, k4, k5, k6, -⟩ := id hT1
  generalize hIt : (cimN P Q C W e el Im t).2 = It at hst hl1 hl2 hT1 kA k1 k2 k3 k4 k5 k6 ⊢
  generalize hNt : (cimN P Q C W e el Im t).1 = Nt at hst ⊢
  refine wa_iload hX dX5_countImages_13 rfl ?_
  refine wa_aload_n hX (i := 0) dX5_countImages_15 rfl rfl ?_
  refine wa_get hX 6 (by assumption) (by rfl) (by decide +kernel) dX5_countImages_16 ?_
  refine wi_icmp_ge hX (tgt := 64) dX5_countImages_19 (by decide) (by omega) (by omega) (fun c19 => ?_) (fun c19 => ?_)
  · skip
    refine wa_iload_n hX (i := 2) dX5_countImages_64 rfl rfl ?_
    refine wa_iret hX dX5_countImages_65 ?_
    have hte : t = e - (el + 1) := by omega
    subst hte
    exact ⟨by rw [hNt], by rw [hIt]⟩
  · skip
    refine wa_aload_n hX (i := 0) dX5_countImages_22 rfl rfl ?_
    refine wa_iload_n hX (i := 1) dX5_countImages_23 rfl rfl ?_
    refine wa_iload hX dX5_countImages_24 rfl ?_
    refine wa_callV hX (c_X5_fits hW d kA k2 k3 k4 k5 k6 (el := el) (im := el + 1 + t) (by omega) (by omega) (fun j hj => hl1 j (by omega)) hC hWb) (by assumption) (by rfl) (by rfl) (by omega) (nA := 2) (by rfl) (by decide +kernel) rfl (by exact Nat.le_of_ble_eq_true rfl) dX5_countImages_26 (fun r26 h26 p26 => ?_) (fun _ _ q => q.elim)
    obtain ⟨rfl, qq26⟩ := p26; subst h26
    dsimp only [Option.toList, List.cons_append, List.nil_append]
    refine wi_if_eq hX (tgt := 58) dX5_countImages_29 (by decide) (by exact b2n_inR _) (fun c29 => ?_) (fun c29 => ?_)
    · skip
      refine wi_iinc hX dX5_countImages_58 rfl ?_
      dsimp only [List.set]
      refine wa_goto hX (tgt := 13) dX5_countImages_61 (by decide) ?_
      first
        | (have w := b2n_t c52
           rw [w] at hst
           refine WA.eq rfl ?_ rfl (WA.heap ?_ (ih (t + 1) (by omega) (by omega)))
           · rw [hst]; rfl
           · rw [hst])
        | (have w := b2n_f c52
           rw [w] at hst
           refine WA.eq rfl ?_ rfl (WA.heap ?_ (ih (t + 1) (by omega) (by omega)))
           · rw [hst]; rfl
           · rw [hst])
        | (have w := b2n_f c29
           rw [if_neg (by rw [w]; decide)] at hst
           refine WA.eq rfl ?_ rfl (WA.heap ?_ (ih (t + 1) (by omega) (by omega)))
           · rw [hst, hNt]; rfl
           · rw [hst, hIt])
    · skip
      refine wa_aload_n hX (i := 0) dX5_countImages_32 rfl rfl ?_
      refine wa_iload_n hX (i := 1) dX5_countImages_33 rfl rfl ?_
      refine wa_iload hX dX5_countImages_34 rfl ?_
      have hft := b2n_t c29
      rw [if_pos hft] at hst
      refine wa_callV hX (c_X5_putImage hW d kA k4 (el := el) (im := el + 1 + t) (by omega) (by omega)) (by assumption) (by rfl) (by rfl) (by omega) (nA := 2) (by rfl) (by decide +kernel) rfl (by exact Nat.le_of_ble_eq_true rfl) dX5_countImages_36 (fun r36 h36 p36 => ?_) (fun _ _ q => q.elim)
      obtain ⟨rfl, rfl⟩ := p36
      rw [hset_hset]
      have hT2 := hS.set4 (putN It el (el + 1 + t)) (putN_lt (by omega) hl1) (putN_0 hl2)
      obtain ⟨qA, q1, q2, q3, q4, q5, q6, -⟩ := id hT2
      have hbi : 2 ^ (el + 1 + t) < 2 ^ 10 := bit_lt (by omega)
      dsimp only [Option.toList, List.cons_append, List.nil_append]
      refine wa_aload_n hX (i := 0) dX5_countImages_39 rfl rfl ?_
      refine wa_iload_n hX (i := 1) dX5_countImages_40 rfl rfl ?_
      refine wi_iconst hX dX5_countImages_41 ?_
      refine wi_iadd hX dX5_countImages_42 ?_
      refine wa_iload_n hX (i := 3) dX5_countImages_43 rfl rfl ?_
      refine wi_iconst hX dX5_countImages_44 ?_
      refine wa_iload hX dX5_countImages_45 rfl ?_
      refine wn_shl1 hX dX5_countImages_47 (by rfl) (by omega) ?_
      refine wn_ior hX dX5_countImages_48 (by rfl) (by rfl) ?_
      rw [show ((el : Int) + 1) = ((el + 1 : Nat) : Int) by omega]
      refine wa_callS hX (c_X5_place hW d (e := e) he hC hWb (by omega) (by omega) (by omega) (by omega) (e - (el + 1)) (el + 1) ((2 ^ el - 1) ||| 2 ^ (el + 1 + t)) (putN It el (el + 1 + t)) _ qA q2 q3 q4 q5 q6 (by omega) (or_lt (e := 10) (by omega) hbi) (putN_lt (by omega) hl1)) (by rfl) (by omega) (nA := 3) (by rfl) (by decide +kernel) rfl (by exact Nat.le_of_ble_eq_true rfl) dX5_countImages_49 (fun r49 h49 p49 => ?_) (fun _ _ q => q.elim)
      obtain ⟨rfl, rfl⟩ := p49
      rw [hset_hset]
      dsimp only [Option.toList, List.cons_append, List.nil_append]
      refine wi_if_eq hX (tgt := 58) dX5_countImages_52 (by decide) (by exact b2n_inR _) (fun c52 => ?_) (fun c52 => ?_)
      · skip
        refine wi_iinc hX dX5_countImages_58 rfl ?_
        dsimp only [List.set]
        refine wa_goto hX (tgt := 13) dX5_countImages_61 (by decide) ?_
        first
          | (have w := b2n_t c52
             rw [w] at hst
             refine WA.eq rfl ?_ rfl (WA.heap ?_ (ih (t + 1) (by omega) (by omega)))
             · rw [hst]; rfl
             · rw [hst])
          | (have w := b2n_f c52
             rw [w] at hst
             refine WA.eq rfl ?_ rfl (WA.heap ?_ (ih (t + 1) (by omega) (by omega)))
             · rw [hst]; rfl
             · rw [hst])
          | (have w := b2n_f c29
             rw [if_neg (by rw [w]; decide)] at hst
             refine WA.eq rfl ?_ rfl (WA.heap ?_ (ih (t + 1) (by omega) (by omega)))
             · rw [hst, hNt]; rfl
             · rw [hst, hIt])
      · skip
        refine wi_iinc hX dX5_countImages_55 rfl ?_
        dsimp only [List.set]
        refine wi_iinc hX dX5_countImages_58 rfl ?_
        dsimp only [List.set]
        refine wa_goto hX (tgt := 13) dX5_countImages_61 (by decide) ?_
        first
          | (have w := b2n_t c52
             rw [w] at hst
             refine WA.eq rfl ?_ rfl (WA.heap ?_ (ih (t + 1) (by omega) (by omega)))
             · rw [hst]; rfl
             · rw [hst])
          | (have w := b2n_f c52
             rw [w] at hst
             refine WA.eq rfl ?_ rfl (WA.heap ?_ (ih (t + 1) (by omega) (by omega)))
             · rw [hst]; rfl
             · rw [hst])
          | (have w := b2n_f c29
             rw [if_neg (by rw [w]; decide)] at hst
             refine WA.eq rfl ?_ rfl (WA.heap ?_ (ih (t + 1) (by omega) (by omega)))
             · rw [hst, hNt]; rfl
             · rw [hst, hIt])
end C47
