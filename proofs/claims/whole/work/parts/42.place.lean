/-! Circuitfold$Likeness (X5): place, the search -/
def tryL (rec : Nat → (Nat → Nat) → Bool × (Nat → Nat)) (ok : Nat → (Nat → Nat) → Bool) (Im : Nat → Nat) : Nat → Bool × (Nat → Nat)
  | 0 => (false, Im)
  | n + 1 => if (tryL rec ok Im n).1 = true then tryL rec ok Im n else if ok n (tryL rec ok Im n).2 = true then rec n (tryL rec ok Im n).2 else tryL rec ok Im n
def plcN (P Q : Nat → Int32) (C W : Nat → Nat) (e : Nat) : Nat → Nat → Nat → (Nat → Nat) → Bool × (Nat → Nat)
  | 0, _, _, Im => (true, Im)
  | f + 1, el, used, Im => tryL (fun n I9 => plcN P Q C W e f (el + 1) (used ||| 2 ^ n) (putN I9 el n)) (fun n I9 => !used.testBit n && fitN P Q C W I9 el n) Im e
theorem putN_lt {Im : Nat → Nat} {el im : Nat} (him : im < 10) (h : ∀ j, j < 1024 → Im j < 1024) : ∀ j, j < 1024 → putN Im el im j < 1024 := by
  intro j hj
  unfold putN
  split
  · exact or_lt (e := 10) (h _ (by omega)) (bit_lt him)
  · exact h j hj
theorem tryL_lt {rec : Nat → (Nat → Nat) → Bool × (Nat → Nat)} {ok : Nat → (Nat → Nat) → Bool} {Im : Nat → Nat} (h : ∀ j, j < 1024 → Im j < 1024) : ∀ n, (∀ m I9, m < n → (∀ j, j < 1024 → I9 j < 1024) → ∀ j, j < 1024 → (rec m I9).2 j < 1024) → ∀ j, j < 1024 → (tryL rec ok Im n).2 j < 1024 := by
  intro n
  induction n with
  | zero => intro _; exact h
  | succ n ih =>
    intro hr
    have h1 := ih (fun m I9 hm => hr m I9 (by omega))
    unfold tryL
    split
    · exact h1
    · split
      · exact hr n _ (by omega) h1
      · exact h1
theorem plcN_lt {P Q : Nat → Int32} {C W : Nat → Nat} {e : Nat} (he : e ≤ 10) : ∀ f el used Im, (∀ j, j < 1024 → Im j < 1024) → ∀ j, j < 1024 → (plcN P Q C W e f el used Im).2 j < 1024 := by
  intro f
  induction f with
  | zero => intro el used Im h; exact h
  | succ f ih =>
    intro el used Im h
    unfold plcN
    exact tryL_lt h e (fun m I9 hm h9 => ih (el + 1) (used ||| 2 ^ m) _ (putN_lt (by omega) h9))
section C42
variable {l : Launch} {D : va_G} {S0 : State}
set_option maxRecDepth 100000 in
theorem c_X5_place (hW : WOK l D S0) (d : Nat) {a b r1 r2 r3 r4 r5 r6 l2 l3 l4 l5 l6 e : Nat} {nn : Int} {C Wn : Nat → Nat} {P Q : Nat → Int32} (he : e ≤ 10) (hC : ∀ j, C j ≤ 1024) (hWn : ∀ j, Wn j ≤ 1024) (hl2 : l2 ≠ l4) (hl3 : l3 ≠ l4) (hl5 : l5 ≠ l4) (hl6 : l6 ≠ l4) : ∀ (f el used : Nat) (Im : Nat → Nat) (h : AH) (h1 : h a = some (b, oLik r1 r2 r3 r4 r5 r6 e nn)) (h2 : h r2 = some (l2, aV 1024 C)) (h3 : h r3 = some (l3, aV 1024 Wn)) (h4 : h r4 = some (l4, aV 1024 Im)) (h5 : h r5 = some (l5, aW .int 10 P)) (h6 : h r6 = some (l6, aW .int 10 Q)) (hef : el + f = e) (hu : used < 1024) (hIm : ∀ j, j < 1024 → Im j < 1024), MA l D S0 yX5_place cX5_place 4 (some .boolean) (d + 1 + f) [.ref a, I (el : Int), I (used : Int)] h 0 0 (fun r h' => r = some (I ((b2n (plcN P Q C Wn e f el used Im).1 : Nat) : Int)) ∧ h' = hset h r4 (l4, aV 1024 (plcN P Q C Wn e f el used Im).2)) (fun _ _ => False) := by
  intro f
  induction f with
  | zero =>
    intro el used Im h h1 h2 h3 h4 h5 h6 hef hu hIm
    refine MA.start hW (by decide) [.val (.ref a), .val (I (el : Int)), .val (I (used : Int)), .unset] rfl ?_
    rintro X rfl rfl rfl hX
    refine wa_iload_n hX (i := 1) dX5_place_0 rfl rfl ?_
    refine wa_aload_n hX (i := 0) dX5_place_1 rfl rfl ?_
    refine wa_get hX 6 (by assumption) (by rfl) (by decide +kernel) dX5_place_2 ?_
    refine wi_icmp_ge hX (tgt := 14) dX5_place_5 (by decide) (by omega) (by omega) (fun c5 => ?_) (fun c5 => ?_)
    · skip
      refine wi_iconst hX dX5_place_14 ?_
      refine wa_zret hX dX5_place_15 (by rfl) ?_
      exact ⟨rfl, (hset_self h4).symm⟩
    · skip
      refine wa_iload_n hX (i := 1) dX5_place_8 rfl rfl ?_
      refine wi_bipush hX dX5_place_9 (by decide) ?_
      refine wi_icmp_lt hX (tgt := 16) dX5_place_11 (by decide) (by omega) (by omega) (fun c11 => ?_) (fun c11 => ?_)
      · skip
        exfalso; omega
      · skip
        refine wi_iconst hX dX5_place_14 ?_
        refine wa_zret hX dX5_place_15 (by rfl) ?_
        exact ⟨rfl, (hset_self h4).symm⟩
  | succ f IH =>
    intro el used Im h h1 h2 h3 h4 h5 h6 hef hu hIm
    have ha4 := ne_oa h1 h4
    have n2 : r2 ≠ r4 := lab_ne h4 h2 hl2
    have n3 : r3 ≠ r4 := lab_ne h4 h3 hl3
    have n5 : r5 ≠ r4 := lab_ne h4 h5 hl5
    have n6 : r6 ≠ r4 := lab_ne h4 h6 hl6
    have hpl : plcN P Q C Wn e (f + 1) el used Im = tryL (fun n I9 => plcN P Q C Wn e f (el + 1) (used ||| 2 ^ n) (putN I9 el n)) (fun n I9 => !used.testBit n && fitN P Q C Wn I9 el n) Im e := rfl
    rw [hpl]
    generalize hrec : (fun (n : Nat) (I9 : Nat → Nat) => plcN P Q C Wn e f (el + 1) (used ||| 2 ^ n) (putN I9 el n)) = rec
    generalize hok : (fun (n : Nat) (I9 : Nat → Nat) => !used.testBit n && fitN P Q C Wn I9 el n) = ok
    have hlt : ∀ n, n ≤ e → ∀ j, j < 1024 → (tryL rec ok Im n).2 j < 1024 := fun n hn => tryL_lt hIm n (fun m I9 hm h9 => by
      rw [← hrec]
      exact plcN_lt he f (el + 1) (used ||| 2 ^ m) _ (putN_lt (by omega) h9))
    have hstay : ∀ n k, (tryL rec ok Im n).1 = true → tryL rec ok Im (n + k) = tryL rec ok Im n := fun n k hn => by
      induction k with
      | zero => rfl
      | succ k ih =>
        have e1 : tryL rec ok Im (n + (k + 1)) = (if (tryL rec ok Im (n + k)).1 = true then tryL rec ok Im (n + k) else if ok (n + k) (tryL rec ok Im (n + k)).2 = true then rec (n + k) (tryL rec ok Im (n + k)).2 else tryL rec ok Im (n + k)) := rfl
        rw [e1, ih, if_pos hn]
    refine MA.start hW (by decide) [.val (.ref a), .val (I (el : Int)), .val (I (used : Int)), .unset] rfl ?_
    rintro X rfl rfl rfl hX
    refine wa_iload_n hX (i := 1) dX5_place_0 rfl rfl ?_
    refine wa_aload_n hX (i := 0) dX5_place_1 rfl rfl ?_
    refine wa_get hX 6 (by assumption) (by rfl) (by decide +kernel) dX5_place_2 ?_
    refine wi_icmp_ge hX (tgt := 14) dX5_place_5 (by decide) (by omega) (by omega) (fun c5 => ?_) (fun c5 => ?_)
    · skip
      refine wi_iconst hX dX5_place_14 ?_
      refine wa_zret hX dX5_place_15 (by rfl) ?_
      exfalso; omega
    · skip
      refine wa_iload_n hX (i := 1) dX5_place_8 rfl rfl ?_
      refine wi_bipush hX dX5_place_9 (by decide) ?_
      refine wi_icmp_lt hX (tgt := 16) dX5_place_11 (by decide) (by omega) (by omega) (fun c11 => ?_) (fun c11 => ?_)
      · skip
        refine wi_iconst hX dX5_place_16 ?_
        refine wa_istore_n hX (i := 3) dX5_place_17 rfl rfl ?_
        dsimp only [List.set]
        refine WA.heap (hset_self h4).symm ?_
        refine WA.loop (σ := Nat) (fun z => e - z) (fun z => z ≤ e ∧ (tryL rec ok Im z).1 = false) (fun z => hset h r4 (l4, aV 1024 (tryL rec ok Im z).2)) (fun z => [.val (.ref a), .val (I (el : Int)), .val (I (used : Int)), .val (I (z : Nat))]) ?_ 0 ⟨Nat.zero_le _, rfl⟩
        rintro i ⟨hi, hf⟩ ih
        have hst : tryL rec ok Im (i + 1) = (if (tryL rec ok Im i).1 = true then tryL rec ok Im i else if ok i (tryL rec ok Im i).2 = true then rec i (tryL rec ok Im i).2 else tryL rec ok Im i) := rfl
        rw [if_neg (by rw [hf]; decide)] at hst
        have hlti := hlt i hi
        generalize hT : (tryL rec ok Im i).2 = T at hst hlti ⊢
        have g1 : hset h r4 (l4, aV 1024 T) a = some (b, oLik r1 r2 r3 r4 r5 r6 e nn) := (hset_ne ha4).trans h1
        have g2 : hset h r4 (l4, aV 1024 T) r2 = some (l2, aV 1024 C) := (hset_ne n2).trans h2
        have g3 : hset h r4 (l4, aV 1024 T) r3 = some (l3, aV 1024 Wn) := (hset_ne n3).trans h3
        have g4 : hset h r4 (l4, aV 1024 T) r4 = some (l4, aV 1024 T) := hset_eq
        have g5 : hset h r4 (l4, aV 1024 T) r5 = some (l5, aW .int 10 P) := (hset_ne n5).trans h5
        have g6 : hset h r4 (l4, aV 1024 T) r6 = some (l6, aW .int 10 Q) := (hset_ne n6).trans h6
        have hoki : ok i T = (!used.testBit i && fitN P Q C Wn T el i) := by rw [← hok]
        refine wa_iload_n hX (i := 3) dX5_place_18 rfl rfl ?_
        refine wa_aload_n hX (i := 0) dX5_place_19 rfl rfl ?_
        refine wa_get hX 6 (by assumption) (by rfl) (by decide +kernel) dX5_place_20 ?_
        refine wi_icmp_ge hX (tgt := 72) dX5_place_23 (by decide) (by omega) (by omega) (fun c23 => ?_) (fun c23 => ?_)
        · skip
          refine wi_iconst hX dX5_place_72 ?_
          refine wa_zret hX dX5_place_73 (by rfl) ?_
          have hie : i = e := by omega
          subst hie
          exact ⟨by rw [hf]; rfl, by rw [hT]⟩
        · skip
          refine wa_iload_n hX (i := 2) dX5_place_26 rfl rfl ?_
          refine wi_iconst hX dX5_place_27 ?_
          refine wa_iload_n hX (i := 3) dX5_place_28 rfl rfl ?_
          refine wn_shl1 hX dX5_place_29 (by rfl) (by omega) ?_
          refine wn_iand hX dX5_place_30 (by rfl) (by rfl) ?_
          refine wi_if_ne hX (tgt := 66) dX5_place_31 (by decide) (by exact inR_nat (and_ltl (by omega))) (fun c31 => ?_) (fun c31 => ?_)
          · skip
            refine wi_iinc hX dX5_place_66 rfl ?_
            dsimp only [List.set]
            refine wa_goto hX (tgt := 18) dX5_place_69 (by decide) ?_
            first
              | (have q5 := b2n_f c61
                 exact ih (i + 1) ⟨by omega, q5⟩ (by omega))
              | (have q5 : ok i T = false := by
                   rw [hoki]
                   first
                     | (have q6 := and_c1 c31; rw [q6]; rfl)
                     | (have q6 := b2n_f c40; rw [q6, Bool.and_false])
                 rw [if_neg (by rw [q5]; decide)] at hst
                 refine WA.heap ?_ (ih (i + 1) ⟨by omega, by rw [hst]; exact hf⟩ (by omega))
                 rw [hst, hT])
          · skip
            refine wa_aload_n hX (i := 0) dX5_place_34 rfl rfl ?_
            refine wa_iload_n hX (i := 1) dX5_place_35 rfl rfl ?_
            refine wa_iload_n hX (i := 3) dX5_place_36 rfl rfl ?_
            have hub := and_c0 c31
            have hel2 : 2 ^ el ≤ 2 ^ 10 := p2_mono (by omega)
            refine wa_callV hX (c_X5_fits hW d g1 g2 g3 g4 g5 g6 (el := el) (im := i) (by omega) (by omega) (fun j hj => hlti j (by omega)) hC hWn) (by assumption) (by rfl) (by rfl) (by omega) (nA := 2) (by rfl) (by decide +kernel) rfl (by exact Nat.le_of_ble_eq_true rfl) dX5_place_37 (fun r37 h37 p37 => ?_) (fun _ _ q => q.elim)
            obtain ⟨rfl, qq37⟩ := p37; subst h37
            dsimp only [Option.toList, List.cons_append, List.nil_append]
            refine wi_if_eq hX (tgt := 66) dX5_place_40 (by decide) (by exact b2n_inR _) (fun c40 => ?_) (fun c40 => ?_)
            · skip
              refine wi_iinc hX dX5_place_66 rfl ?_
              dsimp only [List.set]
              refine wa_goto hX (tgt := 18) dX5_place_69 (by decide) ?_
              first
                | (have q5 := b2n_f c61
                   exact ih (i + 1) ⟨by omega, q5⟩ (by omega))
                | (have q5 : ok i T = false := by
                     rw [hoki]
                     first
                       | (have q6 := and_c1 c31; rw [q6]; rfl)
                       | (have q6 := b2n_f c40; rw [q6, Bool.and_false])
                   rw [if_neg (by rw [q5]; decide)] at hst
                   refine WA.heap ?_ (ih (i + 1) ⟨by omega, by rw [hst]; exact hf⟩ (by omega))
                   rw [hst, hT])
            · skip
              refine wa_aload_n hX (i := 0) dX5_place_43 rfl rfl ?_
              refine wa_iload_n hX (i := 1) dX5_place_44 rfl rfl ?_
              refine wa_iload_n hX (i := 3) dX5_place_45 rfl rfl ?_
              have hokt : ok i T = true := by rw [hoki, hub, b2n_t c40]; rfl
              rw [if_pos hokt] at hst
              refine wa_callV hX (c_X5_putImage hW d g1 g4 (el := el) (im := i) (by omega) (by omega)) (by assumption) (by rfl) (by rfl) (by omega) (nA := 2) (by rfl) (by decide +kernel) rfl (by exact Nat.le_of_ble_eq_true rfl) dX5_place_46 (fun r46 h46 p46 => ?_) (fun _ _ q => q.elim)
              obtain ⟨rfl, rfl⟩ := p46
              rw [hset_hset]
              have k1 : hset h r4 (l4, aV 1024 (putN T el i)) a = some (b, oLik r1 r2 r3 r4 r5 r6 e nn) := (hset_ne ha4).trans h1
              have k2 : hset h r4 (l4, aV 1024 (putN T el i)) r2 = some (l2, aV 1024 C) := (hset_ne n2).trans h2
              have k3 : hset h r4 (l4, aV 1024 (putN T el i)) r3 = some (l3, aV 1024 Wn) := (hset_ne n3).trans h3
              have k4 : hset h r4 (l4, aV 1024 (putN T el i)) r4 = some (l4, aV 1024 (putN T el i)) := hset_eq
              have k5 : hset h r4 (l4, aV 1024 (putN T el i)) r5 = some (l5, aW .int 10 P) := (hset_ne n5).trans h5
              have k6 : hset h r4 (l4, aV 1024 (putN T el i)) r6 = some (l6, aW .int 10 Q) := (hset_ne n6).trans h6
              have hbi : 2 ^ i < 2 ^ 10 := bit_lt (by omega)
              have hrt : rec i T = plcN P Q C Wn e f (el + 1) (used ||| 2 ^ i) (putN T el i) := by rw [← hrec]
              dsimp only [Option.toList, List.cons_append, List.nil_append]
              refine wa_aload_n hX (i := 0) dX5_place_49 rfl rfl ?_
              refine wa_iload_n hX (i := 1) dX5_place_50 rfl rfl ?_
              refine wi_iconst hX dX5_place_51 ?_
              refine wi_iadd hX dX5_place_52 ?_
              refine wa_iload_n hX (i := 2) dX5_place_53 rfl rfl ?_
              refine wi_iconst hX dX5_place_54 ?_
              refine wa_iload_n hX (i := 3) dX5_place_55 rfl rfl ?_
              refine wn_shl1 hX dX5_place_56 (by rfl) (by omega) ?_
              refine wn_ior hX dX5_place_57 (by rfl) (by rfl) ?_
              rw [show ((el : Int) + 1) = ((el + 1 : Nat) : Int) by omega]
              refine wa_callS hX (IH (el + 1) (used ||| 2 ^ i) (putN T el i) _ k1 k2 k3 k4 k5 k6 (by omega) (or_lt (e := 10) (by omega) hbi) (putN_lt (by omega) hlti)) (by rfl) (by omega) (nA := 3) (by rfl) (by decide +kernel) rfl (by exact Nat.le_of_ble_eq_true rfl) dX5_place_58 (fun r58 h58 p58 => ?_) (fun _ _ q => q.elim)
              obtain ⟨rfl, rfl⟩ := p58
              rw [hset_hset, ← hrt, ← hst]
              dsimp only [Option.toList, List.cons_append, List.nil_append]
              refine wi_if_eq hX (tgt := 66) dX5_place_61 (by decide) (by exact b2n_inR _) (fun c61 => ?_) (fun c61 => ?_)
              · skip
                refine wi_iinc hX dX5_place_66 rfl ?_
                dsimp only [List.set]
                refine wa_goto hX (tgt := 18) dX5_place_69 (by decide) ?_
                first
                  | (have q5 := b2n_f c61
                     exact ih (i + 1) ⟨by omega, q5⟩ (by omega))
                  | (have q5 : ok i T = false := by
                       rw [hoki]
                       first
                         | (have q6 := and_c1 c31; rw [q6]; rfl)
                         | (have q6 := b2n_f c40; rw [q6, Bool.and_false])
                     rw [if_neg (by rw [q5]; decide)] at hst
                     refine WA.heap ?_ (ih (i + 1) ⟨by omega, by rw [hst]; exact hf⟩ (by omega))
                     rw [hst, hT])
              · skip
                refine wi_iconst hX dX5_place_64 ?_
                refine wa_zret hX dX5_place_65 (by rfl) ?_
                have hT1 := b2n_t c61
                have hee := hstay (i + 1) (e - (i + 1)) hT1
                rw [show i + 1 + (e - (i + 1)) = e by omega] at hee
                rw [hee]
                exact ⟨by rw [hT1]; rfl, rfl⟩
      · skip
        refine wi_iconst hX dX5_place_14 ?_
        refine wa_zret hX dX5_place_15 (by rfl) ?_
        exfalso; omega
end C42
