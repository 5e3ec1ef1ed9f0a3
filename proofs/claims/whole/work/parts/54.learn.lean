/-! Circuitfold$Drawing (X2): learn, entryAt -/
theorem up_cast {K : Nat → Nat} {x z j : Nat} : up (fun j => ((K j : Nat) : Int)) (x : Int).toNat ((z : Nat) : Int) j = ((up K x z j : Nat) : Int) := by
  rw [up_is, up_is, Int.toNat_natCast]
  split <;> rfl
section C54
variable {l : Launch} {D : va_G} {S0 : State}
set_option maxRecDepth 100000 in
theorem c_X2_entryAt (hW : WOK l D S0) (d : Nat) {h : AH} {a la mt jq kq bq nq cq lc f rows n c2 r2 p2 lx el row : Nat} {bs tr : Int} {rc : Nat → Nat} {C : Nat → Int} (h9 : h a = some (la, oDra mt bs jq kq bq nq cq tr)) (hc : h cq = some (lc, oElim f rows n c2 r2 p2)) (g2 : h c2 = some (lx, aRR n rc)) (hel : el < n) {l3 : Nat} (g3 : h (rc el) = some (l3, aI .int rows C)) (hrow : row < rows) (hn : n ≤ 10) (hr : rows ≤ 10) : MA l D S0 yX2_entryAt cX2_entryAt 3 (some .int) (d + 1) [.ref a, I (row : Int), I (el : Int)] h 0 0 (fun r h' => r = some (I (C row)) ∧ h' = h) (fun _ _ => False) := by
  refine MA.start hW (by decide) [.val (.ref a), .val (I (row : Int)), .val (I (el : Int))] rfl ?_
  rintro X rfl rfl rfl hX
  refine wa_aload_n hX (i := 0) dX2_entryAt_0 rfl rfl ?_
  refine wa_get hX 6 (by assumption) (by rfl) (by decide +kernel) dX2_entryAt_1 ?_
  refine wa_iload_n hX (i := 2) dX2_entryAt_4 rfl rfl ?_
  refine wa_iload_n hX (i := 1) dX2_entryAt_5 rfl rfl ?_
  refine wa_callV hX (c_X3_get hW d hc g2 hel g3 hrow hn hr) (by assumption) (by rfl) (by rfl) (by omega) (nA := 2) (by rfl) (by decide +kernel) rfl (by exact Nat.le_of_ble_eq_true rfl) dX2_entryAt_6 (fun r6 h6 p6 => ?_) (fun _ _ q => q.elim)
  obtain ⟨rfl, qq6⟩ := p6; subst h6
  dsimp only [Option.toList, List.cons_append, List.nil_append]
  refine wa_iret hX dX2_entryAt_9 ?_
  exact ⟨rfl, rfl⟩
set_option maxRecDepth 100000 in
theorem c_X2_learn (hW : WOK l D S0) (d : Nat) {h : AH} {a la mt jq kq bq nq cq lk ln el row : Nat} {bs tr : Int} {K N : Nat → Nat} {mi : Bool} (h9 : h a = some (la, oDra mt bs jq kq bq nq cq tr)) (hk : h kq = some (lk, aV 10 K)) (hn : h nq = some (ln, aV 10 N)) (hl : lk ≠ ln) (hel : el < 10) (hrow : row < 10) : MA l D S0 yX2_learn cX2_learn 4 none d [.ref a, I (el : Int), I (row : Int), I ((b2n mi : Nat) : Int)] h 0 0 (fun r h' => r = none ∧ h' = hset (hset h kq (lk, aV 10 (lrn K el row))) nq (ln, aV 10 (if mi then lrn N el row else N))) (fun _ _ => False) := by
  have hak := ne_oa h9 hk
  have han := ne_oa h9 hn
  have hkn : kq ≠ nq := lab_ne hn hk hl
  refine MA.start hW (by decide) [.val (.ref a), .val (I (el : Int)), .val (I (row : Int)), .val (I ((b2n mi : Nat) : Int))] rfl ?_
  rintro X rfl rfl rfl hX
  refine wa_iload_n hX (i := 1) dX2_learn_0 rfl rfl ?_
  refine wi_if_lt hX (tgt := 26) dX2_learn_1 (by decide) (by omega) (fun c1 => ?_) (fun c1 => ?_)
  · skip
    refine wa_vret hX dX2_learn_26 ?_
    exfalso; omega
  · skip
    refine wa_iload_n hX (i := 1) dX2_learn_4 rfl rfl ?_
    refine wa_aload_n hX (i := 0) dX2_learn_5 rfl rfl ?_
    refine wa_get hX 3 (by assumption) (by rfl) (by decide +kernel) dX2_learn_6 ?_
    refine wa_len hX (by assumption) dX2_learn_9 ?_
    refine wi_icmp_ge hX (tgt := 26) dX2_learn_10 (by decide) (by omega) (by omega) (fun c10 => ?_) (fun c10 => ?_)
    · skip
      refine wa_vret hX dX2_learn_26 ?_
      exfalso; omega
    · skip
      refine wa_iload_n hX (i := 2) dX2_learn_13 rfl rfl ?_
      refine wi_if_lt hX (tgt := 26) dX2_learn_14 (by decide) (by omega) (fun c14 => ?_) (fun c14 => ?_)
      · skip
        refine wa_vret hX dX2_learn_26 ?_
        exfalso; omega
      · skip
        refine wa_iload_n hX (i := 2) dX2_learn_17 rfl rfl ?_
        refine wa_aload_n hX (i := 0) dX2_learn_18 rfl rfl ?_
        refine wa_get hX 3 (by assumption) (by rfl) (by decide +kernel) dX2_learn_19 ?_
        refine wa_len hX (by assumption) dX2_learn_22 ?_
        refine wi_icmp_lt hX (tgt := 27) dX2_learn_23 (by decide) (by omega) (by omega) (fun c23 => ?_) (fun c23 => ?_)
        · skip
          refine wa_aload_n hX (i := 0) dX2_learn_27 rfl rfl ?_
          refine wa_get hX 3 (by assumption) (by rfl) (by decide +kernel) dX2_learn_28 ?_
          refine wa_iload_n hX (i := 1) dX2_learn_31 rfl rfl ?_
          refine wa_dup2 hX dX2_learn_32 rfl rfl ?_
          refine wi_iaload hX hk (by omega) (by omega) (by omega) dX2_learn_33 ?_
          rw [Int.toNat_natCast]
          refine wi_iconst hX dX2_learn_34 ?_
          refine wa_iload_n hX (i := 2) dX2_learn_35 rfl rfl ?_
          refine wn_shl1 hX dX2_learn_36 (by rfl) (by omega) ?_
          refine wn_ior hX dX2_learn_37 (by rfl) (by rfl) ?_
          refine wi_iastore hX hk (by omega) (by omega) (by omega) dX2_learn_38 ?_
          refine WA.ext9 (fun j => ((up K el (K el ||| 2 ^ row) j : Nat) : Int)) hset_eq (fun j hj => up_cast) ?_
          rw [hset_hset]
          have k1 : hset h kq (lk, aV 10 (up K el (K el ||| 2 ^ row))) a = some (la, oDra mt bs jq kq bq nq cq tr) := (hset_ne hak).trans h9
          have k2 : hset h kq (lk, aV 10 (up K el (K el ||| 2 ^ row))) kq = some (lk, aV 10 (up K el (K el ||| 2 ^ row))) := hset_eq
          refine WA.heap (h2 := hset h kq (lk, aV 10 (up K el (K el ||| 2 ^ row)))) rfl ?_
          refine wa_aload_n hX (i := 0) dX2_learn_39 rfl rfl ?_
          refine wa_get hX 3 k1 (by rfl) (by decide +kernel) dX2_learn_40 ?_
          refine wa_iload_n hX (i := 2) dX2_learn_43 rfl rfl ?_
          refine wa_dup2 hX dX2_learn_44 rfl rfl ?_
          refine wi_iaload hX k2 (by omega) (by omega) (by omega) dX2_learn_45 ?_
          rw [Int.toNat_natCast]
          refine wi_iconst hX dX2_learn_46 ?_
          refine wa_iload_n hX (i := 1) dX2_learn_47 rfl rfl ?_
          refine wn_shl1 hX dX2_learn_48 (by rfl) (by omega) ?_
          refine wn_ior hX dX2_learn_49 (by rfl) (by rfl) ?_
          refine wi_iastore hX k2 (by omega) (by omega) (by omega) dX2_learn_50 ?_
          refine WA.ext9 (fun j => ((lrn K el row j : Nat) : Int)) hset_eq (fun j hj => up_cast) ?_
          rw [hset_hset, hset_hset]
          have j1 : hset h kq (lk, aV 10 (lrn K el row)) a = some (la, oDra mt bs jq kq bq nq cq tr) := (hset_ne hak).trans h9
          have j3 : hset h kq (lk, aV 10 (lrn K el row)) nq = some (ln, aV 10 N) := (hset_ne hkn.symm).trans hn
          refine WA.heap (h2 := hset h kq (lk, aV 10 (lrn K el row))) rfl ?_
          generalize hgA : hset h kq (lk, aV 10 (lrn K el row)) = hA at j1 j3 ⊢
          refine wa_iload_n hX (i := 3) dX2_learn_51 rfl rfl ?_
          refine wi_if_eq hX (tgt := 79) dX2_learn_52 (by decide) (by exact b2n_inR _) (fun c52 => ?_) (fun c52 => ?_)
          · skip
            refine wa_vret hX dX2_learn_79 ?_
            first
              | (have q := b2n_f c52
                 rw [q, if_neg (by decide), hgA, hset_self j3]
                 exact ⟨rfl, rfl⟩)
              | (have q := b2n_t c52
                 rw [q, if_pos rfl, hgA]
                 exact ⟨rfl, rfl⟩)
          · skip
            refine wa_aload_n hX (i := 0) dX2_learn_55 rfl rfl ?_
            refine wa_get hX 5 j1 (by rfl) (by decide +kernel) dX2_learn_56 ?_
            refine wa_iload_n hX (i := 1) dX2_learn_59 rfl rfl ?_
            refine wa_dup2 hX dX2_learn_60 rfl rfl ?_
            refine wi_iaload hX j3 (by omega) (by omega) (by omega) dX2_learn_61 ?_
            rw [Int.toNat_natCast]
            refine wi_iconst hX dX2_learn_62 ?_
            refine wa_iload_n hX (i := 2) dX2_learn_63 rfl rfl ?_
            refine wn_shl1 hX dX2_learn_64 (by rfl) (by omega) ?_
            refine wn_ior hX dX2_learn_65 (by rfl) (by rfl) ?_
            refine wi_iastore hX j3 (by omega) (by omega) (by omega) dX2_learn_66 ?_
            refine WA.ext9 (fun j => ((up N el (N el ||| 2 ^ row) j : Nat) : Int)) hset_eq (fun j hj => up_cast) ?_
            rw [hset_hset]
            have m1 : hset hA nq (ln, aV 10 (up N el (N el ||| 2 ^ row))) a = some (la, oDra mt bs jq kq bq nq cq tr) := (hset_ne han).trans j1
            have m2 : hset hA nq (ln, aV 10 (up N el (N el ||| 2 ^ row))) nq = some (ln, aV 10 (up N el (N el ||| 2 ^ row))) := hset_eq
            refine WA.heap (h2 := hset hA nq (ln, aV 10 (up N el (N el ||| 2 ^ row)))) rfl ?_
            refine wa_aload_n hX (i := 0) dX2_learn_67 rfl rfl ?_
            refine wa_get hX 5 m1 (by rfl) (by decide +kernel) dX2_learn_68 ?_
            refine wa_iload_n hX (i := 2) dX2_learn_71 rfl rfl ?_
            refine wa_dup2 hX dX2_learn_72 rfl rfl ?_
            refine wi_iaload hX m2 (by omega) (by omega) (by omega) dX2_learn_73 ?_
            rw [Int.toNat_natCast]
            refine wi_iconst hX dX2_learn_74 ?_
            refine wa_iload_n hX (i := 1) dX2_learn_75 rfl rfl ?_
            refine wn_shl1 hX dX2_learn_76 (by rfl) (by omega) ?_
            refine wn_ior hX dX2_learn_77 (by rfl) (by rfl) ?_
            refine wi_iastore hX m2 (by omega) (by omega) (by omega) dX2_learn_78 ?_
            refine WA.ext9 (fun j => ((lrn N el row j : Nat) : Int)) hset_eq (fun j hj => up_cast) ?_
            rw [hset_hset, hset_hset]
            refine wa_vret hX dX2_learn_79 ?_
            first
              | (have q := b2n_f c52
                 rw [q, if_neg (by decide), hgA, hset_self j3]
                 exact ⟨rfl, rfl⟩)
              | (have q := b2n_t c52
                 rw [q, if_pos rfl, hgA]
                 exact ⟨rfl, rfl⟩)
        · skip
          refine wa_vret hX dX2_learn_26 ?_
          exfalso; omega
end C54
