/-! Circuitfold$Drawing (X2): join -/
def jnR (J : Nat → Nat) (el : Nat) : Nat → (Nat → Nat)
  | 0 => J
  | n + 1 => if (jnR J el n el).testBit n = true then up (jnR J el n) n (jnR J el n n ||| 2 ^ el) else jnR J el n
def jnO (sf : Nat → Nat) (e bs : Nat) (J0 : Nat → Nat) : Nat → (Nat → Nat)
  | 0 => J0
  | el + 1 => if bs.testBit el = true then jnO sf e bs J0 el else jnR (up (jnO sf e bs J0 el) el (sdf (cirN sf e bs el) (2 ^ el))) el 10
theorem jnR_lt {J : Nat → Nat} {el : Nat} (hel : el < 10) (h : ∀ j, J j < 1024) : ∀ n j, jnR J el n j < 1024 := by
  intro n
  induction n with
  | zero => exact h
  | succ n ih =>
    intro j
    unfold jnR
    split
    · rw [up_is]
      split
      · exact or_lt (e := 10) (ih n) (bit_lt hel)
      · exact ih j
    · exact ih j
theorem cirN_lt {sf : Nat → Nat} {e b el : Nat} (hel : el < e) : cirN sf e b el < 2 ^ e := or_lt (bit_lt hel) (orB_lt _ e e (Nat.le_refl e))
theorem jnO_lt {sf : Nat → Nat} {e bs : Nat} {J0 : Nat → Nat} (he : e ≤ 10) (h : ∀ j, J0 j < 1024) : ∀ n, n ≤ e → ∀ j, jnO sf e bs J0 n j < 1024 := by
  intro n
  induction n with
  | zero => intro _; exact h
  | succ n ih =>
    intro hn j
    have h1 := ih (by omega)
    have hp := p2_le he
    have h2 := sdf_lt (b := 2 ^ n) (cirN_lt (sf := sf) (b := bs) (show n < e by omega))
    unfold jnO
    split
    · exact h1 j
    · refine jnR_lt (by omega) (fun i => ?_) 10 j
      rw [up_is]
      split
      · omega
      · exact h1 i
section C56
variable {l : Launch} {D : va_G} {S0 : State}
set_option maxRecDepth 100000 in
theorem c_X2_join (hW : WOK l D S0) (d : Nat) {h : AH} {a la mt lm jq kq bq nq cq lj bs full rq hq tq lt e : Nat} {tr sym : Int} {v2 v3 : Value} {sf J0 : Nat → Nat} (h9 : h a = some (la, oDra mt (bs : Int) jq kq bq nq cq tr)) (hj : h jq = some (lj, aV 10 J0)) (hm : h mt = some (lm, oMat e full rq hq tq sym v2 v3)) (ht : h tq = some (lt, aB e sf)) (hl : lt ≠ lj) (he : e ≤ 10) (hbs : bs < 2 ^ e) (hJ : ∀ j, J0 j < 1024) (hsf : ∀ j, j < 2 ^ e → sf j < 32) : MA l D S0 yX2_join cX2_join 3 none (d + 2) [.ref a] h 0 0 (fun r h' => r = none ∧ h' = hset h jq (lj, aV 10 (jnO sf e bs J0 e))) (fun _ _ => False) := by
  have hp := p2_le he
  have haj := ne_oa h9 hj
  have hmj := ne_oa hm hj
  have htj : tq ≠ jq := lab_ne hj ht hl
  refine MA.start hW (by decide) [.val (.ref a), .unset, .unset] rfl ?_
  rintro X rfl rfl rfl hX
  refine wi_iconst hX dX2_join_0 ?_
  refine wa_istore_n hX (i := 1) dX2_join_1 rfl (by first | rfl | exact hu1 | exact hu2 | exact hu3 | exact hu4) ?_
  dsimp only [List.set]
  refine WA.heap (hset_self hj).symm ?_
  refine WA.loop (σ := Nat × Slot) (fun z => e - z.1) (fun z => z.1 ≤ e ∧ okS [z.2] 0 = true) (fun z => hset h jq (lj, aV 10 (jnO sf e bs J0 z.1))) (fun z => [.val (.ref a), .val (I (z.1 : Nat)), z.2]) ?_ (0, .unset) ⟨Nat.zero_le _, rfl⟩
  rintro ⟨i, u1⟩ ⟨hi, hu1⟩ ih
  dsimp only at hi hu1 ⊢
  have hst : jnO sf e bs J0 (i + 1) = (if bs.testBit i = true then jnO sf e bs J0 i else jnR (up (jnO sf e bs J0 i) i (sdf (cirN sf e bs i) (2 ^ i))) i 10) := rfl
  have hlt := jnO_lt (sf := sf) (bs := bs) he hJ i hi
  generalize hG : jnO sf e bs J0 i = G at hst hlt ⊢
  have k1 : hset h jq (lj, aV 10 G) a = some (la, oDra mt (bs : Int) jq kq bq nq cq tr) := (hset_ne haj).trans h9
  have k2 : hset h jq (lj, aV 10 G) jq = some (lj, aV 10 G) := hset_eq
  have km : hset h jq (lj, aV 10 G) mt = some (lm, oMat e full rq hq tq sym v2 v3) := (hset_ne hmj).trans hm
  have kt : hset h jq (lj, aV 10 G) tq = some (lt, aB e sf) := (hset_ne htj).trans ht
  refine wa_iload_n hX (i := 1) dX2_join_2 rfl rfl ?_
  refine wa_aload_n hX (i := 0) dX2_join_3 rfl rfl ?_
  refine wa_get hX 0 (by assumption) (by rfl) (by decide +kernel) dX2_join_4 ?_
  refine wa_get hX 0 (by assumption) (by rfl) (by decide +kernel) dX2_join_7 ?_
  refine wi_icmp_ge hX (tgt := 105) dX2_join_10 (by decide) (by omega) (by omega) (fun c10 => ?_) (fun c10 => ?_)
  · skip
    refine wa_vret hX dX2_join_105 ?_
    first
      | (exfalso; omega)
      | (rw [← hG, show i = e by omega]
         exact ⟨rfl, rfl⟩)
  · skip
    refine wa_iload_n hX (i := 1) dX2_join_13 rfl rfl ?_
    refine wa_aload_n hX (i := 0) dX2_join_14 rfl rfl ?_
    refine wa_get hX 2 (by assumption) (by rfl) (by decide +kernel) dX2_join_15 ?_
    refine wa_len hX (by assumption) dX2_join_18 ?_
    refine wi_icmp_ge hX (tgt := 105) dX2_join_19 (by decide) (by omega) (by omega) (fun c19 => ?_) (fun c19 => ?_)
    · skip
      refine wa_vret hX dX2_join_105 ?_
      first
        | (exfalso; omega)
        | (rw [← hG, show i = e by omega]
           exact ⟨rfl, rfl⟩)
    · skip
      refine wa_aload_n hX (i := 0) dX2_join_22 rfl rfl ?_
      refine wa_get hX 1 (by assumption) (by rfl) (by decide +kernel) dX2_join_23 ?_
      refine wa_iload_n hX (i := 1) dX2_join_26 rfl rfl ?_
      refine wa_callS hX (c_X2_has hW d (s := bs) (el := i) (by omega) (by omega)) (by rfl) (by omega) (nA := 2) (by rfl) (by decide +kernel) rfl (by exact Nat.le_of_ble_eq_true rfl) dX2_join_27 (fun r27 h27 p27 => ?_) (fun _ _ q => q.elim)
      obtain ⟨rfl, qq27⟩ := p27; subst h27
      dsimp only [Option.toList, List.cons_append, List.nil_append]
      refine wi_if_ne hX (tgt := 99) dX2_join_30 (by decide) (by exact b2n_inR _) (fun c30 => ?_) (fun c30 => ?_)
      · skip
        have q := b2n_t c30
        rw [if_pos q] at hst
        refine wi_iinc hX dX2_join_99 rfl ?_
        dsimp only [List.set]
        refine wa_goto hX (tgt := 2) dX2_join_102 (by decide) ?_
        refine WA.heap ?_ (ih (i + 1, u1) ⟨by show i + 1 ≤ e; omega, hu1⟩ (by show e - (i + 1) < e - i; omega))
        dsimp only
        rw [hst]
      · skip
        refine wa_aload_n hX (i := 0) dX2_join_33 rfl rfl ?_
        refine wa_get hX 2 (by assumption) (by rfl) (by decide +kernel) dX2_join_34 ?_
        refine wa_iload_n hX (i := 1) dX2_join_37 rfl rfl ?_
        refine wa_aload_n hX (i := 0) dX2_join_38 rfl rfl ?_
        refine wa_get hX 0 (by assumption) (by rfl) (by decide +kernel) dX2_join_39 ?_
        refine wa_aload_n hX (i := 0) dX2_join_42 rfl rfl ?_
        refine wa_get hX 1 (by assumption) (by rfl) (by decide +kernel) dX2_join_43 ?_
        refine wa_iload_n hX (i := 1) dX2_join_46 rfl rfl ?_
        refine wa_callV hX (c_X6_circuitIn hW d km kt he hbs (el := i) (by omega) hsf) (by assumption) (by rfl) (by rfl) (by omega) (nA := 2) (by rfl) (by decide +kernel) rfl (by exact Nat.le_of_ble_eq_true rfl) dX2_join_47 (fun r47 h47 p47 => ?_) (fun _ _ q => q.elim)
        obtain ⟨rfl, qq47⟩ := p47; subst h47
        dsimp only [Option.toList, List.cons_append, List.nil_append]
        refine wi_iconst hX dX2_join_50 ?_
        refine wa_iload_n hX (i := 1) dX2_join_51 rfl rfl ?_
        refine wn_shl1 hX dX2_join_52 (by rfl) (by omega) ?_
        refine wi_iconst hX dX2_join_53 ?_
        refine wa_ixor hX dX2_join_54 ?_
        refine wn_andn hX dX2_join_55 (by rfl) (by rfl) ?_
        have hcl := sdf_lt (b := 2 ^ i) (cirN_lt (sf := sf) (b := bs) (show i < e by omega))
        refine wi_iastore hX k2 (by omega) (by omega) (by omega) dX2_join_56 ?_
        refine WA.ext9 (fun j => ((up G i (sdf (cirN sf e bs i) (2 ^ i)) j : Nat) : Int)) hset_eq (fun j hj => up_cast) ?_
        rw [hset_hset, hset_hset]
        refine wi_iconst hX dX2_join_57 ?_
        refine wa_istore_n hX (i := 2) dX2_join_58 rfl (by first | rfl | exact hu1 | exact hu2 | exact hu3 | exact hu4) ?_
        dsimp only [List.set]
        have q := b2n_f c30
        rw [if_neg (by rw [q]; decide)] at hst
        have hlt2 : ∀ j, up G i (sdf (cirN sf e bs i) (2 ^ i)) j < 1024 := fun j => by
          rw [up_is]
          split
          · omega
          · exact hlt j
        generalize up G i (sdf (cirN sf e bs i) (2 ^ i)) = G2 at hst hlt2 ⊢
        refine WA.loop (σ := Nat) (fun z => 10 - z) (fun z => z ≤ 10) (fun z => hset h jq (lj, aV 10 (jnR G2 i z))) (fun z => [.val (.ref a), .val (I (i : Nat)), .val (I (z : Nat))]) ?_ 0 (Nat.zero_le _)
        intro n hn ih2
        have hr := jnR_lt (show i < 10 by omega) hlt2 n
        have hst2 : jnR G2 i (n + 1) = (if (jnR G2 i n i).testBit n = true then up (jnR G2 i n) n (jnR G2 i n n ||| 2 ^ i) else jnR G2 i n) := rfl
        have j1 : hset h jq (lj, aV 10 (jnR G2 i n)) a = some (la, oDra mt (bs : Int) jq kq bq nq cq tr) := (hset_ne haj).trans h9
        have j2 : hset h jq (lj, aV 10 (jnR G2 i n)) jq = some (lj, aV 10 (jnR G2 i n)) := hset_eq
        have hri := hr i
        refine wa_iload_n hX (i := 2) dX2_join_59 rfl rfl ?_
        refine wa_aload_n hX (i := 0) dX2_join_60 rfl rfl ?_
        refine wa_get hX 2 j1 (by rfl) (by decide +kernel) dX2_join_61 ?_
        refine wa_len hX j2 dX2_join_64 ?_
        refine wi_icmp_ge hX (tgt := 99) dX2_join_65 (by decide) (by omega) (by omega) (fun c65 => ?_) (fun c65 => ?_)
        · skip
          refine wi_iinc hX dX2_join_99 rfl ?_
          dsimp only [List.set]
          refine wa_goto hX (tgt := 2) dX2_join_102 (by decide) ?_
          have hn10 : n = 10 := by omega
          subst hn10
          refine WA.heap ?_ (ih (i + 1, .val (I ((10 : Nat) : Int))) ⟨by show i + 1 ≤ e; omega, rfl⟩ (by show e - (i + 1) < e - i; omega))
          dsimp only
          rw [hst]
        · skip
          refine wa_aload_n hX (i := 0) dX2_join_68 rfl rfl ?_
          refine wa_get hX 2 j1 (by rfl) (by decide +kernel) dX2_join_69 ?_
          refine wa_iload_n hX (i := 1) dX2_join_72 rfl rfl ?_
          refine wi_iaload hX j2 (by omega) (by omega) (by omega) dX2_join_73 ?_
          rw [Int.toNat_natCast]
          refine wa_iload_n hX (i := 2) dX2_join_74 rfl rfl ?_
          refine wa_callS hX (c_X2_has hW d (s := jnR G2 i n i) (el := n) (by omega) (by omega)) (by rfl) (by omega) (nA := 2) (by rfl) (by decide +kernel) rfl (by exact Nat.le_of_ble_eq_true rfl) dX2_join_75 (fun r75 h75 p75 => ?_) (fun _ _ q => q.elim)
          obtain ⟨rfl, qq75⟩ := p75; subst h75
          dsimp only [Option.toList, List.cons_append, List.nil_append]
          refine wi_if_eq hX (tgt := 93) dX2_join_78 (by decide) (by exact b2n_inR _) (fun c78 => ?_) (fun c78 => ?_)
          · skip
            refine wi_iinc hX dX2_join_93 rfl ?_
            dsimp only [List.set]
            refine wa_goto hX (tgt := 59) dX2_join_96 (by decide) ?_
            first
              | (have w := b2n_t c78
                 rw [if_pos w] at hst2
                 refine WA.heap ?_ (ih2 (n + 1) (by omega) (by omega))
                 rw [hst2])
              | (have w := b2n_f c78
                 rw [if_neg (by rw [w]; decide)] at hst2
                 refine WA.heap ?_ (ih2 (n + 1) (by omega) (by omega))
                 rw [hst2])
          · skip
            refine wa_aload_n hX (i := 0) dX2_join_81 rfl rfl ?_
            refine wa_get hX 2 j1 (by rfl) (by decide +kernel) dX2_join_82 ?_
            refine wa_iload_n hX (i := 2) dX2_join_85 rfl rfl ?_
            refine wa_dup2 hX dX2_join_86 rfl rfl ?_
            refine wi_iaload hX j2 (by omega) (by omega) (by omega) dX2_join_87 ?_
            rw [Int.toNat_natCast]
            refine wi_iconst hX dX2_join_88 ?_
            refine wa_iload_n hX (i := 1) dX2_join_89 rfl rfl ?_
            refine wn_shl1 hX dX2_join_90 (by rfl) (by omega) ?_
            refine wn_ior hX dX2_join_91 (by rfl) (by rfl) ?_
            refine wi_iastore hX j2 (by omega) (by omega) (by omega) dX2_join_92 ?_
            refine WA.ext9 (fun j => ((up (jnR G2 i n) n (jnR G2 i n n ||| 2 ^ i) j : Nat) : Int)) hset_eq (fun j hj => up_cast) ?_
            rw [hset_hset, hset_hset]
            refine wi_iinc hX dX2_join_93 rfl ?_
            dsimp only [List.set]
            refine wa_goto hX (tgt := 59) dX2_join_96 (by decide) ?_
            first
              | (have w := b2n_t c78
                 rw [if_pos w] at hst2
                 refine WA.heap ?_ (ih2 (n + 1) (by omega) (by omega))
                 rw [hst2])
              | (have w := b2n_f c78
                 rw [if_neg (by rw [w]; decide)] at hst2
                 refine WA.heap ?_ (ih2 (n + 1) (by omega) (by omega))
                 rw [hst2])
end C56
