/-! Circuitfold$Minors (X7) -/
theorem hset_comm {h : AH} {a b : Nat} {x y : Nat × Ob} (e : a ≠ b) : hset (hset h a x) b y = hset (hset h b y) a x := by
  funext c
  unfold hset
  by_cases h1 : c = b
  · subst h1; rw [if_pos rfl, if_neg (Ne.symm e), if_pos rfl]
  · by_cases h2 : c = a
    · subst h2; rw [if_neg h1, if_pos rfl, if_pos rfl]
    · rw [if_neg h1, if_neg h2, if_neg h2, if_neg h1]
/-- the sets of nb elements whose deletion keeps the rank -/
def delB (rk : Nat → Nat) (e full nb s : Nat) : Bool := decide (bc s = nb) && decide (rk (sdf (2 ^ e - 1) s) = full)
section C48
variable {l : Launch} {D : va_G} {S0 : State}
set_option maxRecDepth 100000 in
theorem c_X7_listDeletions (hW : WOK l D S0) (d : Nat) {h : AH} {a la lk dq ld m lm full rq hq tq lr e nb : Nat} {li fo co de sym : Int} {lw lp v2 v3 : Value} {rk : Nat → Nat} {D0 : Nat → Int} (h1 : h a = some (la, oMin lk dq li lw lp fo co de)) (h2 : h dq = some (ld, aI .int 1024 D0)) (hm : h m = some (lm, oMat e full rq hq tq sym v2 v3)) (hr : h rq = some (lr, aB e rk)) (hl1 : lm ≠ la) (hl2 : lr ≠ ld) (he : e ≤ 10) (hrk : ∀ s, s < 2 ^ e → rk s ≤ 10) (hfu : full ≤ 10) (hnb : nb ≤ 10) : MA l D S0 yX7_listDeletions cX7_listDeletions 4 none (d + 2) [.ref a, .ref m, I (nb : Int)] h 0 0 (fun r h' => r = none ∧ ∃ D', h' = hset (hset h dq (ld, aI .int 1024 D')) a (la, oMin lk dq (cnt (delB rk e full nb) (2 ^ e) : Nat) lw lp fo co de) ∧ ∀ s, s < 2 ^ e → delB rk e full nb s = true → D' (cnt (delB rk e full nb) s) = (s : Int)) (fun _ _ => False) := by
  have hp := p2_le he
  have hp0 := p2_pos e
  have had := ne_oa h1 h2
  have hmd := ne_oa hm h2
  have hma : m ≠ a := lab_ne h1 hm hl1
  have hra : rq ≠ a := Ne.symm (ne_oa h1 hr)
  have hrd : rq ≠ dq := lab_ne h2 hr hl2
  refine MA.start hW (by decide) [.val (.ref a), .val (.ref m), .val (I (nb : Int)), .unset] rfl ?_
  rintro X rfl rfl rfl hX
  refine wa_aload_n hX (i := 0) dX7_listDeletions_0 rfl rfl ?_
  refine wi_iconst hX dX7_listDeletions_1 ?_
  refine wa_put hX 2 h1 (Nat.le_of_ble_eq_true rfl) (by decide +kernel) (by rfl) (by rfl) (by rfl) dX7_listDeletions_2 ?_
  refine wi_iconst hX dX7_listDeletions_5 ?_
  refine wa_istore_n hX (i := 3) dX7_listDeletions_6 rfl rfl ?_
  dsimp only [List.set]
  refine WA.heap (show _ = hset (hset h dq (ld, aI .int 1024 D0)) a (la, oMin lk dq 0 lw lp fo co de) by rw [hset_self h2]) ?_
  refine WA.loop (σ := Nat × (Nat → Int)) (fun z => 2 ^ e - z.1) (fun z => z.1 ≤ 2 ^ e ∧ ∀ s, s < z.1 → delB rk e full nb s = true → z.2 (cnt (delB rk e full nb) s) = (s : Int)) (fun z => hset (hset h dq (ld, aI .int 1024 z.2)) a (la, oMin lk dq (cnt (delB rk e full nb) z.1 : Nat) lw lp fo co de)) (fun z => [.val (.ref a), .val (.ref m), .val (I (nb : Int)), .val (I (z.1 : Nat))]) ?_ (0, D0) ⟨Nat.zero_le _, fun s hs => absurd hs (Nat.not_lt_zero s)⟩
  rintro ⟨i, K⟩ ⟨hi, hK⟩ ih
  dsimp only at hi hK ⊢
  have hcl := cnt_le (delB rk e full nb) i
  have k1 : hset (hset h dq (ld, aI .int 1024 K)) a (la, oMin lk dq (cnt (delB rk e full nb) i : Nat) lw lp fo co de) a = some (la, oMin lk dq (cnt (delB rk e full nb) i : Nat) lw lp fo co de) := hset_eq
  have k2 : hset (hset h dq (ld, aI .int 1024 K)) a (la, oMin lk dq (cnt (delB rk e full nb) i : Nat) lw lp fo co de) dq = some (ld, aI .int 1024 K) := (hset_ne (Ne.symm had)).trans hset_eq
  have km : hset (hset h dq (ld, aI .int 1024 K)) a (la, oMin lk dq (cnt (delB rk e full nb) i : Nat) lw lp fo co de) m = some (lm, oMat e full rq hq tq sym v2 v3) := (hset_ne hma).trans ((hset_ne hmd).trans hm)
  have kr : hset (hset h dq (ld, aI .int 1024 K)) a (la, oMin lk dq (cnt (delB rk e full nb) i : Nat) lw lp fo co de) rq = some (lr, aB e rk) := (hset_ne hra).trans ((hset_ne hrd).trans hr)
  have hx := sdf_lt (a := 2 ^ e - 1) (b := i) (show 2 ^ e - 1 < 2 ^ e by omega)
  have hrx := hrk _ hx
  have hb := bc_le i
  have hde : delB rk e full nb i = (decide (bc i = nb) && decide (rk (sdf (2 ^ e - 1) i) = full)) := rfl
  generalize hP : delB rk e full nb = p at hK ih hcl k1 k2 km kr hde ⊢
  refine wa_iload_n hX (i := 3) dX7_listDeletions_7 rfl rfl ?_
  refine wa_aload_n hX (i := 1) dX7_listDeletions_8 rfl rfl ?_
  refine wa_get hX 1 km (by rfl) (by decide +kernel) dX7_listDeletions_9 ?_
  refine wi_icmp_gt hX (tgt := 80) dX7_listDeletions_12 (by decide) (by omega) (by omega) (fun c12 => ?_) (fun c12 => ?_)
  · skip
    refine wa_vret hX dX7_listDeletions_80 ?_
    first
      | (exfalso; omega)
      | (have hie : i = 2 ^ e := by omega
         subst hie
         subst hP
         exact ⟨rfl, K, rfl, fun s hs hps => hK s hs hps⟩)
  · skip
    refine wa_aload_n hX (i := 0) dX7_listDeletions_15 rfl rfl ?_
    refine wa_get hX 2 k1 (by rfl) (by decide +kernel) dX7_listDeletions_16 ?_
    refine wa_aload_n hX (i := 0) dX7_listDeletions_19 rfl rfl ?_
    refine wa_get hX 1 k1 (by rfl) (by decide +kernel) dX7_listDeletions_20 ?_
    refine wa_len hX (by assumption) dX7_listDeletions_23 ?_
    refine wi_icmp_ge hX (tgt := 80) dX7_listDeletions_24 (by decide) (by omega) (by omega) (fun c24 => ?_) (fun c24 => ?_)
    · skip
      refine wa_vret hX dX7_listDeletions_80 ?_
      first
        | (exfalso; omega)
        | (have hie : i = 2 ^ e := by omega
           subst hie
           subst hP
           exact ⟨rfl, K, rfl, fun s hs hps => hK s hs hps⟩)
    · skip
      refine wa_iload_n hX (i := 3) dX7_listDeletions_27 rfl rfl ?_
      refine wa_callS hX (c_J6_bitCount hW (d + 1) (s := i) (by omega)) (by rfl) (by omega) (nA := 1) (by rfl) (by decide +kernel) rfl (by exact Nat.le_of_ble_eq_true rfl) dX7_listDeletions_28 (fun r28 h28 p28 => ?_) (fun _ _ q => q.elim)
      obtain ⟨rfl, qq28⟩ := p28; subst h28
      dsimp only [Option.toList, List.cons_append, List.nil_append]
      refine wa_iload_n hX (i := 2) dX7_listDeletions_31 rfl rfl ?_
      refine wi_icmp_ne hX (tgt := 74) dX7_listDeletions_32 (by decide) (by omega) (by omega) (fun c32 => ?_) (fun c32 => ?_)
      · skip
        refine wi_iinc hX dX7_listDeletions_74 rfl ?_
        dsimp only [List.set]
        refine wa_goto hX (tgt := 7) dX7_listDeletions_77 (by decide) ?_
        first
          | (have hpi : p i = true := by rw [hde, decide_eq_true (by omega), decide_eq_true (by omega)]; rfl
             have hcs := cnt_y (p := p) (n := i) hpi
             refine WA.heap ?_ (ih (i + 1, up K ((cnt p i : Nat) : Int).toNat (i : Int)) ⟨by show i + 1 ≤ 2 ^ e; omega, fun s hs hps => ?_⟩ (by show 2 ^ e - (i + 1) < 2 ^ e - i; omega))
             · dsimp only
               rw [hcs]; rfl
             · dsimp only at hs ⊢
               rw [up_is, Int.toNat_natCast]
               rcases Nat.lt_succ_iff_lt_or_eq.mp hs with q | q
               · have hlt : cnt p (s + 1) ≤ cnt p i := cnt_mono (by omega)
                 rw [cnt_y (p := p) (n := s) hps] at hlt
                 rw [if_neg (by omega)]
                 exact hK s q hps
               · subst q; rw [if_pos rfl])
          | (have hpi : ¬ p i = true := fun q => by
               rw [hde, Bool.and_eq_true] at q
               have q1 := of_decide_eq_true q.1
               have q2 := of_decide_eq_true q.2
               omega
             have hcs := cnt_n (p := p) (n := i) hpi
             refine WA.heap ?_ (ih (i + 1, K) ⟨by show i + 1 ≤ 2 ^ e; omega, fun s hs hps => ?_⟩ (by show 2 ^ e - (i + 1) < 2 ^ e - i; omega))
             · dsimp only
               rw [hcs]
             · dsimp only at hs
               rcases Nat.lt_succ_iff_lt_or_eq.mp hs with q | q
               · exact hK s q hps
               · subst q; exact absurd hps hpi)
      · skip
        refine wa_aload_n hX (i := 1) dX7_listDeletions_35 rfl rfl ?_
        refine wa_aload_n hX (i := 1) dX7_listDeletions_36 rfl rfl ?_
        refine wa_get hX 1 km (by rfl) (by decide +kernel) dX7_listDeletions_37 ?_
        refine wa_iload_n hX (i := 3) dX7_listDeletions_40 rfl rfl ?_
        refine wi_iconst hX dX7_listDeletions_41 ?_
        refine wa_ixor hX dX7_listDeletions_42 ?_
        refine wn_andn hX dX7_listDeletions_43 (by rfl) (by rfl) ?_
        refine wa_callV hX (c_X6_rank hW d km kr he (s := sdf (2 ^ e - 1) i) hx) (by assumption) (by rfl) (by rfl) (by omega) (nA := 1) (by rfl) (by decide +kernel) rfl (by exact Nat.le_of_ble_eq_true rfl) dX7_listDeletions_44 (fun r44 h44 p44 => ?_) (fun _ _ q => q.elim)
        obtain ⟨rfl, qq44⟩ := p44; subst h44
        dsimp only [Option.toList, List.cons_append, List.nil_append]
        refine wa_aload_n hX (i := 1) dX7_listDeletions_47 rfl rfl ?_
        refine wa_get hX 2 km (by rfl) (by decide +kernel) dX7_listDeletions_48 ?_
        refine wi_icmp_ne hX (tgt := 74) dX7_listDeletions_51 (by decide) (by omega) (by omega) (fun c51 => ?_) (fun c51 => ?_)
        · skip
          refine wi_iinc hX dX7_listDeletions_74 rfl ?_
          dsimp only [List.set]
          refine wa_goto hX (tgt := 7) dX7_listDeletions_77 (by decide) ?_
          first
            | (have hpi : p i = true := by rw [hde, decide_eq_true (by omega), decide_eq_true (by omega)]; rfl
               have hcs := cnt_y (p := p) (n := i) hpi
               refine WA.heap ?_ (ih (i + 1, up K ((cnt p i : Nat) : Int).toNat (i : Int)) ⟨by show i + 1 ≤ 2 ^ e; omega, fun s hs hps => ?_⟩ (by show 2 ^ e - (i + 1) < 2 ^ e - i; omega))
               · dsimp only
                 rw [hcs]; rfl
               · dsimp only at hs ⊢
                 rw [up_is, Int.toNat_natCast]
                 rcases Nat.lt_succ_iff_lt_or_eq.mp hs with q | q
                 · have hlt : cnt p (s + 1) ≤ cnt p i := cnt_mono (by omega)
                   rw [cnt_y (p := p) (n := s) hps] at hlt
                   rw [if_neg (by omega)]
                   exact hK s q hps
                 · subst q; rw [if_pos rfl])
            | (have hpi : ¬ p i = true := fun q => by
                 rw [hde, Bool.and_eq_true] at q
                 have q1 := of_decide_eq_true q.1
                 have q2 := of_decide_eq_true q.2
                 omega
               have hcs := cnt_n (p := p) (n := i) hpi
               refine WA.heap ?_ (ih (i + 1, K) ⟨by show i + 1 ≤ 2 ^ e; omega, fun s hs hps => ?_⟩ (by show 2 ^ e - (i + 1) < 2 ^ e - i; omega))
               · dsimp only
                 rw [hcs]
               · dsimp only at hs
                 rcases Nat.lt_succ_iff_lt_or_eq.mp hs with q | q
                 · exact hK s q hps
                 · subst q; exact absurd hps hpi)
        · skip
          refine wa_aload_n hX (i := 0) dX7_listDeletions_54 rfl rfl ?_
          refine wa_get hX 1 k1 (by rfl) (by decide +kernel) dX7_listDeletions_55 ?_
          refine wa_aload_n hX (i := 0) dX7_listDeletions_58 rfl rfl ?_
          refine wa_get hX 2 k1 (by rfl) (by decide +kernel) dX7_listDeletions_59 ?_
          refine wa_iload_n hX (i := 3) dX7_listDeletions_62 rfl rfl ?_
          refine wi_iastore hX k2 (by omega) (by omega) (by omega) dX7_listDeletions_63 ?_
          rw [hset_comm had, hset_hset]
          have j1 : hset (hset h dq (ld, aI .int 1024 (up K ((cnt p i : Nat) : Int).toNat (i : Int)))) a (la, oMin lk dq (cnt p i : Nat) lw lp fo co de) a = some (la, oMin lk dq (cnt p i : Nat) lw lp fo co de) := hset_eq
          refine wa_aload_n hX (i := 0) dX7_listDeletions_64 rfl rfl ?_
          refine wa_dup hX dX7_listDeletions_65 rfl ?_
          refine wa_get hX 2 j1 (by rfl) (by decide +kernel) dX7_listDeletions_66 ?_
          refine wi_iconst hX dX7_listDeletions_69 ?_
          refine wi_iadd hX dX7_listDeletions_70 ?_
          refine wa_put hX 2 j1 (Nat.le_of_ble_eq_true rfl) (by decide +kernel) (by rfl) (by rfl) (by rfl) dX7_listDeletions_71 ?_
          rw [hset_hset]
          refine wi_iinc hX dX7_listDeletions_74 rfl ?_
          dsimp only [List.set]
          refine wa_goto hX (tgt := 7) dX7_listDeletions_77 (by decide) ?_
          first
            | (have hpi : p i = true := by rw [hde, decide_eq_true (by omega), decide_eq_true (by omega)]; rfl
               have hcs := cnt_y (p := p) (n := i) hpi
               refine WA.heap ?_ (ih (i + 1, up K ((cnt p i : Nat) : Int).toNat (i : Int)) ⟨by show i + 1 ≤ 2 ^ e; omega, fun s hs hps => ?_⟩ (by show 2 ^ e - (i + 1) < 2 ^ e - i; omega))
               · dsimp only
                 rw [hcs]; rfl
               · dsimp only at hs ⊢
                 rw [up_is, Int.toNat_natCast]
                 rcases Nat.lt_succ_iff_lt_or_eq.mp hs with q | q
                 · have hlt : cnt p (s + 1) ≤ cnt p i := cnt_mono (by omega)
                   rw [cnt_y (p := p) (n := s) hps] at hlt
                   rw [if_neg (by omega)]
                   exact hK s q hps
                 · subst q; rw [if_pos rfl])
            | (have hpi : ¬ p i = true := fun q => by
                 rw [hde, Bool.and_eq_true] at q
                 have q1 := of_decide_eq_true q.1
                 have q2 := of_decide_eq_true q.2
                 omega
               have hcs := cnt_n (p := p) (n := i) hpi
               refine WA.heap ?_ (ih (i + 1, K) ⟨by show i + 1 ≤ 2 ^ e; omega, fun s hs hps => ?_⟩ (by show 2 ^ e - (i + 1) < 2 ^ e - i; omega))
               · dsimp only
                 rw [hcs]
               · dsimp only at hs
                 rcases Nat.lt_succ_iff_lt_or_eq.mp hs with q | q
                 · exact hK s q hps
                 · subst q; exact absurd hps hpi)
end C48
