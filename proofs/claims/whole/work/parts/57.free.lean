/-! Circuitfold$Drawing (X2): setFreeSigns -/
def fsP (J : Nat → Nat) (bs : Nat) (s : (Nat → Nat) × (Nat → Nat)) (el row : Nat) : (Nat → Nat) × (Nat → Nat) := if (!bs.testBit el && (J el).testBit row) = true then (if 99 ≤ (walkN s.1 row 10 (2 ^ el) (2 ^ el) s.2).1 then lrn s.1 el row else s.1, (walkN s.1 row 10 (2 ^ el) (2 ^ el) s.2).2) else s
def fsR (J : Nat → Nat) (bs : Nat) (s : (Nat → Nat) × (Nat → Nat)) (el : Nat) : Nat → (Nat → Nat) × (Nat → Nat)
  | 0 => s
  | n + 1 => fsP J bs (fsR J bs s el n) el n
def fsO (J : Nat → Nat) (bs e : Nat) (s : (Nat → Nat) × (Nat → Nat)) : Nat → (Nat → Nat) × (Nat → Nat)
  | 0 => s
  | n + 1 => fsR J bs (fsO J bs e s n) n e
theorem lrn_lt {K : Nat → Nat} {x y : Nat} (hx : x < 10) (hy : y < 10) (h : ∀ j, K j < 1024) : ∀ j, lrn K x y j < 1024 := by
  have h1 : ∀ j, up K x (K x ||| 2 ^ y) j < 1024 := fun j => by
    rw [up_is]
    split
    · exact or_lt (e := 10) (h x) (bit_lt hy)
    · exact h j
  intro j
  unfold lrn
  rw [up_is]
  split
  · exact or_lt (e := 10) (h1 y) (bit_lt hx)
  · exact h1 j
theorem fsR_lt {J : Nat → Nat} {bs el : Nat} {s : (Nat → Nat) × (Nat → Nat)} (hel : el < 10) (h : ∀ j, s.1 j < 1024) : ∀ n, n ≤ 10 → ∀ j, (fsR J bs s el n).1 j < 1024 := by
  intro n
  induction n with
  | zero => intro _; exact h
  | succ n ih =>
    intro hn
    have h1 := ih (by omega)
    show ∀ j, (fsP J bs (fsR J bs s el n) el n).1 j < 1024
    unfold fsP
    split
    · dsimp only
      split
      · exact lrn_lt hel (by omega) h1
      · exact h1
    · exact h1
theorem fsO_lt {J : Nat → Nat} {bs e : Nat} {s : (Nat → Nat) × (Nat → Nat)} (he : e ≤ 10) (h : ∀ j, s.1 j < 1024) : ∀ n, n ≤ e → ∀ j, (fsO J bs e s n).1 j < 1024 := by
  intro n
  induction n with
  | zero => intro _; exact h
  | succ n ih => intro hn; exact fsR_lt (by omega) (ih (by omega)) e he
theorem walkN_le {K : Nat → Nat} {to : Nat} : ∀ f rc front B, (walkN K to f rc front B).1 ≤ 99 := by
  intro f
  induction f with
  | zero => intro _ _ _; exact Nat.le_refl 99
  | succ f ih =>
    intro rc front B
    unfold walkN
    split
    · show 10 - f ≤ 99; omega
    · exact ih _ _ _
section C57
variable {l : Launch} {D : va_G} {S0 : State}
set_option maxRecDepth 100000 in
theorem c_X2_setFreeSigns (hW : WOK l D S0) (d : Nat) {h : AH} {a la mt lm jq kq bq nq cq lj lk lb ln bs full rq hq tq e : Nat} {tr sym : Int} {v2 v3 : Value} {J K0 B0 N : Nat → Nat} (h9 : h a = some (la, oDra mt (bs : Int) jq kq bq nq cq tr)) (hj : h jq = some (lj, aV 10 J)) (hk : h kq = some (lk, aV 10 K0)) (hb : h bq = some (lb, aV 10 B0)) (hn : h nq = some (ln, aV 10 N)) (hm : h mt = some (lm, oMat e full rq hq tq sym v2 v3)) (l1 : lj ≠ lk) (l2 : lj ≠ lb) (l3 : lk ≠ lb) (l4 : lk ≠ ln) (l5 : lb ≠ ln) (he : e ≤ 10) (hbs : bs < 1024) (hJ : ∀ j, j < 10 → J j < 1024) (hK0 : ∀ j, K0 j < 1024) : MA l D S0 yX2_setFreeSigns cX2_setFreeSigns 3 none (d + 2) [.ref a] h 0 0 (fun r h' => r = none ∧ h' = hset (hset h kq (lk, aV 10 (fsO J bs e (K0, B0) e).1)) bq (lb, aV 10 (fsO J bs e (K0, B0) e).2)) (fun _ _ => False) := by
  have hak := ne_oa h9 hk
  have hab := ne_oa h9 hb
  have hmk := ne_oa hm hk
  have hmb := ne_oa hm hb
  have hjk : jq ≠ kq := lab_ne hk hj l1
  have hjb : jq ≠ bq := lab_ne hb hj l2
  have hkb : kq ≠ bq := lab_ne hb hk l3
  have hnk : nq ≠ kq := lab_ne hk hn l4.symm
  have hnb : nq ≠ bq := lab_ne hb hn l5.symm
  have F : ∀ (K B : Nat → Nat) (H : AH), H = hset (hset h kq (lk, aV 10 K)) bq (lb, aV 10 B) → H a = some (la, oDra mt (bs : Int) jq kq bq nq cq tr) ∧ H jq = some (lj, aV 10 J) ∧ H kq = some (lk, aV 10 K) ∧ H bq = some (lb, aV 10 B) ∧ H nq = some (ln, aV 10 N) ∧ H mt = some (lm, oMat e full rq hq tq sym v2 v3) := fun K B H hH => by
    subst hH
    exact ⟨(hset_ne hab).trans ((hset_ne hak).trans h9), (hset_ne hjb).trans ((hset_ne hjk).trans hj), (hset_ne hkb).trans hset_eq, hset_eq, (hset_ne hnb).trans ((hset_ne hnk).trans hn), (hset_ne hmb).trans ((hset_ne hmk).trans hm)⟩
  refine MA.start hW (by decide) [.val (.ref a), .unset, .unset] rfl ?_
  rintro X rfl rfl rfl hX
  refine wi_iconst hX dX2_setFreeSigns_0 ?_
  refine wa_istore_n hX (i := 1) dX2_setFreeSigns_1 rfl (by first | rfl | exact hu1 | exact hu2 | exact hu3 | exact hu4) ?_
  dsimp only [List.set]
  refine WA.heap (show h = hset (hset h kq (lk, aV 10 (fsO J bs e (K0, B0) 0).1)) bq (lb, aV 10 (fsO J bs e (K0, B0) 0).2) by
    show h = hset (hset h kq (lk, aV 10 K0)) bq (lb, aV 10 B0)
    rw [hset_self hk, hset_self hb]) ?_
  refine WA.loop (σ := Nat × Slot) (fun z => e - z.1) (fun z => z.1 ≤ e ∧ okS [z.2] 0 = true) (fun z => hset (hset h kq (lk, aV 10 (fsO J bs e (K0, B0) z.1).1)) bq (lb, aV 10 (fsO J bs e (K0, B0) z.1).2)) (fun z => [.val (.ref a), .val (I (z.1 : Nat)), z.2]) ?_ (0, .unset) ⟨Nat.zero_le _, rfl⟩
  rintro ⟨i, u1⟩ ⟨hi, hu1⟩ ih
  dsimp only at hi hu1 ⊢
  have hst : fsO J bs e (K0, B0) (i + 1) = fsR J bs (fsO J bs e (K0, B0) i) i e := rfl
  have hlt := fsO_lt (J := J) (bs := bs) (s := (K0, B0)) he hK0 i hi
  generalize hS : fsO J bs e (K0, B0) i = s at hst hlt ⊢
  obtain ⟨kA, -, -, -, -, km⟩ := F s.1 s.2 _ rfl
  refine wa_iload_n hX (i := 1) dX2_setFreeSigns_2 rfl rfl ?_
  refine wa_aload_n hX (i := 0) dX2_setFreeSigns_3 rfl rfl ?_
  refine wa_get hX 0 (by assumption) (by rfl) (by decide +kernel) dX2_setFreeSigns_4 ?_
  refine wa_get hX 0 (by assumption) (by rfl) (by decide +kernel) dX2_setFreeSigns_7 ?_
  refine wi_icmp_ge hX (tgt := 65) dX2_setFreeSigns_10 (by decide) (by omega) (by omega) (fun c10 => ?_) (fun c10 => ?_)
  · skip
    refine wa_vret hX dX2_setFreeSigns_65 ?_
    rw [← hS, show i = e by omega]
    exact ⟨rfl, rfl⟩
  · skip
    refine wi_iconst hX dX2_setFreeSigns_13 ?_
    refine wa_istore_n hX (i := 2) dX2_setFreeSigns_14 rfl (by first | rfl | exact hu1 | exact hu2 | exact hu3 | exact hu4) ?_
    dsimp only [List.set]
    clear kA km
    refine WA.loop (σ := Nat) (fun z => e - z) (fun z => z ≤ e) (fun z => hset (hset h kq (lk, aV 10 (fsR J bs s i z).1)) bq (lb, aV 10 (fsR J bs s i z).2)) (fun z => [.val (.ref a), .val (I (i : Nat)), .val (I (z : Nat))]) ?_ 0 (Nat.zero_le _)
    intro n hn9 ih2
    have hst2 : fsR J bs s i (n + 1) = fsP J bs (fsR J bs s i n) i n := rfl
    have hl2 := fsR_lt (J := J) (bs := bs) (show i < 10 by omega) hlt n (by omega)
    generalize hR : fsR J bs s i n = t at hst2 hl2 ⊢
    obtain ⟨kA, kj, kk, kb, kn, km⟩ := F t.1 t.2 _ rfl
    unfold fsP at hst2
    refine wa_iload_n hX (i := 2) dX2_setFreeSigns_15 rfl rfl ?_
    refine wa_aload_n hX (i := 0) dX2_setFreeSigns_16 rfl rfl ?_
    refine wa_get hX 0 (by assumption) (by rfl) (by decide +kernel) dX2_setFreeSigns_17 ?_
    refine wa_get hX 0 (by assumption) (by rfl) (by decide +kernel) dX2_setFreeSigns_20 ?_
    refine wi_icmp_ge hX (tgt := 59) dX2_setFreeSigns_23 (by decide) (by omega) (by omega) (fun c23 => ?_) (fun c23 => ?_)
    · skip
      have hne : n = e := by omega
      refine wi_iinc hX dX2_setFreeSigns_59 rfl ?_
      dsimp only [List.set]
      refine wa_goto hX (tgt := 2) dX2_setFreeSigns_62 (by decide) ?_
      refine WA.heap ?_ (ih (i + 1, .val (I (n : Nat))) ⟨by show i + 1 ≤ e; omega, rfl⟩ (by show e - (i + 1) < e - i; omega))
      dsimp only
      rw [hst, ← hne, hR]
    · skip
      refine wa_aload_n hX (i := 0) dX2_setFreeSigns_26 rfl rfl ?_
      refine wa_iload_n hX (i := 1) dX2_setFreeSigns_27 rfl rfl ?_
      refine wa_iload_n hX (i := 2) dX2_setFreeSigns_28 rfl rfl ?_
      refine wa_callV hX (c_X2_isEntry hW d kA kj hbs hJ (el := i) (row := n) (by omega) (by omega)) (by assumption) (by rfl) (by rfl) (by omega) (nA := 2) (by rfl) (by decide +kernel) rfl (by exact Nat.le_of_ble_eq_true rfl) dX2_setFreeSigns_29 (fun r29 h29 p29 => ?_) (fun _ _ q => q.elim)
      obtain ⟨rfl, qq29⟩ := p29; subst h29
      dsimp only [Option.toList, List.cons_append, List.nil_append]
      refine wi_if_eq hX (tgt := 53) dX2_setFreeSigns_32 (by decide) (by exact b2n_inR _) (fun c32 => ?_) (fun c32 => ?_)
      · skip
        refine wi_iinc hX dX2_setFreeSigns_53 rfl ?_
        dsimp only [List.set]
        refine wa_goto hX (tgt := 15) dX2_setFreeSigns_56 (by decide) ?_
        first
          | (have w := b2n_f c32
             rw [if_neg (by rw [w]; decide)] at hst2
             refine WA.heap ?_ (ih2 (n + 1) (by omega) (by omega))
             rw [hst2])
          | (rw [if_pos (by omega)] at hst2
             refine WA.heap ?_ (ih2 (n + 1) (by omega) (by omega))
             rw [hst2])
          | (rw [if_neg (by omega)] at hst2
             refine WA.heap ?_ (ih2 (n + 1) (by omega) (by omega))
             rw [hst2])
      · skip
        refine wa_aload_n hX (i := 0) dX2_setFreeSigns_35 rfl rfl ?_
        refine wa_iload_n hX (i := 1) dX2_setFreeSigns_36 rfl rfl ?_
        refine wa_iload_n hX (i := 2) dX2_setFreeSigns_37 rfl rfl ?_
        have hyes := b2n_t c32
        rw [if_pos hyes] at hst2
        have hwl := walkN_le (K := t.1) (to := n) 10 (2 ^ i) (2 ^ i) t.2
        refine wa_callV hX (c_X2_walk hW d kA kk kb l3 (fun j _ => hl2 j) (from0 := i) (to := n) (by omega) (by omega)) (by assumption) (by rfl) (by rfl) (by omega) (nA := 2) (by rfl) (by decide +kernel) rfl (by exact Nat.le_of_ble_eq_true rfl) dX2_setFreeSigns_38 (fun r38 h38 p38 => ?_) (fun _ _ q => q.elim)
        obtain ⟨rfl, rfl⟩ := p38
        rw [hset_hset]
        obtain ⟨qA, qj, qk, qb, qn, qm⟩ := F t.1 (walkN t.1 n 10 (2 ^ i) (2 ^ i) t.2).2 _ rfl
        dsimp only [Option.toList, List.cons_append, List.nil_append]
        refine wi_bipush hX dX2_setFreeSigns_41 (by decide) ?_
        refine wi_icmp_lt hX (tgt := 53) dX2_setFreeSigns_43 (by decide) (by omega) (by omega) (fun c43 => ?_) (fun c43 => ?_)
        · skip
          refine wi_iinc hX dX2_setFreeSigns_53 rfl ?_
          dsimp only [List.set]
          refine wa_goto hX (tgt := 15) dX2_setFreeSigns_56 (by decide) ?_
          first
            | (have w := b2n_f c32
               rw [if_neg (by rw [w]; decide)] at hst2
               refine WA.heap ?_ (ih2 (n + 1) (by omega) (by omega))
               rw [hst2])
            | (rw [if_pos (by omega)] at hst2
               refine WA.heap ?_ (ih2 (n + 1) (by omega) (by omega))
               rw [hst2])
            | (rw [if_neg (by omega)] at hst2
               refine WA.heap ?_ (ih2 (n + 1) (by omega) (by omega))
               rw [hst2])
        · skip
          refine wa_aload_n hX (i := 0) dX2_setFreeSigns_46 rfl rfl ?_
          refine wa_iload_n hX (i := 1) dX2_setFreeSigns_47 rfl rfl ?_
          refine wa_iload_n hX (i := 2) dX2_setFreeSigns_48 rfl rfl ?_
          refine wi_iconst hX dX2_setFreeSigns_49 ?_
          refine wa_callV hX (c_X2_learn hW d qA qk qn l4 (el := i) (row := n) (mi := false) (by omega) (by omega)) (by assumption) (by rfl) (by rfl) (by omega) (nA := 3) (by rfl) (by decide +kernel) rfl (by exact Nat.le_of_ble_eq_true rfl) dX2_setFreeSigns_50 (fun r50 h50 p50 => ?_) (fun _ _ q => q.elim)
          obtain ⟨rfl, rfl⟩ := p50
          rw [if_neg (by decide), hset_comm hkb.symm, hset_hset]
          obtain ⟨xA, xj, xk, xb, xn, xm⟩ := F (lrn t.1 i n) (walkN t.1 n 10 (2 ^ i) (2 ^ i) t.2).2 _ rfl
          rw [hset_self xn]
          dsimp only [Option.toList, List.cons_append, List.nil_append]
          refine wi_iinc hX dX2_setFreeSigns_53 rfl ?_
          dsimp only [List.set]
          refine wa_goto hX (tgt := 15) dX2_setFreeSigns_56 (by decide) ?_
          first
            | (have w := b2n_f c32
               rw [if_neg (by rw [w]; decide)] at hst2
               refine WA.heap ?_ (ih2 (n + 1) (by omega) (by omega))
               rw [hst2])
            | (rw [if_pos (by omega)] at hst2
               refine WA.heap ?_ (ih2 (n + 1) (by omega) (by omega))
               rw [hst2])
            | (rw [if_neg (by omega)] at hst2
               refine WA.heap ?_ (ih2 (n + 1) (by omega) (by omega))
               rw [hst2])
end C57
