/-! Circuitfold$Drawing (X2): closeRing -/
/-- the way back: place, ring, sign after so many steps -/
def rgN (B N : Nat → Nat) (el row : Nat) : Nat → Nat × Nat × Bool
  | 0 => (row, 2 ^ row, false)
  | k + 1 => if (rgN B N el row k).1 = el then rgN B N el row k else (B (rgN B N el row k).1, (rgN B N el row k).2.1 ||| 2 ^ B (rgN B N el row k).1, xor (rgN B N el row k).2.2 ((N (rgN B N el row k).1).testBit (B (rgN B N el row k).1)))
theorem rgN_lt {B N : Nat → Nat} {el row : Nat} (hrow : row < 10) (hB : ∀ j, j < 10 → B j < 10) : ∀ k, (rgN B N el row k).1 < 10 ∧ (rgN B N el row k).2.1 < 1024 := by
  intro k
  induction k with
  | zero => exact ⟨hrow, bit_lt (e := 10) hrow⟩
  | succ k ih =>
    unfold rgN
    split
    · exact ih
    · exact ⟨hB _ ih.1, or_lt (e := 10) ih.2 (bit_lt (hB _ ih.1))⟩
theorem rgN_stay {B N : Nat → Nat} {el row k : Nat} (h : (rgN B N el row k).1 = el) : ∀ m, rgN B N el row (k + m) = rgN B N el row k := by
  intro m
  induction m with
  | zero => rfl
  | succ m ih =>
    have e1 : rgN B N el row (k + (m + 1)) = (if (rgN B N el row (k + m)).1 = el then rgN B N el row (k + m) else (B (rgN B N el row (k + m)).1, (rgN B N el row (k + m)).2.1 ||| 2 ^ B (rgN B N el row (k + m)).1, xor (rgN B N el row (k + m)).2.2 ((N (rgN B N el row (k + m)).1).testBit (B (rgN B N el row (k + m)).1)))) := rfl
    rw [e1, ih, if_pos h]
theorem walkB_lt {K : Nat → Nat} {to : Nat} : ∀ f rc front B, (∀ j, B j < 10) → ∀ j, (walkN K to f rc front B).2 j < 10 := by
  intro f
  induction f with
  | zero => intro _ _ B h; exact h
  | succ f ih =>
    intro rc front B h
    have hw : ∀ n, n ≤ 10 → ∀ j, (wkI K front rc B n).2.2 j < 10 := by
      intro n
      induction n with
      | zero => intro _; exact h
      | succ n ih2 =>
        intro hn j
        have := ih2 (by omega)
        unfold wkI
        split
        · dsimp only
          split
          · omega
          · exact this j
        · exact this j
    unfold walkN
    split
    · exact hw 10 (Nat.le_refl 10)
    · exact ih _ _ _ (hw 10 (Nat.le_refl 10))
theorem b2n_xor (x y : Bool) : b2n x ^^^ b2n y = b2n (xor x y) := by cases x <;> cases y <;> rfl
def srtB (sf : Nat → Nat) (e x : Nat) : Bool := decide (x < 2 ^ e) && (sf x &&& 2 != 0)
def sgnN (sf B N : Nat → Nat) (e bs el row : Nat) : Bool := xor (xor (rgN B N el row 10).2.2 (decide (bc ((rgN B N el row 10).2.1 &&& bs) % 2 = 1))) (srtB sf e (bs ^^^ (rgN B N el row 10).2.1))
section C58
variable {l : Launch} {D : va_G} {S0 : State}
theorem c_X6_srt (hW : WOK l D S0) (d : Nat) {h : AH} {a la e full rq hq tq lt x : Nat} {sym : Int} {v2 v3 : Value} {sf : Nat → Nat} (h1 : h a = some (la, oMat e full rq hq tq sym v2 v3)) (h2 : h tq = some (lt, aB e sf)) (he : e ≤ 10) (hx : x < 1024) (hsf : ∀ j, j < 2 ^ e → sf j < 32) : MA l D S0 yX6_isSort cX6_isSort 3 (some .boolean) d [.ref a, I (x : Int), I (2 : Nat)] h 0 0 (fun r h' => r = some (I ((b2n (srtB sf e x) : Nat) : Int)) ∧ h' = h) (fun _ _ => False) := by
  have hp := p2_le he
  have hp0 := p2_pos e
  have h := c_X6_isSort hW d h1 h2 (so := 2) he (i := (x : Int)) (by omega) hsf
  have e9 : (if 0 ≤ (x : Int) ∧ (x : Int) < ((2 ^ e : Nat) : Int) ∧ sf (x : Int).toNat &&& 2 ≠ 0 then 1 else 0) = ((b2n (srtB sf e x) : Nat) : Int) := by
    rw [Int.toNat_natCast]
    unfold srtB b2n
    by_cases q1 : x < 2 ^ e
    · by_cases q2 : sf x &&& 2 = 0
      · rw [if_neg (fun z => z.2.2 q2)]; simp [q2]
      · rw [if_pos ⟨by omega, by omega, q2⟩]; simp [q1, q2]
    · rw [if_neg (fun z => by have := z.2.1; omega)]; simp [q1]
  rw [e9] at h
  exact h
set_option maxHeartbeats 6000000 in
set_option maxRecDepth 100000 in
theorem c_X2_closeRing (hW : WOK l D S0) (d : Nat) {h : AH} {a la mt lm jq kq bq nq cq lk lb ln lt bs full rq hq tq e el row : Nat} {tr sym : Int} {v2 v3 : Value} {sf K B0 N : Nat → Nat} (h9 : h a = some (la, oDra mt (bs : Int) jq kq bq nq cq tr)) (hk : h kq = some (lk, aV 10 K)) (hb : h bq = some (lb, aV 10 B0)) (hn : h nq = some (ln, aV 10 N)) (hm : h mt = some (lm, oMat e full rq hq tq sym v2 v3)) (ht : h tq = some (lt, aB e sf)) (l3 : lk ≠ lb) (l4 : lk ≠ ln) (l5 : lb ≠ ln) (l6 : lt ≠ lb) (he : e ≤ 10) (hbs : bs < 1024) (hK : ∀ j, j < 10 → K j < 1024) (hN : ∀ j, N j < 1024) (hB0 : ∀ j, B0 j < 10) (hel : el < 10) (hrow : row < 10) (hsf : ∀ j, j < 2 ^ e → sf j < 32) : MA l D S0 yX2_closeRing cX2_closeRing 8 none (d + 2) [.ref a, I (el : Int), I (row : Int)] h 0 0 (fun r h' => r = none ∧ h' = hset (hset (hset h bq (lb, aV 10 (walkN K row 10 (2 ^ el) (2 ^ el) B0).2)) kq (lk, aV 10 (lrn K el row))) nq (ln, aV 10 (if sgnN sf (walkN K row 10 (2 ^ el) (2 ^ el) B0).2 N e bs el row then lrn N el row else N))) (fun _ _ => False) := by
  have hab := ne_oa h9 hb
  have hmb := ne_oa hm hb
  have hkb : kq ≠ bq := lab_ne hb hk l3
  have hnb : nq ≠ bq := lab_ne hb hn l5.symm
  have htb : tq ≠ bq := lab_ne hb ht l6
  have hwB := walkB_lt (K := K) (to := row) 10 (2 ^ el) (2 ^ el) B0 hB0
  refine MA.start hW (by decide) [.val (.ref a), .val (I (el : Int)), .val (I (row : Int)), .unset, .unset, .unset, .unset, .unset] rfl ?_
  rintro X rfl rfl rfl hX
  refine wa_aload_n hX (i := 0) dX2_closeRing_0 rfl rfl ?_
  refine wa_iload_n hX (i := 1) dX2_closeRing_1 rfl rfl ?_
  refine wa_iload_n hX (i := 2) dX2_closeRing_2 rfl rfl ?_
  refine wa_callV hX (c_X2_walk hW d h9 hk hb l3 hK hel hrow) (by assumption) (by rfl) (by rfl) (by omega) (nA := 2) (by rfl) (by decide +kernel) rfl (by exact Nat.le_of_ble_eq_true rfl) dX2_closeRing_3 (fun r3 h3 p3 => ?_) (fun _ _ q => q.elim)
  obtain ⟨rfl, rfl⟩ := p3
  have kA : hset h bq (lb, aV 10 (walkN K row 10 (2 ^ el) (2 ^ el) B0).2) a = some (la, oDra mt (bs : Int) jq kq bq nq cq tr) := (hset_ne hab).trans h9
  have kk : hset h bq (lb, aV 10 (walkN K row 10 (2 ^ el) (2 ^ el) B0).2) kq = some (lk, aV 10 K) := (hset_ne hkb).trans hk
  have kb : hset h bq (lb, aV 10 (walkN K row 10 (2 ^ el) (2 ^ el) B0).2) bq = some (lb, aV 10 (walkN K row 10 (2 ^ el) (2 ^ el) B0).2) := hset_eq
  have kn : hset h bq (lb, aV 10 (walkN K row 10 (2 ^ el) (2 ^ el) B0).2) nq = some (ln, aV 10 N) := (hset_ne hnb).trans hn
  have km : hset h bq (lb, aV 10 (walkN K row 10 (2 ^ el) (2 ^ el) B0).2) mt = some (lm, oMat e full rq hq tq sym v2 v3) := (hset_ne hmb).trans hm
  have kt : hset h bq (lb, aV 10 (walkN K row 10 (2 ^ el) (2 ^ el) B0).2) tq = some (lt, aB e sf) := (hset_ne htb).trans ht
  generalize hB9 : (walkN K row 10 (2 ^ el) (2 ^ el) B0).2 = B at hwB kA kk kb kn km kt ⊢
  generalize hHA : hset h bq (lb, aV 10 B) = hA at kA kk kb kn km kt ⊢
  dsimp only [Option.toList, List.cons_append, List.nil_append]
  refine wa_pop hX dX2_closeRing_6 rfl ?_
  refine wi_iconst hX dX2_closeRing_7 ?_
  refine wa_iload_n hX (i := 2) dX2_closeRing_8 rfl rfl ?_
  refine wn_shl1 hX dX2_closeRing_9 (by rfl) (by omega) ?_
  refine wa_istore_n hX (i := 3) dX2_closeRing_10 rfl (by first | rfl | assumption) ?_
  dsimp only [List.set]
  refine wi_iconst hX dX2_closeRing_11 ?_
  refine wa_istore hX dX2_closeRing_12 (by first | rfl | assumption) ?_
  dsimp only [List.set]
  refine wa_iload_n hX (i := 2) dX2_closeRing_14 rfl rfl ?_
  refine wa_istore hX dX2_closeRing_15 (by first | rfl | assumption) ?_
  dsimp only [List.set]
  refine wi_iconst hX dX2_closeRing_17 ?_
  refine wa_istore hX dX2_closeRing_18 (by first | rfl | assumption) ?_
  dsimp only [List.set]
  have hlt10 := rgN_lt (B := B) (N := N) (el := el) hrow (fun j _ => hwB j) 10
  have hsg : sgnN sf B N e bs el row = xor (xor (rgN B N el row 10).2.2 (decide (bc ((rgN B N el row 10).2.1 &&& bs) % 2 = 1))) (srtB sf e (bs ^^^ (rgN B N el row 10).2.1)) := rfl
  have tail : ∀ (k : Nat) (u1 : Slot), okS [u1] 0 = true → WA X hA 0 0 80 [.val (.ref a), .val (I (el : Int)), .val (I (row : Int)), .val (I ((rgN B N el row 10).2.1 : Nat)), .val (I ((b2n (rgN B N el row 10).2.2 : Nat) : Int)), .val (I ((rgN B N el row 10).1 : Nat)), .val (I (k : Nat)), u1] [] := by
    intro k u1 hu1
    generalize (rgN B N el row 10).1 = th at hlt10 ⊢
    generalize (rgN B N el row 10).2.1 = rg at hlt10 hsg ⊢
    generalize (rgN B N el row 10).2.2 = mi at hsg ⊢
    have t143 : ∀ s6 s7 : Slot, WA X hA 0 0 143 [.val (.ref a), .val (I (el : Int)), .val (I (row : Int)), .val (I (rg : Nat)), .val (I ((b2n mi : Nat) : Int)), .val (I (th : Nat)), s6, s7] [I ((b2n (srtB sf e (bs ^^^ rg)) : Nat) : Int), I ((b2n (xor mi (decide (bc (rg &&& bs) % 2 = 1))) : Nat) : Int), I (row : Int), I (el : Int), .ref a] := by
      intro s6 s7
      refine wn_ixor hX dX2_closeRing_143 (by rfl) (by rfl) ?_
      rw [b2n_xor, ← hsg]
      refine wa_callV hX (c_X2_learn hW d kA kk kn l4 hel hrow) (by assumption) (by rfl) (by rfl) (by omega) (nA := 3) (by rfl) (by decide +kernel) rfl (by exact Nat.le_of_ble_eq_true rfl) dX2_closeRing_144 (fun r144 h144 p144 => ?_) (fun _ _ q => q.elim)
      obtain ⟨rfl, rfl⟩ := p144
      dsimp only [Option.toList, List.cons_append, List.nil_append]
      refine wa_vret hX dX2_closeRing_147 ?_
      exact ⟨rfl, by rw [hB9, hHA]⟩
    have t123 : ∀ s7 : Slot, okS [s7] 0 = true → WA X hA 0 0 123 [.val (.ref a), .val (I (el : Int)), .val (I (row : Int)), .val (I (rg : Nat)), .val (I ((b2n mi : Nat) : Int)), .val (I (th : Nat)), .val (I ((b2n (decide (bc (rg &&& bs) % 2 = 1)) : Nat) : Int)), s7] [I ((b2n (!srtB sf e (bs ^^^ rg)) : Nat) : Int)] := by
      intro s7 hu7
      refine wa_istore hX dX2_closeRing_123 (by first | rfl | assumption) ?_
      dsimp only [List.set]
      refine wa_aload_n hX (i := 0) dX2_closeRing_125 rfl rfl ?_
      refine wa_iload_n hX (i := 1) dX2_closeRing_126 rfl rfl ?_
      refine wa_iload_n hX (i := 2) dX2_closeRing_127 rfl rfl ?_
      refine wa_iload hX dX2_closeRing_128 rfl ?_
      refine wa_iload hX dX2_closeRing_130 rfl ?_
      refine wn_ixor hX dX2_closeRing_132 (by rfl) (by rfl) ?_
      rw [b2n_xor]
      refine wa_iload hX dX2_closeRing_133 rfl ?_
      refine wi_if_ne hX (tgt := 142) dX2_closeRing_135 (by decide) (by exact b2n_inR _) (fun c135 => ?_) (fun c135 => ?_)
      · skip
        refine wi_iconst hX dX2_closeRing_142 ?_
        refine WA.eq rfl rfl ?_ (t143 _ _)
        first
          | (have q := b2n_t c135; rw [Bool.not_eq_true'] at q; rw [q]; rfl)
          | (have q := b2n_f c135; rw [Bool.not_eq_false'] at q; rw [q]; rfl)
      · skip
        refine wi_iconst hX dX2_closeRing_138 ?_
        refine wa_goto hX (tgt := 143) dX2_closeRing_139 (by decide) ?_
        refine WA.eq rfl rfl ?_ (t143 _ _)
        first
          | (have q := b2n_t c135; rw [Bool.not_eq_true'] at q; rw [q]; rfl)
          | (have q := b2n_f c135; rw [Bool.not_eq_false'] at q; rw [q]; rfl)
    have t99 : WA X hA 0 0 99 [.val (.ref a), .val (I (el : Int)), .val (I (row : Int)), .val (I (rg : Nat)), .val (I ((b2n mi : Nat) : Int)), .val (I (th : Nat)), .val (I (k : Nat)), u1] [I ((b2n (decide (bc (rg &&& bs) % 2 = 1)) : Nat) : Int)] := by
      refine wa_istore hX dX2_closeRing_99 (by first | rfl | assumption) ?_
      dsimp only [List.set]
      refine wa_aload_n hX (i := 0) dX2_closeRing_101 rfl rfl ?_
      refine wa_get hX 0 kA (by rfl) (by decide +kernel) dX2_closeRing_102 ?_
      refine wa_aload_n hX (i := 0) dX2_closeRing_105 rfl rfl ?_
      refine wa_get hX 1 kA (by rfl) (by decide +kernel) dX2_closeRing_106 ?_
      refine wa_iload_n hX (i := 3) dX2_closeRing_109 rfl rfl ?_
      refine wn_ixor hX dX2_closeRing_110 (by rfl) (by rfl) ?_
      refine wi_iconst hX dX2_closeRing_111 ?_
      refine wa_callV hX (c_X6_srt hW d km kt he (x := bs ^^^ rg) (Nat.xor_lt_two_pow (n := 10) hbs hlt10.2) hsf) (by assumption) (by rfl) (by rfl) (by omega) (nA := 2) (by rfl) (by decide +kernel) rfl (by exact Nat.le_of_ble_eq_true rfl) dX2_closeRing_112 (fun r112 h112 p112 => ?_) (fun _ _ q => q.elim)
      obtain ⟨rfl, qq112⟩ := p112; subst h112
      dsimp only [Option.toList, List.cons_append, List.nil_append]
      refine wi_if_ne hX (tgt := 122) dX2_closeRing_115 (by decide) (by exact b2n_inR _) (fun c115 => ?_) (fun c115 => ?_)
      · skip
        refine wi_iconst hX dX2_closeRing_122 ?_
        refine WA.eq rfl rfl ?_ (t123 _ hu1)
        first
          | (have q := b2n_t c115; rw [q]; rfl)
          | (have q := b2n_f c115; rw [q]; rfl)
      · skip
        refine wi_iconst hX dX2_closeRing_118 ?_
        refine wa_goto hX (tgt := 123) dX2_closeRing_119 (by decide) ?_
        refine WA.eq rfl rfl ?_ (t123 _ hu1)
        first
          | (have q := b2n_t c115; rw [q]; rfl)
          | (have q := b2n_f c115; rw [q]; rfl)
    have hbc := bc_le (rg &&& bs)
    refine wa_iload_n hX (i := 3) dX2_closeRing_80 rfl rfl ?_
    refine wa_aload_n hX (i := 0) dX2_closeRing_81 rfl rfl ?_
    refine wa_get hX 1 kA (by rfl) (by decide +kernel) dX2_closeRing_82 ?_
    refine wn_iand hX dX2_closeRing_85 (by rfl) (by rfl) ?_
    refine wa_callS hX (c_J6_bitCount hW d (s := rg &&& bs) (and_ltl hlt10.2)) (by rfl) (by omega) (nA := 1) (by rfl) (by decide +kernel) rfl (by exact Nat.le_of_ble_eq_true rfl) dX2_closeRing_86 (fun r86 h86 p86 => ?_) (fun _ _ q => q.elim)
    obtain ⟨rfl, qq86⟩ := p86; subst h86
    dsimp only [Option.toList, List.cons_append, List.nil_append]
    refine wi_iconst hX dX2_closeRing_89 ?_
    refine wn_irem hX (a := bc (rg &&& bs)) (b := 2) dX2_closeRing_90 rfl rfl (by omega) (by omega) (by omega) ?_
    refine wi_if_eq hX (tgt := 98) dX2_closeRing_91 (by decide) (by omega) (fun c91 => ?_) (fun c91 => ?_)
    · skip
      refine wi_iconst hX dX2_closeRing_98 ?_
      refine WA.eq rfl rfl ?_ t99
      first
        | (rw [decide_eq_true (by omega)]; rfl)
        | (rw [decide_eq_false (by omega)]; rfl)
    · skip
      refine wi_iconst hX dX2_closeRing_94 ?_
      refine wa_goto hX (tgt := 99) dX2_closeRing_95 (by decide) ?_
      refine WA.eq rfl rfl ?_ t99
      first
        | (rw [decide_eq_true (by omega)]; rfl)
        | (rw [decide_eq_false (by omega)]; rfl)
  clear hsg hlt10
  refine WA.loop (σ := Nat × Slot) (fun z => 10 - z.1) (fun z => z.1 ≤ 10 ∧ okS [z.2] 0 = true) (fun _ => hA) (fun z => [.val (.ref a), .val (I (el : Int)), .val (I (row : Int)), .val (I ((rgN B N el row z.1).2.1 : Nat)), .val (I ((b2n (rgN B N el row z.1).2.2 : Nat) : Int)), .val (I ((rgN B N el row z.1).1 : Nat)), .val (I (z.1 : Nat)), z.2]) ?_ (0, .unset) ⟨Nat.zero_le _, rfl⟩
  rintro ⟨k, u1⟩ ⟨hk9, hu1⟩ ih
  dsimp only at hk9 hu1 ⊢
  have hst : rgN B N el row (k + 1) = (if (rgN B N el row k).1 = el then rgN B N el row k else (B (rgN B N el row k).1, (rgN B N el row k).2.1 ||| 2 ^ B (rgN B N el row k).1, xor (rgN B N el row k).2.2 ((N (rgN B N el row k).1).testBit (B (rgN B N el row k).1)))) := rfl
  have hlt := rgN_lt (B := B) (N := N) (el := el) hrow (fun j _ => hwB j) k
  have hBt := hwB (rgN B N el row k).1
  have hNt := hN (rgN B N el row k).1
  refine wa_iload hX dX2_closeRing_20 rfl ?_
  refine wi_bipush hX dX2_closeRing_22 (by decide) ?_
  refine wi_icmp_ge hX (tgt := 80) dX2_closeRing_24 (by decide) (by omega) (by omega) (fun c24 => ?_) (fun c24 => ?_)
  · skip
    have hfin : rgN B N el row 10 = rgN B N el row k := by
      first
        | (rw [show k = 10 by omega])
        | (have q := rgN_stay (B := B) (N := N) (el := el) (row := row) (k := k) (by omega) (10 - k)
           rw [show k + (10 - k) = 10 by omega] at q
           exact q)
    rw [← hfin]
    exact tail _ _ hu1
  · skip
    refine wa_iload hX dX2_closeRing_27 rfl ?_
    refine wa_iload_n hX (i := 1) dX2_closeRing_29 rfl rfl ?_
    refine wi_icmp_eq hX (tgt := 80) dX2_closeRing_30 (by decide) (by omega) (by omega) (fun c30 => ?_) (fun c30 => ?_)
    · skip
      have hfin : rgN B N el row 10 = rgN B N el row k := by
        first
          | (rw [show k = 10 by omega])
          | (have q := rgN_stay (B := B) (N := N) (el := el) (row := row) (k := k) (by omega) (10 - k)
             rw [show k + (10 - k) = 10 by omega] at q
             exact q)
      rw [← hfin]
      exact tail _ _ hu1
    · skip
      refine wa_aload_n hX (i := 0) dX2_closeRing_33 rfl rfl ?_
      refine wa_get hX 4 kA (by rfl) (by decide +kernel) dX2_closeRing_34 ?_
      refine wa_iload hX dX2_closeRing_37 rfl ?_
      refine wa_callS hX (c_X2_at hW d kb (by decide) (i := ((rgN B N el row k).1 : Int)) (by omega)) (by rfl) (by omega) (nA := 2) (by rfl) (by decide +kernel) rfl (by exact Nat.le_of_ble_eq_true rfl) dX2_closeRing_39 (fun r39 h39 p39 => ?_) (fun _ _ q => q.elim)
      obtain ⟨rfl, qq39⟩ := p39; subst h39
      rw [atv_in hlt.1]
      dsimp only [Option.toList, List.cons_append, List.nil_append]
      refine wa_istore hX dX2_closeRing_42 (by first | rfl | assumption) ?_
      dsimp only [List.set]
      refine wa_iload hX dX2_closeRing_44 rfl ?_
      refine wa_aload_n hX (i := 0) dX2_closeRing_46 rfl rfl ?_
      refine wa_get hX 5 kA (by rfl) (by decide +kernel) dX2_closeRing_47 ?_
      refine wa_iload hX dX2_closeRing_50 rfl ?_
      refine wa_callS hX (c_X2_at hW d kn (by decide) (i := ((rgN B N el row k).1 : Int)) (by omega)) (by rfl) (by omega) (nA := 2) (by rfl) (by decide +kernel) rfl (by exact Nat.le_of_ble_eq_true rfl) dX2_closeRing_52 (fun r52 h52 p52 => ?_) (fun _ _ q => q.elim)
      obtain ⟨rfl, qq52⟩ := p52; subst h52
      rw [atv_in hlt.1]
      dsimp only [Option.toList, List.cons_append, List.nil_append]
      refine wa_iload hX dX2_closeRing_55 rfl ?_
      refine wa_callS hX (c_X2_has hW d (s := N (rgN B N el row k).1) (el := B (rgN B N el row k).1) (by omega) (by omega)) (by rfl) (by omega) (nA := 2) (by rfl) (by decide +kernel) rfl (by exact Nat.le_of_ble_eq_true rfl) dX2_closeRing_57 (fun r57 h57 p57 => ?_) (fun _ _ q => q.elim)
      obtain ⟨rfl, qq57⟩ := p57; subst h57
      dsimp only [Option.toList, List.cons_append, List.nil_append]
      refine wn_ixor hX dX2_closeRing_60 (by rfl) (by rfl) ?_
      rw [b2n_xor]
      refine wa_istore hX dX2_closeRing_61 (by first | rfl | assumption) ?_
      dsimp only [List.set]
      refine wa_iload_n hX (i := 3) dX2_closeRing_63 rfl rfl ?_
      refine wi_iconst hX dX2_closeRing_64 ?_
      refine wa_iload hX dX2_closeRing_65 rfl ?_
      refine wn_shl1 hX dX2_closeRing_67 (by rfl) (by omega) ?_
      refine wn_ior hX dX2_closeRing_68 (by rfl) (by rfl) ?_
      refine wa_istore_n hX (i := 3) dX2_closeRing_69 rfl (by first | rfl | assumption) ?_
      dsimp only [List.set]
      refine wa_iload hX dX2_closeRing_70 rfl ?_
      refine wa_istore hX dX2_closeRing_72 (by first | rfl | assumption) ?_
      dsimp only [List.set]
      refine wi_iinc hX dX2_closeRing_74 rfl ?_
      dsimp only [List.set]
      refine wa_goto hX (tgt := 20) dX2_closeRing_77 (by decide) ?_
      rw [if_neg (by omega)] at hst
      refine WA.eq rfl ?_ rfl (ih (k + 1, .val (I (B (rgN B N el row k).1 : Nat))) ⟨by show k + 1 ≤ 10; omega, rfl⟩ (by show 10 - (k + 1) < 10 - k; omega))
      dsimp only
      rw [hst]
      rfl
end C58
