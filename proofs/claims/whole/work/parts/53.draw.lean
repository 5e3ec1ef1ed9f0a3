/-! Circuitfold$Drawing (X2): small methods -/
abbrev oDra (mt : Nat) (bs : Int) (jq kq bq nq cq : Nat) (tr : Int) : Ob := oF 4 [.ref mt, I bs, .ref jq, .ref kq, .ref bq, .ref nq, .ref cq, I tr]
def lrn (K : Nat → Nat) (x y : Nat) : Nat → Nat := up (up K x (K x ||| 2 ^ y)) y (up K x (K x ||| 2 ^ y) y ||| 2 ^ x)
section C53
variable {l : Launch} {D : va_G} {S0 : State}
set_option maxRecDepth 100000 in
theorem c_X2_has (hW : WOK l D S0) (d : Nat) {h : AH} {s el : Nat} (hs : s < 2147483648) (hel : el < 32) : MA l D S0 yX2_has cX2_has 2 (some .boolean) d [I (s : Int), I (el : Int)] h 0 0 (fun r h' => r = some (I ((b2n (s.testBit el) : Nat) : Int)) ∧ h' = h) (fun _ _ => False) := by
  refine MA.start hW (by decide) [.val (I (s : Int)), .val (I (el : Int))] rfl ?_
  rintro X rfl rfl rfl hX
  refine wa_iload_n hX (i := 0) dX2_has_0 rfl rfl ?_
  refine wi_iconst hX dX2_has_1 ?_
  refine wa_iload_n hX (i := 1) dX2_has_2 rfl rfl ?_
  refine wn_shl1 hX dX2_has_3 (by rfl) (by omega) ?_
  refine wn_iand hX dX2_has_4 (by rfl) (by rfl) ?_
  refine wi_if_eq hX (tgt := 12) dX2_has_5 (by decide) (by exact inR_nat (and_ltl (by omega))) (fun c5 => ?_) (fun c5 => ?_)
  · skip
    refine wi_iconst hX dX2_has_12 ?_
    refine wa_zret hX dX2_has_13 (by rfl) ?_
    refine ⟨?_, rfl⟩
    first
      | (have q := and_c0 c5; rw [q]; rfl)
      | (have q := and_c1 c5; rw [q]; rfl)
  · skip
    refine wi_iconst hX dX2_has_8 ?_
    refine wa_goto hX (tgt := 13) dX2_has_9 (by decide) ?_
    refine wa_zret hX dX2_has_13 (by rfl) ?_
    refine ⟨?_, rfl⟩
    first
      | (have q := and_c0 c5; rw [q]; rfl)
      | (have q := and_c1 c5; rw [q]; rfl)
set_option maxRecDepth 100000 in
theorem c_X2_at (hW : WOK l D S0) (d : Nat) {h : AH} {q lq n : Nat} {i : Int} {g : Nat → Int} (h9 : h q = some (lq, aI .int n g)) (hn : n < 2147483648) (hi : inR i) : MA l D S0 yX2_at cX2_at 2 (some .int) d [.ref q, I i] h 0 0 (fun r h' => r = some (I (atv n g i)) ∧ h' = h) (fun _ _ => False) := by
  refine MA.start hW (by decide) [.val (.ref q), .val (I i)] rfl ?_
  rintro X rfl rfl rfl hX
  refine wa_iload_n hX (i := 1) dX2_at_0 rfl rfl ?_
  refine wi_if_lt hX (tgt := 16) dX2_at_1 (by decide) (by omega) (fun c1 => ?_) (fun c1 => ?_)
  · skip
    refine wi_iconst hX dX2_at_16 ?_
    refine wa_iret hX dX2_at_17 ?_
    refine ⟨?_, rfl⟩
    unfold atv
    first
      | rw [if_pos (by omega)]
      | rw [if_neg (by omega)]
  · skip
    refine wa_iload_n hX (i := 1) dX2_at_4 rfl rfl ?_
    refine wa_aload_n hX (i := 0) dX2_at_5 rfl rfl ?_
    refine wa_len hX (by assumption) dX2_at_6 ?_
    refine wi_icmp_ge hX (tgt := 16) dX2_at_7 (by decide) (by omega) (by omega) (fun c7 => ?_) (fun c7 => ?_)
    · skip
      refine wi_iconst hX dX2_at_16 ?_
      refine wa_iret hX dX2_at_17 ?_
      refine ⟨?_, rfl⟩
      unfold atv
      first
        | rw [if_pos (by omega)]
        | rw [if_neg (by omega)]
    · skip
      refine wa_aload_n hX (i := 0) dX2_at_10 rfl rfl ?_
      refine wa_iload_n hX (i := 1) dX2_at_11 rfl rfl ?_
      refine wi_iaload hX (by assumption) (by omega) (by omega) (by omega) dX2_at_12 ?_
      refine wa_goto hX (tgt := 17) dX2_at_13 (by decide) ?_
      refine wa_iret hX dX2_at_17 ?_
      refine ⟨?_, rfl⟩
      unfold atv
      first
        | rw [if_pos (by omega)]
        | rw [if_neg (by omega)]
set_option maxRecDepth 100000 in
theorem c_X2_isTrue (hW : WOK l D S0) (d : Nat) {h : AH} {a la mt jq kq bq nq cq : Nat} {bs tr : Int} (h9 : h a = some (la, oDra mt bs jq kq bq nq cq tr)) (hb : tr = 0 ∨ tr = 1) : MA l D S0 yX2_isTrue cX2_isTrue 1 (some .boolean) d [.ref a] h 0 0 (fun r h' => r = some (I tr) ∧ h' = h) (fun _ _ => False) := by
  refine MA.start hW (by decide) [.val (.ref a)] rfl ?_
  rintro X rfl rfl rfl hX
  refine wa_aload_n hX (i := 0) dX2_isTrue_0 rfl rfl ?_
  refine wa_get hX 7 (by assumption) (by rfl) (by decide +kernel) dX2_isTrue_1 ?_
  refine wa_zret hX dX2_isTrue_4 (by rcases hb with q | q <;> subst q <;> rfl) ?_
  exact ⟨rfl, rfl⟩
set_option maxRecDepth 100000 in
theorem c_X2_isEntry (hW : WOK l D S0) (d : Nat) {h : AH} {a la mt jq kq bq nq cq lj bs el row : Nat} {tr : Int} {J : Nat → Nat} (h9 : h a = some (la, oDra mt (bs : Int) jq kq bq nq cq tr)) (hj : h jq = some (lj, aV 10 J)) (hbs : bs < 1024) (hJ : ∀ j, j < 10 → J j < 1024) (hel : el < 10) (hrow : row < 10) : MA l D S0 yX2_isEntry cX2_isEntry 3 (some .boolean) (d + 1) [.ref a, I (el : Int), I (row : Int)] h 0 0 (fun r h' => r = some (I ((b2n (!bs.testBit el && (J el).testBit row) : Nat) : Int)) ∧ h' = h) (fun _ _ => False) := by
  have hJe := hJ el hel
  refine MA.start hW (by decide) [.val (.ref a), .val (I (el : Int)), .val (I (row : Int))] rfl ?_
  rintro X rfl rfl rfl hX
  refine wa_aload_n hX (i := 0) dX2_isEntry_0 rfl rfl ?_
  refine wa_get hX 1 (by assumption) (by rfl) (by decide +kernel) dX2_isEntry_1 ?_
  refine wa_iload_n hX (i := 1) dX2_isEntry_4 rfl rfl ?_
  refine wa_callS hX (c_X2_has hW d (s := bs) (el := el) (by omega) (by omega)) (by rfl) (by omega) (nA := 2) (by rfl) (by decide +kernel) rfl (by exact Nat.le_of_ble_eq_true rfl) dX2_isEntry_5 (fun r5 h5 p5 => ?_) (fun _ _ q => q.elim)
  obtain ⟨rfl, qq5⟩ := p5; subst h5
  dsimp only [Option.toList, List.cons_append, List.nil_append]
  refine wi_if_ne hX (tgt := 30) dX2_isEntry_8 (by decide) (by exact b2n_inR _) (fun c8 => ?_) (fun c8 => ?_)
  · skip
    refine wi_iconst hX dX2_isEntry_30 ?_
    refine wa_zret hX dX2_isEntry_31 (by rfl) ?_
    refine ⟨?_, rfl⟩
    first
      | (have q := b2n_t c8; rw [q]; rfl)
      | (have q := b2n_f c8; have q2 := b2n_f c23; rw [q, q2]; rfl)
      | (have q := b2n_f c8; have q2 := b2n_t c23; rw [q, q2]; rfl)
  · skip
    refine wa_aload_n hX (i := 0) dX2_isEntry_11 rfl rfl ?_
    refine wa_get hX 2 (by assumption) (by rfl) (by decide +kernel) dX2_isEntry_12 ?_
    refine wa_iload_n hX (i := 1) dX2_isEntry_15 rfl rfl ?_
    refine wa_callS hX (c_X2_at hW d hj (by decide) (i := (el : Int)) (by omega)) (by rfl) (by omega) (nA := 2) (by rfl) (by decide +kernel) rfl (by exact Nat.le_of_ble_eq_true rfl) dX2_isEntry_16 (fun r16 h16 p16 => ?_) (fun _ _ q => q.elim)
    obtain ⟨rfl, qq16⟩ := p16; subst h16
    rw [atv_in hel]
    dsimp only [Option.toList, List.cons_append, List.nil_append]
    refine wa_iload_n hX (i := 2) dX2_isEntry_19 rfl rfl ?_
    refine wa_callS hX (c_X2_has hW d (s := J el) (el := row) (by omega) (by omega)) (by rfl) (by omega) (nA := 2) (by rfl) (by decide +kernel) rfl (by exact Nat.le_of_ble_eq_true rfl) dX2_isEntry_20 (fun r20 h20 p20 => ?_) (fun _ _ q => q.elim)
    obtain ⟨rfl, qq20⟩ := p20; subst h20
    dsimp only [Option.toList, List.cons_append, List.nil_append]
    refine wi_if_eq hX (tgt := 30) dX2_isEntry_23 (by decide) (by exact b2n_inR _) (fun c23 => ?_) (fun c23 => ?_)
    · skip
      refine wi_iconst hX dX2_isEntry_30 ?_
      refine wa_zret hX dX2_isEntry_31 (by rfl) ?_
      refine ⟨?_, rfl⟩
      first
        | (have q := b2n_t c8; rw [q]; rfl)
        | (have q := b2n_f c8; have q2 := b2n_f c23; rw [q, q2]; rfl)
        | (have q := b2n_f c8; have q2 := b2n_t c23; rw [q, q2]; rfl)
    · skip
      refine wi_iconst hX dX2_isEntry_26 ?_
      refine wa_goto hX (tgt := 31) dX2_isEntry_27 (by decide) ?_
      refine wa_zret hX dX2_isEntry_31 (by rfl) ?_
      refine ⟨?_, rfl⟩
      first
        | (have q := b2n_t c8; rw [q]; rfl)
        | (have q := b2n_f c8; have q2 := b2n_f c23; rw [q, q2]; rfl)
        | (have q := b2n_f c8; have q2 := b2n_t c23; rw [q, q2]; rfl)
set_option maxRecDepth 100000 in
theorem c_X2_keepWay (hW : WOK l D S0) (d : Nat) {h : AH} {a la mt jq kq bq nq cq lb fr el : Nat} {bs tr : Int} {B : Nat → Nat} (h9 : h a = some (la, oDra mt bs jq kq bq nq cq tr)) (hb : h bq = some (lb, aV 10 B)) (hfr : fr < 1024) : MA l D S0 yX2_keepWay cX2_keepWay 4 none d [.ref a, I (fr : Int), I (el : Int)] h 0 0 (fun r h' => r = none ∧ h' = hset h bq (lb, aV 10 (fun j => if fr.testBit j then el else B j))) (fun _ _ => False) := by
  have hab := ne_oa h9 hb
  refine MA.start hW (by decide) [.val (.ref a), .val (I (fr : Int)), .val (I (el : Int)), .unset] rfl ?_
  rintro X rfl rfl rfl hX
  refine wi_iconst hX dX2_keepWay_0 ?_
  refine wa_istore_n hX (i := 3) dX2_keepWay_1 rfl rfl ?_
  dsimp only [List.set]
  refine WA.heap (hset_self hb).symm ?_
  refine WA.loop (σ := Nat × (Nat → Int)) (fun z => 10 - z.1) (fun z => z.1 ≤ 10 ∧ ∀ j, j < 10 → z.2 j = ((if j < z.1 ∧ fr.testBit j = true then el else B j : Nat) : Int)) (fun z => hset h bq (lb, aI .int 10 z.2)) (fun z => [.val (.ref a), .val (I (fr : Int)), .val (I (el : Int)), .val (I (z.1 : Nat))]) ?_ (0, (fun j => ((B j : Nat) : Int))) ⟨Nat.zero_le _, fun j hj => by rw [if_neg (fun q => Nat.not_lt_zero j q.1)]⟩
  rintro ⟨i, K⟩ ⟨hi, hK⟩ ih
  dsimp only at hi hK ⊢
  have k1 : hset h bq (lb, aI .int 10 K) a = some (la, oDra mt bs jq kq bq nq cq tr) := (hset_ne hab).trans h9
  have k2 : hset h bq (lb, aI .int 10 K) bq = some (lb, aI .int 10 K) := hset_eq
  refine wa_iload_n hX (i := 3) dX2_keepWay_2 rfl rfl ?_
  refine wa_aload_n hX (i := 0) dX2_keepWay_3 rfl rfl ?_
  refine wa_get hX 4 (by assumption) (by rfl) (by decide +kernel) dX2_keepWay_4 ?_
  refine wa_len hX (by assumption) dX2_keepWay_7 ?_
  refine wi_icmp_ge hX (tgt := 32) dX2_keepWay_8 (by decide) (by omega) (by omega) (fun c8 => ?_) (fun c8 => ?_)
  · skip
    refine WA.ext9 (fun j => ((if fr.testBit j then el else B j : Nat) : Int)) k2 (fun j hj => by
      rw [hK j hj]
      by_cases e5 : fr.testBit j = true
      · rw [if_pos ⟨by omega, e5⟩, if_pos e5]
      · rw [if_neg (fun w => e5 w.2), if_neg e5]) ?_
    rw [hset_hset]
    refine wa_vret hX dX2_keepWay_32 ?_
    exact ⟨rfl, rfl⟩
  · skip
    refine wa_iload_n hX (i := 1) dX2_keepWay_11 rfl rfl ?_
    refine wi_iconst hX dX2_keepWay_12 ?_
    refine wa_iload_n hX (i := 3) dX2_keepWay_13 rfl rfl ?_
    refine wn_shl1 hX dX2_keepWay_14 (by rfl) (by omega) ?_
    refine wn_iand hX dX2_keepWay_15 (by rfl) (by rfl) ?_
    refine wi_if_eq hX (tgt := 26) dX2_keepWay_16 (by decide) (by exact inR_nat (and_ltl (by omega))) (fun c16 => ?_) (fun c16 => ?_)
    · skip
      refine wi_iinc hX dX2_keepWay_26 rfl ?_
      dsimp only [List.set]
      refine wa_goto hX (tgt := 2) dX2_keepWay_29 (by decide) ?_
      first
        | (have q := and_c0 c16
           refine ih (i + 1, K) ⟨by show i + 1 ≤ 10; omega, fun j hj => ?_⟩ (by show 10 - (i + 1) < 10 - i; omega)
           dsimp only
           rw [hK j hj]
           by_cases e5 : j < i ∧ fr.testBit j = true
           · rw [if_pos e5, if_pos ⟨by omega, e5.2⟩]
           · rw [if_neg e5, if_neg (fun w => by
               by_cases e6 : j = i
               · subst e6; rw [q] at w; cases w.2
               · exact e5 ⟨by omega, w.2⟩)])
        | (have q := and_c1 c16
           refine ih (i + 1, up K (i : Int).toNat (el : Int)) ⟨by show i + 1 ≤ 10; omega, fun j hj => ?_⟩ (by show 10 - (i + 1) < 10 - i; omega)
           dsimp only
           rw [up_is, Int.toNat_natCast]
           by_cases e6 : j = i
           · subst e6; rw [if_pos rfl, if_pos ⟨by omega, q⟩]
           · rw [if_neg e6, hK j hj]
             by_cases e5 : j < i ∧ fr.testBit j = true
             · rw [if_pos e5, if_pos ⟨by omega, e5.2⟩]
             · rw [if_neg e5, if_neg (fun w => e5 ⟨by omega, w.2⟩)])
    · skip
      refine wa_aload_n hX (i := 0) dX2_keepWay_19 rfl rfl ?_
      refine wa_get hX 4 (by assumption) (by rfl) (by decide +kernel) dX2_keepWay_20 ?_
      refine wa_iload_n hX (i := 3) dX2_keepWay_23 rfl rfl ?_
      refine wa_iload_n hX (i := 2) dX2_keepWay_24 rfl rfl ?_
      refine wi_iastore hX k2 (by omega) (by omega) (by omega) dX2_keepWay_25 ?_
      rw [hset_hset]
      refine wi_iinc hX dX2_keepWay_26 rfl ?_
      dsimp only [List.set]
      refine wa_goto hX (tgt := 2) dX2_keepWay_29 (by decide) ?_
      first
        | (have q := and_c0 c16
           refine ih (i + 1, K) ⟨by show i + 1 ≤ 10; omega, fun j hj => ?_⟩ (by show 10 - (i + 1) < 10 - i; omega)
           dsimp only
           rw [hK j hj]
           by_cases e5 : j < i ∧ fr.testBit j = true
           · rw [if_pos e5, if_pos ⟨by omega, e5.2⟩]
           · rw [if_neg e5, if_neg (fun w => by
               by_cases e6 : j = i
               · subst e6; rw [q] at w; cases w.2
               · exact e5 ⟨by omega, w.2⟩)])
        | (have q := and_c1 c16
           refine ih (i + 1, up K (i : Int).toNat (el : Int)) ⟨by show i + 1 ≤ 10; omega, fun j hj => ?_⟩ (by show 10 - (i + 1) < 10 - i; omega)
           dsimp only
           rw [up_is, Int.toNat_natCast]
           by_cases e6 : j = i
           · subst e6; rw [if_pos rfl, if_pos ⟨by omega, q⟩]
           · rw [if_neg e6, hK j hj]
             by_cases e5 : j < i ∧ fr.testBit j = true
             · rw [if_pos e5, if_pos ⟨by omega, e5.2⟩]
             · rw [if_neg e5, if_neg (fun w => e5 ⟨by omega, w.2⟩)])
end C53
