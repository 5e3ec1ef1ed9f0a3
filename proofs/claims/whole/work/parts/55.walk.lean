/-! Circuitfold$Drawing (X2): walk -/
def wkI (K : Nat → Nat) (front rc : Nat) (B : Nat → Nat) : Nat → Nat × Nat × (Nat → Nat)
  | 0 => (rc, 0, B)
  | n + 1 => if front.testBit n = true then ((wkI K front rc B n).1 ||| sdf (K n) (wkI K front rc B n).1, (wkI K front rc B n).2.1 ||| sdf (K n) (wkI K front rc B n).1, fun j => if (sdf (K n) (wkI K front rc B n).1).testBit j then n else (wkI K front rc B n).2.2 j) else wkI K front rc B n
def walkN (K : Nat → Nat) (to : Nat) : Nat → Nat → Nat → (Nat → Nat) → Nat × (Nat → Nat)
  | 0, _, _, B => (99, B)
  | f + 1, rc, front, B => if (wkI K front rc B 10).2.1.testBit to = true then (10 - f, (wkI K front rc B 10).2.2) else walkN K to f (wkI K front rc B 10).1 (wkI K front rc B 10).2.1 (wkI K front rc B 10).2.2
theorem wkI_lt {K : Nat → Nat} {front rc : Nat} {B : Nat → Nat} (hK : ∀ j, j < 10 → K j < 1024) (hr : rc < 1024) : ∀ n, n ≤ 10 → (wkI K front rc B n).1 < 1024 ∧ (wkI K front rc B n).2.1 < 1024 := by
  intro n
  induction n with
  | zero => intro _; exact ⟨hr, show (0 : Nat) < 1024 by decide⟩
  | succ n ih =>
    intro hn
    have h1 := ih (by omega)
    have h2 := sdf_lt (b := (wkI K front rc B n).1) (hK n (by omega))
    unfold wkI
    split
    · exact ⟨or_lt (e := 10) h1.1 h2, or_lt (e := 10) h1.2 h2⟩
    · exact h1
section C55
variable {l : Launch} {D : va_G} {S0 : State}
set_option maxRecDepth 100000 in
theorem c_X2_walk (hW : WOK l D S0) (d : Nat) {h : AH} {a la mt jq kq bq nq cq lk lb from0 to : Nat} {bs tr : Int} {K B0 : Nat → Nat} (h9 : h a = some (la, oDra mt bs jq kq bq nq cq tr)) (hk : h kq = some (lk, aV 10 K)) (hb : h bq = some (lb, aV 10 B0)) (hl : lk ≠ lb) (hK : ∀ j, j < 10 → K j < 1024) (hfr : from0 < 10) (hto : to < 10) : MA l D S0 yX2_walk cX2_walk 9 (some .int) (d + 1) [.ref a, I (from0 : Int), I (to : Int)] h 0 0 (fun r h' => r = some (I ((walkN K to 10 (2 ^ from0) (2 ^ from0) B0).1 : Nat)) ∧ h' = hset h bq (lb, aV 10 (walkN K to 10 (2 ^ from0) (2 ^ from0) B0).2)) (fun _ _ => False) := by
  have hab := ne_oa h9 hb
  have hkb : kq ≠ bq := lab_ne hb hk hl
  have hf0 : 2 ^ from0 < 2 ^ 10 := bit_lt hfr
  refine MA.start hW (by decide) [.val (.ref a), .val (I (from0 : Int)), .val (I (to : Int)), .unset, .unset, .unset, .unset, .unset, .unset] rfl ?_
  rintro X rfl rfl rfl hX
  refine wi_iconst hX dX2_walk_0 ?_
  refine wa_iload_n hX (i := 1) dX2_walk_1 rfl rfl ?_
  refine wn_shl1 hX dX2_walk_2 (by rfl) (by omega) ?_
  refine wa_istore_n hX (i := 3) dX2_walk_3 rfl (by first | rfl | exact hu1 | exact hu2 | exact hu3 | exact hu4) ?_
  dsimp only [List.set]
  refine wa_iload_n hX (i := 3) dX2_walk_4 rfl rfl ?_
  refine wa_istore hX dX2_walk_5 (by first | rfl | exact hu1 | exact hu2 | exact hu3 | exact hu4) ?_
  dsimp only [List.set]
  refine wi_iconst hX dX2_walk_7 ?_
  refine wa_istore hX dX2_walk_8 (by first | rfl | exact hu1 | exact hu2 | exact hu3 | exact hu4) ?_
  dsimp only [List.set]
  refine WA.heap (hset_self hb).symm ?_
  refine WA.loop (σ := Nat × Nat × Nat × (Nat → Nat) × Slot × Slot × Slot) (fun z => z.1) (fun z => z.1 ≤ 10 ∧ z.2.1 < 1024 ∧ z.2.2.1 < 1024 ∧ okS [z.2.2.2.2.1] 0 = true ∧ okS [z.2.2.2.2.2.1] 0 = true ∧ okS [z.2.2.2.2.2.2] 0 = true ∧ walkN K to z.1 z.2.1 z.2.2.1 z.2.2.2.1 = walkN K to 10 (2 ^ from0) (2 ^ from0) B0) (fun z => hset h bq (lb, aV 10 z.2.2.2.1)) (fun z => [.val (.ref a), .val (I (from0 : Int)), .val (I (to : Int)), .val (I (z.2.1 : Nat)), .val (I (z.2.2.1 : Nat)), .val (I ((11 - z.1 : Nat) : Int)), z.2.2.2.2.1, z.2.2.2.2.2.1, z.2.2.2.2.2.2]) ?_ (10, 2 ^ from0, 2 ^ from0, B0, .unset, .unset, .unset) ⟨Nat.le_refl _, hf0, hf0, rfl, rfl, rfl, rfl⟩
  rintro ⟨f, rc, front, B, u1, u2, u3⟩ ⟨hf, hrc, hfront, hu1, hu2, hu3, hw⟩ ih
  dsimp only at hf hrc hfront hu1 hu2 hu3 hw ⊢
  refine wa_iload hX dX2_walk_10 rfl ?_
  refine wi_bipush hX dX2_walk_12 (by decide) ?_
  refine wi_icmp_gt hX (tgt := 103) dX2_walk_14 (by decide) (by omega) (by omega) (fun c14 => ?_) (fun c14 => ?_)
  · skip
    refine wi_bipush hX dX2_walk_103 (by decide) ?_
    refine wa_iret hX dX2_walk_105 ?_
    have hf0 : f = 0 := by omega
    subst hf0
    rw [← hw]
    exact ⟨rfl, rfl⟩
  · skip
    refine wi_iconst hX dX2_walk_17 ?_
    refine wa_istore hX dX2_walk_18 (by first | rfl | exact hu1 | exact hu2 | exact hu3 | exact hu4) ?_
    dsimp only [List.set]
    refine wi_iconst hX dX2_walk_20 ?_
    refine wa_istore hX dX2_walk_21 (by first | rfl | exact hu1 | exact hu2 | exact hu3 | exact hu4) ?_
    dsimp only [List.set]
    obtain ⟨f1, rfl⟩ : ∃ f1, f = f1 + 1 := ⟨f - 1, by omega⟩
    refine WA.loop (σ := Nat × Slot) (fun z => 10 - z.1) (fun z => z.1 ≤ 10 ∧ okS [z.2] 0 = true) (fun z => hset h bq (lb, aV 10 (wkI K front rc B z.1).2.2)) (fun z => [.val (.ref a), .val (I (from0 : Int)), .val (I (to : Int)), .val (I ((wkI K front rc B z.1).1 : Nat)), .val (I (front : Nat)), .val (I ((11 - (f1 + 1) : Nat) : Int)), .val (I ((wkI K front rc B z.1).2.1 : Nat)), .val (I (z.1 : Nat)), z.2]) ?_ (0, u3) ⟨Nat.zero_le _, hu3⟩
    rintro ⟨n, u1⟩ ⟨hn, hu1⟩ ih2
    dsimp only at hn hu1 ⊢
    obtain ⟨hw1, hw2⟩ := wkI_lt (front := front) (B := B) hK hrc n hn
    have hst : wkI K front rc B (n + 1) = (if front.testBit n = true then ((wkI K front rc B n).1 ||| sdf (K n) (wkI K front rc B n).1, (wkI K front rc B n).2.1 ||| sdf (K n) (wkI K front rc B n).1, fun j => if (sdf (K n) (wkI K front rc B n).1).testBit j then n else (wkI K front rc B n).2.2 j) else wkI K front rc B n) := rfl
    have k1 : hset h bq (lb, aV 10 (wkI K front rc B n).2.2) a = some (la, oDra mt bs jq kq bq nq cq tr) := (hset_ne hab).trans h9
    have k2 : hset h bq (lb, aV 10 (wkI K front rc B n).2.2) kq = some (lk, aV 10 K) := (hset_ne hkb).trans hk
    have k3 : hset h bq (lb, aV 10 (wkI K front rc B n).2.2) bq = some (lb, aV 10 (wkI K front rc B n).2.2) := hset_eq
    refine wa_iload hX dX2_walk_23 rfl ?_
    refine wi_bipush hX dX2_walk_25 (by decide) ?_
    refine wi_icmp_ge hX (tgt := 81) dX2_walk_27 (by decide) (by omega) (by omega) (fun c27 => ?_) (fun c27 => ?_)
    · skip
      have hn10 : n = 10 := by omega
      subst hn10
      have hwf : walkN K to (f1 + 1) rc front B = (if (wkI K front rc B 10).2.1.testBit to = true then (10 - f1, (wkI K front rc B 10).2.2) else walkN K to f1 (wkI K front rc B 10).1 (wkI K front rc B 10).2.1 (wkI K front rc B 10).2.2) := rfl
      rw [hw] at hwf
      refine wa_iload hX dX2_walk_81 rfl ?_
      refine wa_iload_n hX (i := 2) dX2_walk_83 rfl rfl ?_
      refine wa_callS hX (c_X2_has hW d (s := (wkI K front rc B 10).2.1) (el := to) (by omega) (by omega)) (by rfl) (by omega) (nA := 2) (by rfl) (by decide +kernel) rfl (by exact Nat.le_of_ble_eq_true rfl) dX2_walk_84 (fun r84 h84 p84 => ?_) (fun _ _ q => q.elim)
      obtain ⟨rfl, qq84⟩ := p84; subst h84
      dsimp only [Option.toList, List.cons_append, List.nil_append]
      refine wi_if_eq hX (tgt := 93) dX2_walk_87 (by decide) (by exact b2n_inR _) (fun c87 => ?_) (fun c87 => ?_)
      · skip
        refine wa_iload hX dX2_walk_93 rfl ?_
        refine wa_istore hX dX2_walk_95 (by first | rfl | exact hu1 | exact hu2 | exact hu3 | exact hu4) ?_
        dsimp only [List.set]
        refine wi_iinc hX dX2_walk_97 rfl ?_
        dsimp only [List.set]
        refine wa_goto hX (tgt := 10) dX2_walk_100 (by decide) ?_
        have q := b2n_f c87
        rw [if_neg (by rw [q]; decide)] at hwf
        refine WA.eq rfl ?_ rfl (ih (f1, (wkI K front rc B 10).1, (wkI K front rc B 10).2.1, (wkI K front rc B 10).2.2, .val (I ((wkI K front rc B 10).2.1 : Nat)), .val (I ((10 : Nat) : Int)), u1) ⟨by show f1 ≤ 10; omega, hw1, hw2, rfl, rfl, hu1, hwf.symm⟩ (by show f1 < f1 + 1; omega))
        dsimp only
        rw [show 11 - f1 = 11 - (f1 + 1) + 1 by omega]
        rfl
      · skip
        refine wa_iload hX dX2_walk_90 rfl ?_
        refine wa_iret hX dX2_walk_92 ?_
        have q := b2n_t c87
        rw [if_pos q] at hwf
        rw [hwf]
        exact ⟨by rw [show 11 - (f1 + 1) = 10 - f1 by omega], rfl⟩
    · skip
      refine wa_iload hX dX2_walk_30 rfl ?_
      refine wa_iload hX dX2_walk_32 rfl ?_
      refine wa_callS hX (c_X2_has hW d (s := front) (el := n) (by omega) (by omega)) (by rfl) (by omega) (nA := 2) (by rfl) (by decide +kernel) rfl (by exact Nat.le_of_ble_eq_true rfl) dX2_walk_34 (fun r34 h34 p34 => ?_) (fun _ _ q => q.elim)
      obtain ⟨rfl, qq34⟩ := p34; subst h34
      dsimp only [Option.toList, List.cons_append, List.nil_append]
      refine wi_if_eq hX (tgt := 75) dX2_walk_37 (by decide) (by exact b2n_inR _) (fun c37 => ?_) (fun c37 => ?_)
      · skip
        refine wi_iinc hX dX2_walk_75 rfl ?_
        dsimp only [List.set]
        refine wa_goto hX (tgt := 23) dX2_walk_78 (by decide) ?_
        first
          | (have q := b2n_t c37
             rw [if_pos q] at hst
             refine WA.eq rfl ?_ rfl (WA.heap ?_ (ih2 (n + 1, .val (I (sdf (K n) (wkI K front rc B n).1 : Nat))) ⟨by show n + 1 ≤ 10; omega, rfl⟩ (by show 10 - (n + 1) < 10 - n; omega)))
             · dsimp only
               rw [hst]; rfl
             · dsimp only
               rw [hst])
          | (have q := b2n_f c37
             rw [if_neg (by rw [q]; decide)] at hst
             refine WA.eq rfl ?_ rfl (WA.heap ?_ (ih2 (n + 1, u1) ⟨by show n + 1 ≤ 10; omega, hu1⟩ (by show 10 - (n + 1) < 10 - n; omega)))
             · dsimp only
               rw [hst]; rfl
             · dsimp only
               rw [hst])
      · skip
        refine wa_aload_n hX (i := 0) dX2_walk_40 rfl rfl ?_
        refine wa_get hX 3 k1 (by rfl) (by decide +kernel) dX2_walk_41 ?_
        refine wa_iload hX dX2_walk_44 rfl ?_
        refine wa_callS hX (c_X2_at hW d k2 (by decide) (i := (n : Int)) (by omega)) (by rfl) (by omega) (nA := 2) (by rfl) (by decide +kernel) rfl (by exact Nat.le_of_ble_eq_true rfl) dX2_walk_46 (fun r46 h46 p46 => ?_) (fun _ _ q => q.elim)
        obtain ⟨rfl, qq46⟩ := p46; subst h46
        rw [atv_in (show n < 10 by omega)]
        dsimp only [Option.toList, List.cons_append, List.nil_append]
        refine wa_iload_n hX (i := 3) dX2_walk_49 rfl rfl ?_
        refine wi_iconst hX dX2_walk_50 ?_
        refine wa_ixor hX dX2_walk_51 ?_
        refine wn_andn hX dX2_walk_52 (by rfl) (by rfl) ?_
        refine wa_istore hX dX2_walk_53 (by first | rfl | exact hu1 | exact hu2 | exact hu3 | exact hu4) ?_
        dsimp only [List.set]
        refine wa_iload_n hX (i := 3) dX2_walk_55 rfl rfl ?_
        refine wa_iload hX dX2_walk_56 rfl ?_
        refine wn_ior hX dX2_walk_58 (by rfl) (by rfl) ?_
        refine wa_istore_n hX (i := 3) dX2_walk_59 rfl (by first | rfl | exact hu1 | exact hu2 | exact hu3 | exact hu4) ?_
        dsimp only [List.set]
        refine wa_iload hX dX2_walk_60 rfl ?_
        refine wa_iload hX dX2_walk_62 rfl ?_
        refine wn_ior hX dX2_walk_64 (by rfl) (by rfl) ?_
        refine wa_istore hX dX2_walk_65 (by first | rfl | exact hu1 | exact hu2 | exact hu3 | exact hu4) ?_
        dsimp only [List.set]
        refine wa_aload_n hX (i := 0) dX2_walk_67 rfl rfl ?_
        refine wa_iload hX dX2_walk_68 rfl ?_
        refine wa_iload hX dX2_walk_70 rfl ?_
        refine wa_callV hX (c_X2_keepWay hW d k1 k3 (fr := sdf (K n) (wkI K front rc B n).1) (el := n) (sdf_lt (hK n (by omega)))) (by assumption) (by rfl) (by rfl) (by omega) (nA := 2) (by rfl) (by decide +kernel) rfl (by exact Nat.le_of_ble_eq_true rfl) dX2_walk_72 (fun r72 h72 p72 => ?_) (fun _ _ q => q.elim)
        obtain ⟨rfl, rfl⟩ := p72
        rw [hset_hset]
        dsimp only [Option.toList, List.cons_append, List.nil_append]
        refine wi_iinc hX dX2_walk_75 rfl ?_
        dsimp only [List.set]
        refine wa_goto hX (tgt := 23) dX2_walk_78 (by decide) ?_
        first
          | (have q := b2n_t c37
             rw [if_pos q] at hst
             refine WA.eq rfl ?_ rfl (WA.heap ?_ (ih2 (n + 1, .val (I (sdf (K n) (wkI K front rc B n).1 : Nat))) ⟨by show n + 1 ≤ 10; omega, rfl⟩ (by show 10 - (n + 1) < 10 - n; omega)))
             · dsimp only
               rw [hst]; rfl
             · dsimp only
               rw [hst])
          | (have q := b2n_f c37
             rw [if_neg (by rw [q]; decide)] at hst
             refine WA.eq rfl ?_ rfl (WA.heap ?_ (ih2 (n + 1, u1) ⟨by show n + 1 ≤ 10; omega, hu1⟩ (by show 10 - (n + 1) < 10 - n; omega)))
             · dsimp only
               rw [hst]; rfl
             · dsimp only
               rw [hst])
end C55
